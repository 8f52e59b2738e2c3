theorem Con.none {l : Launch} {y : MethodName} {cc : ByteArray} {maxL n lev : Nat} {ret : Option FieldType} {S : SpecT} (h : ∀ av σ Φ, ¬ S av σ Φ) : Con l y cc maxL ret n lev S := fun _ _ _ _ _ _ av σ Φ _ _ hS => absurd hS (h av σ Φ)
/-- the class's nodes are in order -/
def CI (σ : Mem) : Prop := oknC σ ∧ WF (tC σ) (nC σ)
def srt (x : Int32) : Int32 := if 5 ≤ x then (if 11 ≤ x then 7 else 6) else 5
def S_sortOf : SpecT := fun av σ Φ => match av with
  | [Sum.inl x] => Φ (some (aI (srt x))) σ
  | _ => False
set_option maxRecDepth 100000 in
theorem c_sortOf (l : Launch) : Con l yX2_sortOf cX2_sortOf 1 (some .int) 1 0 S_sortOf := by
  refine Con.of (by decide) (by decide) ?_
  intro p e s s0 a0 m args below meth c D ad cA A av σ Φ hlen hS hr X
  match av, hS with
  | [Sum.inl x], hS =>
    replace hS : Φ (some (aI (srt x))) σ := hS
    refine wp_sound (ps := []) (C := fun _ _ _ _ => False) (tk_X2_sortOf X hr) (fun _ _ _ _ h => h.elim) 400 _ _ _ _ ?_
    refine And.intro (fun h1 => ?_) (fun h1 => ?_)
    · refine And.intro (fun h2 => ?_) (fun h2 => ?_)
      · rw [srt, if_pos h1, if_pos h2] at hS; exact hS
      · rw [srt, if_pos h1, if_neg h2] at hS; exact hS
    · rw [srt, if_neg h1] at hS; exact hS
def S_has : SpecT := fun av σ Φ => match av with
  | [Sum.inr (Sum.inr (Sum.inr q)), Sum.inl x, Sum.inl r] => thisM q 1 (oknC σ ∧ Φ (some (aI (b01 (vp_in x (nC σ) ∧ srt (tC σ 0 (ix x)) = r)))) σ)
  | _ => False
set_option maxRecDepth 100000 in
theorem c_has (l : Launch) : Con l yX2_has cX2_has 3 (some .boolean) 3 1 S_has := by
  refine Con.of (by decide) (by decide) ?_
  intro p e s s0 a0 m args below meth c D ad cA A av σ Φ hlen hS hr X
  match av, hS with
  | [Sum.inr (Sum.inr (Sum.inr q)), Sum.inl x, Sum.inl r], hS =>
    obtain ⟨rfl, hS⟩ := thisM_out hS
    refine wp_sound (ps := []) (C := fun _ _ _ _ => False) (tk_X2_has X hr (c_sortOf l) (by omega)) (fun _ _ _ _ h => h.elim) 400 _ _ _ _ ?_
    obtain ⟨⟨hn, h60⟩, hS⟩ := hS
    have e0 : (0 : Int32).toInt = 0 := by decide
    have en : (nI (nC σ)).toInt = (nC σ : Int) := nI_toInt (by omega)
    refine And.intro (fun h1 => ?_) (fun h1 => ?_)
    · rw [b01_f (fun z => by
        have z1 := (vp_in_iff.mp z.1).1
        have := Int32.lt_iff_toInt_lt.mp h1
        omega)] at hS
      exact And.intro (Or.inl rfl) hS
    · refine And.intro (fun (h2 : rd σ 1 0 5 ≤ x) => ?_) (fun (h2 : ¬ rd σ 1 0 5 ≤ x) => ?_)
      · rw [b01_f (fun z => by
          have z1 := (vp_in_iff.mp z.1).2
          rw [hn] at h2
          have := Int32.le_iff_toInt_le.mp h2
          omega)] at hS
        exact And.intro (Or.inl rfl) hS
      · have hv : vp_in x (nC σ) := by
          rw [hn] at h2
          have a := Int32.lt_iff_toInt_lt.mp (Int32.not_le.mp h2)
          have b := Int32.le_iff_toInt_le.mp (Int32.not_lt.mp h1)
          exact vp_in_iff.mpr ⟨by omega, by omega⟩
        refine And.intro (vp_mono hv h60) ?_
        refine And.intro (fun (h3 : ¬ srt (tC σ 0 (ix x)) = r) => ?_) (fun (h3 : srt (tC σ 0 (ix x)) = r) => ?_)
        · rw [b01_f (fun z => h3 z.2)] at hS; exact And.intro (Or.inl rfl) hS
        · rw [b01_t ⟨hv, h3⟩] at hS; exact And.intro (Or.inr rfl) hS
theorem srt_le4 {x : Int32} (h : x ≤ 4) : srt x = 5 := by
  rw [srt, if_neg (fun z => absurd (Int32.le_trans z h) (by decide))]
theorem srt_10 {x : Int32} (h5 : 5 ≤ x) (h : x ≤ 10) : srt x = 6 := by
  rw [srt, if_pos h5, if_neg (fun z => absurd (Int32.le_trans z h) (by decide))]
theorem srt_15 {x : Int32} (h : 11 ≤ x) : srt x = 7 := by
  rw [srt, if_pos (Int32.le_trans (by decide) h), if_pos h]
theorem has_iff {t : Tbl} {n : Nat} (hw : WF t n) (x : Int32) : ((vp_in x n ∧ srt (t 0 (ix x)) = 5) ↔ isN t n 0 4 x) ∧ ((vp_in x n ∧ srt (t 0 (ix x)) = 6) ↔ isN t n 5 10 x) ∧ ((vp_in x n ∧ srt (t 0 (ix x)) = 7) ↔ isN t n 11 15 x) := by
  have key : vp_in x n → (srt (t 0 (ix x)) = 5 ↔ 0 ≤ t 0 (ix x) ∧ t 0 (ix x) ≤ 4) ∧ (srt (t 0 (ix x)) = 6 ↔ 5 ≤ t 0 (ix x) ∧ t 0 (ix x) ≤ 10) ∧ (srt (t 0 (ix x)) = 7 ↔ 11 ≤ t 0 (ix x) ∧ t 0 (ix x) ≤ 15) := by
    intro hv
    obtain ⟨h0, h15⟩ := (hw.2 _ (vp_lt hv)).1
    rcases i32_cases h0 h15 with e | e | e | e | e | e | e | e | e | e | e | e | e | e | e | e <;> rw [e] <;> decide
  refine ⟨⟨fun h => ⟨h.1, (key h.1).1.mp h.2⟩, fun h => ⟨h.1, (key h.1).1.mpr h.2⟩⟩, ⟨fun h => ⟨h.1, (key h.1).2.1.mp h.2⟩, fun h => ⟨h.1, (key h.1).2.1.mpr h.2⟩⟩, ⟨fun h => ⟨h.1, (key h.1).2.2.mp h.2⟩, fun h => ⟨h.1, (key h.1).2.2.mpr h.2⟩⟩⟩
def S_changedStore : SpecT := fun av σ Φ => match av with
  | [Sum.inl s, Sum.inl a, Sum.inl v] => Φ (some (aI (chg s a v))) σ
  | _ => False
set_option maxRecDepth 100000 in
theorem c_changedStore (l : Launch) : Con l yX4_changedStore cX4_changedStore 4 (some .int) 3 0 S_changedStore := by
  refine Con.of (by decide) (by decide) ?_
  intro p e s s0 a0 m args below meth c D ad cA A av σ Φ hlen hS hr X
  match av, hS with
  | [Sum.inl s, Sum.inl a, Sum.inl v], hS =>
    replace hS : Φ (some (aI (chg s a v))) σ := hS
    refine wp_sound (ps := []) (C := fun _ _ _ _ => False) (tk_X4_changedStore X hr) (fun _ _ _ _ h => h.elim) 400 _ _ _ _ ?_
    exact hS
def S_isStore : SpecT := fun av σ Φ => match av with
  | [Sum.inl s] => Φ (some (aI (b01 (0 ≤ s ∧ s ≤ 4095)))) σ
  | _ => False
set_option maxRecDepth 100000 in
theorem c_isStore (l : Launch) : Con l yX4_isStore cX4_isStore 1 (some .boolean) 1 0 S_isStore := by
  refine Con.of (by decide) (by decide) ?_
  intro p e s s0 a0 m args below meth c D ad cA A av σ Φ hlen hS hr X
  match av, hS with
  | [Sum.inl s], hS =>
    replace hS : Φ (some (aI (b01 (0 ≤ s ∧ s ≤ 4095)))) σ := hS
    refine wp_sound (ps := []) (C := fun _ _ _ _ => False) (tk_X4_isStore X hr) (fun _ _ _ _ h => h.elim) 400 _ _ _ _ ?_
    refine And.intro (fun h1 => ?_) (fun h1 => ?_)
    · rw [b01_f (fun z => absurd h1 (Int32.not_lt.mpr z.1))] at hS; exact And.intro (Or.inl rfl) hS
    · refine And.intro (fun h2 => ?_) (fun h2 => ?_)
      · rw [b01_f (fun z => absurd h2 (Int32.not_lt.mpr z.2))] at hS; exact And.intro (Or.inl rfl) hS
      · rw [b01_t ⟨Int32.not_lt.mp h1, Int32.not_lt.mp h2⟩] at hS; exact And.intro (Or.inr rfl) hS
def S_numberIn (d : Nat) : SpecT := fun av σ Φ => match av with
  | [Sum.inr (Sum.inr (Sum.inr q)), Sum.inl x, Sum.inl s] => thisM q 1 (CI σ ∧ isN (tC σ) (nC σ) 0 4 x ∧ hN (tC σ) (ix x) ≤ d ∧ Φ (some (aI (EV (tC σ) s (ix x)))) σ)
  | _ => False
set_option maxRecDepth 100000 in
theorem c_numberIn_s (l : Launch) (d : Nat) (ih : Con l yX2_numberIn cX2_numberIn 5 (some .int) 3 d (S_numberIn d)) : Con l yX2_numberIn cX2_numberIn 5 (some .int) 3 (d + 1) (S_numberIn (d + 1)) := by
  refine Con.of (by decide) (by decide) ?_
  intro p e s s0 a0 m args below meth c D ad cA A av σ Φ hlen hS hr X
  match av, hS with
  | [Sum.inr (Sum.inr (Sum.inr q)), Sum.inl x, Sum.inl s], hS =>
    obtain ⟨rfl, hS⟩ := thisM_out hS
    refine wp_sound (ps := []) (C := fun _ _ _ _ => False) (tk_X2_numberIn X hr (ih) (by omega)) (fun _ _ _ _ h => h.elim) 400 _ _ _ _ ?_
    obtain ⟨hC, hx, hd, hS⟩ := hS
    have hlt := vp_lt hx.1
    have hv := vp_mono hx.1 hC.1.2
    have hw := hC.2.2 _ hlt
    have h10 : tC σ 0 (ix x) ≤ 10 := Int32.le_trans hx.2.2 (by decide)
    have kidE : ∀ y, chk (tC σ) (ix x) 0 4 y → isN (tC σ) (nC σ) 0 4 y ∧ hN (tC σ) (ix y) ≤ d := fun y h => ⟨h.isN (by omega), by have := h.2.2.2; omega⟩
    have kidC : ∀ y, chk (tC σ) (ix x) 5 10 y → isN (tC σ) (nC σ) 5 10 y ∧ hN (tC σ) (ix y) ≤ d := fun y h => ⟨h.isN (by omega), by have := h.2.2.2; omega⟩
    rw [EV_unf hC.2 s hlt h10] at hS
    obtain ⟨⟨h0, h15⟩, -, hE, hB, h7, -, hCn, hCn2, -⟩ := hw
    refine And.intro hv (And.intro hv (And.intro hv ?_))
    rcases i32_cases h0 h15 with e | e | e | e | e | e | e | e | e | e | e | e | e | e | e | e
    · refine And.intro (fun _ => ?_) (fun (h : ¬ tC σ 0 (ix x) = 0) => absurd e h)
      rw [evs0 e] at hS
      exact hS
    · refine And.intro (fun (h : tC σ 0 (ix x) = 0) => absurd (e.symm.trans h) (by decide)) (fun _ => ?_)
      refine And.intro (fun _ => ?_) (fun (h : ¬ tC σ 0 (ix x) = 1) => absurd e h)
      rw [evs1 e] at hS
      exact hS
    · refine And.intro (fun (h : tC σ 0 (ix x) = 0) => absurd (e.symm.trans h) (by decide)) (fun _ => ?_)
      refine And.intro (fun (h : tC σ 0 (ix x) = 1) => absurd (e.symm.trans h) (by decide)) (fun _ => ?_)
      refine And.intro (fun _ => ?_) (fun (h : ¬ tC σ 0 (ix x) = 2) => absurd e h)
      rw [evs2 e] at hS
      obtain ⟨ha, hb⟩ := hE (Or.inl e)
      refine And.intro hC (And.intro (kidE _ ha).1 (And.intro (kidE _ ha).2 ?_))
      refine And.intro hC (And.intro (kidE _ hb).1 (And.intro (kidE _ hb).2 ?_))
      exact hS
    · refine And.intro (fun (h : tC σ 0 (ix x) = 0) => absurd (e.symm.trans h) (by decide)) (fun _ => ?_)
      refine And.intro (fun (h : tC σ 0 (ix x) = 1) => absurd (e.symm.trans h) (by decide)) (fun _ => ?_)
      refine And.intro (fun (h : tC σ 0 (ix x) = 2) => absurd (e.symm.trans h) (by decide)) (fun _ => ?_)
      refine And.intro (fun _ => ?_) (fun (h : ¬ tC σ 0 (ix x) = 3) => absurd e h)
      rw [evs3 e] at hS
      obtain ⟨ha, hb⟩ := hE (Or.inr (Or.inl e))
      refine And.intro hC (And.intro (kidE _ ha).1 (And.intro (kidE _ ha).2 ?_))
      refine And.intro hC (And.intro (kidE _ hb).1 (And.intro (kidE _ hb).2 ?_))
      exact hS
    · refine And.intro (fun (h : tC σ 0 (ix x) = 0) => absurd (e.symm.trans h) (by decide)) (fun _ => ?_)
      refine And.intro (fun (h : tC σ 0 (ix x) = 1) => absurd (e.symm.trans h) (by decide)) (fun _ => ?_)
      refine And.intro (fun (h : tC σ 0 (ix x) = 2) => absurd (e.symm.trans h) (by decide)) (fun _ => ?_)
      refine And.intro (fun (h : tC σ 0 (ix x) = 3) => absurd (e.symm.trans h) (by decide)) (fun _ => ?_)
      rw [evs4 e] at hS
      have hb := hB (Or.inl e)
      refine And.intro hC (And.intro (kidE _ hb).1 (And.intro (kidE _ hb).2 ?_))
      exact hS
    all_goals exact absurd hx.2.2 (by rw [e]; decide)
theorem c_numberIn_0 (l : Launch) : Con l yX2_numberIn cX2_numberIn 5 (some .int) 3 0 (S_numberIn 0) := Con.none (by
  intro av σ Φ hS
  match av, hS with
  | [Sum.inr (Sum.inr (Sum.inr q)), Sum.inl x, Sum.inl s], hS =>
    obtain ⟨rfl, hC, hx, hd, -⟩ := thisM_out hS
    have := (hC.2.2 _ (vp_lt hx.1)).2.1.1
    omega)
theorem c_numberIn (l : Launch) : ∀ d, Con l yX2_numberIn cX2_numberIn 5 (some .int) 3 d (S_numberIn d)
  | 0 => c_numberIn_0 l
  | d + 1 => c_numberIn_s l d (c_numberIn l d)
def S_isTrueIn (d : Nat) : SpecT := fun av σ Φ => match av with
  | [Sum.inr (Sum.inr (Sum.inr q)), Sum.inl x, Sum.inl s] => thisM q 1 (CI σ ∧ isN (tC σ) (nC σ) 5 10 x ∧ hN (tC σ) (ix x) ≤ d ∧ Φ (some (aI (EV (tC σ) s (ix x)))) σ)
  | _ => False
set_option maxRecDepth 100000 in
theorem c_isTrueIn_s (l : Launch) (d : Nat) (ih : Con l yX2_isTrueIn cX2_isTrueIn 5 (some .boolean) 3 (10 + d) (S_isTrueIn d)) : Con l yX2_isTrueIn cX2_isTrueIn 5 (some .boolean) 3 (10 + (d + 1)) (S_isTrueIn (d + 1)) := by
  refine Con.of (by decide) (by decide) ?_
  intro p e s s0 a0 m args below meth c D ad cA A av σ Φ hlen hS hr X
  match av, hS with
  | [Sum.inr (Sum.inr (Sum.inr q)), Sum.inl x, Sum.inl s], hS =>
    obtain ⟨rfl, hS⟩ := thisM_out hS
    refine wp_sound (ps := []) (C := fun _ _ _ _ => False) (tk_X2_isTrueIn X hr (c_numberIn l 6) (by omega) (ih) (by omega)) (fun _ _ _ _ h => h.elim) 400 _ _ _ _ ?_
    obtain ⟨hC, hx, hd, hS⟩ := hS
    have hlt := vp_lt hx.1
    have hv := vp_mono hx.1 hC.1.2
    have hw := hC.2.2 _ hlt
    have h10 : tC σ 0 (ix x) ≤ 10 := Int32.le_trans hx.2.2 (by decide)
    have kidE : ∀ y, chk (tC σ) (ix x) 0 4 y → isN (tC σ) (nC σ) 0 4 y ∧ hN (tC σ) (ix y) ≤ 6 := fun y h => ⟨h.isN (by omega), by have := h.2.2.2; have := hw.2.1.2; omega⟩
    have kidC : ∀ y, chk (tC σ) (ix x) 5 10 y → isN (tC σ) (nC σ) 5 10 y ∧ hN (tC σ) (ix y) ≤ d := fun y h => ⟨h.isN (by omega), by have := h.2.2.2; omega⟩
    have k01 : ∀ y, chk (tC σ) (ix x) 5 10 y → EV (tC σ) s (ix y) = 0 ∨ EV (tC σ) s (ix y) = 1 := fun y h => EV_01 hC.2 s 6 (ix y) (by have := vp_lt h.1; omega) (by have := h.2.2.2; have := hw.2.1.2; omega) h.2.1 h.2.2.1
    rw [EV_unf hC.2 s hlt h10] at hS
    obtain ⟨⟨h0, h15⟩, -, hE, hB, h7, -, hCn, hCn2, -⟩ := hw
    refine And.intro hv (And.intro hv (And.intro hv ?_))
    rcases i32_cases h0 h15 with e | e | e | e | e | e | e | e | e | e | e | e | e | e | e | e
    · exact absurd hx.2.1 (by rw [e]; decide)
    · exact absurd hx.2.1 (by rw [e]; decide)
    · exact absurd hx.2.1 (by rw [e]; decide)
    · exact absurd hx.2.1 (by rw [e]; decide)
    · exact absurd hx.2.1 (by rw [e]; decide)
    · refine And.intro (fun _ => ?_) (fun (h : ¬ tC σ 0 (ix x) = 5) => absurd e h)
      rw [evs5 e] at hS
      obtain ⟨ha, hb⟩ := hE (Or.inr (Or.inr (Or.inl e)))
      refine And.intro hC (And.intro (kidE _ ha).1 (And.intro (kidE _ ha).2 ?_))
      refine And.intro hC (And.intro (kidE _ hb).1 (And.intro (kidE _ hb).2 ?_))
      refine And.intro (fun (h : EV (tC σ) s (ix (tC σ 2 (ix x))) ≤ EV (tC σ) s (ix (tC σ 1 (ix x)))) => ?_) (fun (h : ¬ EV (tC σ) s (ix (tC σ 2 (ix x))) ≤ EV (tC σ) s (ix (tC σ 1 (ix x)))) => ?_)
      · rw [if_neg (Int32.not_lt.mpr h)] at hS; exact And.intro (Or.inl rfl) hS
      · rw [if_pos (Int32.not_le.mp h)] at hS; exact And.intro (Or.inr rfl) hS
    · refine And.intro (fun (h : tC σ 0 (ix x) = 5) => absurd (e.symm.trans h) (by decide)) (fun _ => ?_)
      refine And.intro (fun _ => ?_) (fun (h : ¬ tC σ 0 (ix x) = 6) => absurd e h)
      rw [evs6 e] at hS
      obtain ⟨ha, hb⟩ := hE (Or.inr (Or.inr (Or.inr e)))
      refine And.intro hC (And.intro (kidE _ ha).1 (And.intro (kidE _ ha).2 ?_))
      refine And.intro hC (And.intro (kidE _ hb).1 (And.intro (kidE _ hb).2 ?_))
      refine And.intro (fun (h : ¬ EV (tC σ) s (ix (tC σ 1 (ix x))) = EV (tC σ) s (ix (tC σ 2 (ix x)))) => ?_) (fun (h : EV (tC σ) s (ix (tC σ 1 (ix x))) = EV (tC σ) s (ix (tC σ 2 (ix x)))) => ?_)
      · rw [if_neg h] at hS; exact And.intro (Or.inl rfl) hS
      · rw [if_pos h] at hS; exact And.intro (Or.inr rfl) hS
    · refine And.intro (fun (h : tC σ 0 (ix x) = 5) => absurd (e.symm.trans h) (by decide)) (fun _ => ?_)
      refine And.intro (fun (h : tC σ 0 (ix x) = 6) => absurd (e.symm.trans h) (by decide)) (fun _ => ?_)
      refine And.intro (fun _ => ?_) (fun (h : ¬ tC σ 0 (ix x) = 7) => absurd e h)
      rw [evs7 e] at hS
      have hb := hB (Or.inr (Or.inl e))
      refine And.intro hC (And.intro (kidE _ hb).1 (And.intro (kidE _ hb).2 ?_))
      refine And.intro (fun (z : tC σ 1 (ix x) = 0) => absurd (h7 e) (by rw [z]; decide)) ?_
      refine And.intro (fun (h : ¬ EV (tC σ) s (ix (tC σ 2 (ix x))) - EV (tC σ) s (ix (tC σ 2 (ix x))) / tC σ 1 (ix x) * tC σ 1 (ix x) = 0) => ?_) (fun (h : EV (tC σ) s (ix (tC σ 2 (ix x))) - EV (tC σ) s (ix (tC σ 2 (ix x))) / tC σ 1 (ix x) * tC σ 1 (ix x) = 0) => ?_)
      · rw [if_neg h] at hS; exact And.intro (Or.inl rfl) hS
      · rw [if_pos h] at hS; exact And.intro (Or.inr rfl) hS
    · refine And.intro (fun (h : tC σ 0 (ix x) = 5) => absurd (e.symm.trans h) (by decide)) (fun _ => ?_)
      refine And.intro (fun (h : tC σ 0 (ix x) = 6) => absurd (e.symm.trans h) (by decide)) (fun _ => ?_)
      refine And.intro (fun (h : tC σ 0 (ix x) = 7) => absurd (e.symm.trans h) (by decide)) (fun _ => ?_)
      refine And.intro (fun _ => ?_) (fun (h : ¬ tC σ 0 (ix x) = 8) => absurd e h)
      rw [evs8 e] at hS
      have ha := hCn (Or.inl e)
      refine And.intro hC (And.intro (kidC _ ha).1 (And.intro (kidC _ ha).2 ?_))
      refine And.intro (fun (h : ¬ EV (tC σ) s (ix (tC σ 1 (ix x))) = 0) => ?_) (fun (h : EV (tC σ) s (ix (tC σ 1 (ix x))) = 0) => ?_)
      · rw [(k01 _ ha).resolve_left h] at hS; exact And.intro (Or.inl rfl) hS
      · rw [h] at hS; exact And.intro (Or.inr rfl) hS
    · refine And.intro (fun (h : tC σ 0 (ix x) = 5) => absurd (e.symm.trans h) (by decide)) (fun _ => ?_)
      refine And.intro (fun (h : tC σ 0 (ix x) = 6) => absurd (e.symm.trans h) (by decide)) (fun _ => ?_)
      refine And.intro (fun (h : tC σ 0 (ix x) = 7) => absurd (e.symm.trans h) (by decide)) (fun _ => ?_)
      refine And.intro (fun (h : tC σ 0 (ix x) = 8) => absurd (e.symm.trans h) (by decide)) (fun _ => ?_)
      refine And.intro (fun _ => ?_) (fun (h : ¬ tC σ 0 (ix x) = 9) => absurd e h)
      rw [evs9 e] at hS
      have ha := hCn (Or.inr (Or.inl e))
      have hb := hCn2 (Or.inl e)
      refine And.intro hC (And.intro (kidC _ ha).1 (And.intro (kidC _ ha).2 ?_))
      refine And.intro (fun (h : EV (tC σ) s (ix (tC σ 1 (ix x))) = 0) => ?_) (fun (h : ¬ EV (tC σ) s (ix (tC σ 1 (ix x))) = 0) => ?_)
      · rw [h, Int32.zero_and] at hS; exact And.intro (Or.inl rfl) hS
      · refine And.intro hC (And.intro (kidC _ hb).1 (And.intro (kidC _ hb).2 ?_))
        refine And.intro (fun (h2 : EV (tC σ) s (ix (tC σ 2 (ix x))) = 0) => ?_) (fun (h2 : ¬ EV (tC σ) s (ix (tC σ 2 (ix x))) = 0) => ?_)
        · rw [h2, Int32.and_zero] at hS; exact And.intro (Or.inl rfl) hS
        · rw [(k01 _ ha).resolve_left h, (k01 _ hb).resolve_left h2] at hS; exact And.intro (Or.inr rfl) hS
    · refine And.intro (fun (h : tC σ 0 (ix x) = 5) => absurd (e.symm.trans h) (by decide)) (fun _ => ?_)
      refine And.intro (fun (h : tC σ 0 (ix x) = 6) => absurd (e.symm.trans h) (by decide)) (fun _ => ?_)
      refine And.intro (fun (h : tC σ 0 (ix x) = 7) => absurd (e.symm.trans h) (by decide)) (fun _ => ?_)
      refine And.intro (fun (h : tC σ 0 (ix x) = 8) => absurd (e.symm.trans h) (by decide)) (fun _ => ?_)
      refine And.intro (fun (h : tC σ 0 (ix x) = 9) => absurd (e.symm.trans h) (by decide)) (fun _ => ?_)
      rw [evs10 e] at hS
      have ha := hCn (Or.inr (Or.inr e))
      have hb := hCn2 (Or.inr e)
      refine And.intro hC (And.intro (kidC _ ha).1 (And.intro (kidC _ ha).2 ?_))
      refine And.intro (fun (h : ¬ EV (tC σ) s (ix (tC σ 1 (ix x))) = 0) => ?_) (fun (h : EV (tC σ) s (ix (tC σ 1 (ix x))) = 0) => ?_)
      · rw [(k01 _ ha).resolve_left h] at hS
        rcases k01 _ hb with z | z <;> rw [z] at hS <;> exact And.intro (Or.inr rfl) hS
      · refine And.intro hC (And.intro (kidC _ hb).1 (And.intro (kidC _ hb).2 ?_))
        refine And.intro (fun (h2 : EV (tC σ) s (ix (tC σ 2 (ix x))) = 0) => ?_) (fun (h2 : ¬ EV (tC σ) s (ix (tC σ 2 (ix x))) = 0) => ?_)
        · rw [h, h2] at hS; exact And.intro (Or.inl rfl) hS
        · rw [h, (k01 _ hb).resolve_left h2] at hS; exact And.intro (Or.inr rfl) hS
    · exact absurd hx.2.2 (by rw [e]; decide)
    · exact absurd hx.2.2 (by rw [e]; decide)
    · exact absurd hx.2.2 (by rw [e]; decide)
    · exact absurd hx.2.2 (by rw [e]; decide)
    · exact absurd hx.2.2 (by rw [e]; decide)
theorem c_isTrueIn_0 (l : Launch) : Con l yX2_isTrueIn cX2_isTrueIn 5 (some .boolean) 3 (10 + 0) (S_isTrueIn 0) := Con.none (by
  intro av σ Φ hS
  match av, hS with
  | [Sum.inr (Sum.inr (Sum.inr q)), Sum.inl x, Sum.inl s], hS =>
    obtain ⟨rfl, hC, hx, hd, -⟩ := thisM_out hS
    have := (hC.2.2 _ (vp_lt hx.1)).2.1.1
    omega)
theorem c_isTrueIn (l : Launch) : ∀ d, Con l yX2_isTrueIn cX2_isTrueIn 5 (some .boolean) 3 (10 + d) (S_isTrueIn d)
  | 0 => c_isTrueIn_0 l
  | d + 1 => c_isTrueIn_s l d (c_isTrueIn l d)
