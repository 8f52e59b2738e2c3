def bit (w : Int64) (j : Nat) : Prop := (w >>> ((nI j).toInt64 &&& 63)) &&& 1 = 1
/-- the words of node k that are expressions or conditions -/
def kid (t : Tbl) (k : Nat) (y : Int32) : Prop := (finK (t 0 k) ∧ y = t 1 k) ∨ (sinK (t 0 k) ∧ y = t 2 k)
def BLk (t : Tbl) (B : Nat → Int64) (k : Nat) : Prop := bit (B k) k ∧ ∀ i, i < 64 → bit (B k) i → i ≤ k ∧ t 0 i ≤ 10 ∧ ∀ y, kid t i y → bit (B k) (ix y)
/-- the reference's nodes are in order -/
def MI (σ : Mem) : Prop := oknM σ ∧ WF (tM σ) (nM σ) ∧ ∀ k, k < nM σ → tM σ 0 k ≤ 10 → BLk (tM σ) (rl σ 17) k
theorem finK0 : ¬ finK 0 := by unfold finK; decide
theorem sinK0 : ¬ sinK 0 := by unfold sinK; decide
theorem finK1 : ¬ finK 1 := by unfold finK; decide
theorem sinK1 : ¬ sinK 1 := by unfold sinK; decide
theorem finK2 : finK 2 := by unfold finK; decide
theorem sinK2 : sinK 2 := by unfold sinK; decide
theorem finK3 : finK 3 := by unfold finK; decide
theorem sinK3 : sinK 3 := by unfold sinK; decide
theorem finK4 : ¬ finK 4 := by unfold finK; decide
theorem sinK4 : sinK 4 := by unfold sinK; decide
theorem finK5 : finK 5 := by unfold finK; decide
theorem sinK5 : sinK 5 := by unfold sinK; decide
theorem finK6 : finK 6 := by unfold finK; decide
theorem sinK6 : sinK 6 := by unfold sinK; decide
theorem finK7 : ¬ finK 7 := by unfold finK; decide
theorem sinK7 : sinK 7 := by unfold sinK; decide
theorem finK8 : finK 8 := by unfold finK; decide
theorem sinK8 : ¬ sinK 8 := by unfold sinK; decide
theorem finK9 : finK 9 := by unfold finK; decide
theorem sinK9 : sinK 9 := by unfold sinK; decide
theorem finK10 : finK 10 := by unfold finK; decide
theorem sinK10 : sinK 10 := by unfold sinK; decide
theorem evs_kid {t : Tbl} {s : Int32} {f g : Nat → Int32} {k : Nat} (h0 : 0 ≤ t 0 k) (h10 : t 0 k ≤ 10) (h : ∀ y, kid t k y → f (ix y) = g (ix y)) : evs t s f k = evs t s g k := by
  rcases i32_cases h0 (Int32.le_trans h10 (by decide)) with e | e | e | e | e | e | e | e | e | e | e | e | e | e | e | e
  · rw [evs0 e, evs0 e]
  · rw [evs1 e, evs1 e]
  · rw [evs2 e, evs2 e, h (t 1 k) (Or.inl ⟨by rw [e]; exact finK2, rfl⟩), h (t 2 k) (Or.inr ⟨by rw [e]; exact sinK2, rfl⟩)]
  · rw [evs3 e, evs3 e, h (t 1 k) (Or.inl ⟨by rw [e]; exact finK3, rfl⟩), h (t 2 k) (Or.inr ⟨by rw [e]; exact sinK3, rfl⟩)]
  · rw [evs4 e, evs4 e, h (t 2 k) (Or.inr ⟨by rw [e]; exact sinK4, rfl⟩)]
  · rw [evs5 e, evs5 e, h (t 1 k) (Or.inl ⟨by rw [e]; exact finK5, rfl⟩), h (t 2 k) (Or.inr ⟨by rw [e]; exact sinK5, rfl⟩)]
  · rw [evs6 e, evs6 e, h (t 1 k) (Or.inl ⟨by rw [e]; exact finK6, rfl⟩), h (t 2 k) (Or.inr ⟨by rw [e]; exact sinK6, rfl⟩)]
  · rw [evs7 e, evs7 e, h (t 2 k) (Or.inr ⟨by rw [e]; exact sinK7, rfl⟩)]
  · rw [evs8 e, evs8 e, h (t 1 k) (Or.inl ⟨by rw [e]; exact finK8, rfl⟩)]
  · rw [evs9 e, evs9 e, h (t 1 k) (Or.inl ⟨by rw [e]; exact finK9, rfl⟩), h (t 2 k) (Or.inr ⟨by rw [e]; exact sinK9, rfl⟩)]
  · rw [evs10 e, evs10 e, h (t 1 k) (Or.inl ⟨by rw [e]; exact finK10, rfl⟩), h (t 2 k) (Or.inr ⟨by rw [e]; exact sinK10, rfl⟩)]
  all_goals (rw [e] at h10; exact absurd h10 (by decide))
theorem kid_chk {t : Tbl} {k : Nat} (hw : wfn t k) (h10 : t 0 k ≤ 10) {y : Int32} (h : kid t k y) : vp_in y k ∧ t 0 (ix y) ≤ 10 ∧ hN t (ix y) < hN t k := by
  have l4 : ∀ {z : Int32}, chk t k 0 4 z → vp_in z k ∧ t 0 (ix z) ≤ 10 ∧ hN t (ix z) < hN t k := fun h => ⟨h.1, Int32.le_trans h.2.2.1 (by decide), h.2.2.2⟩
  have l10 : ∀ {z : Int32}, chk t k 5 10 z → vp_in z k ∧ t 0 (ix z) ≤ 10 ∧ hN t (ix z) < hN t k := fun h => ⟨h.1, h.2.2.1, h.2.2.2⟩
  obtain ⟨⟨h0, h15⟩, -, hE, hB, -, -, hC, hC2, -⟩ := hw
  rcases i32_cases h0 h15 with e | e | e | e | e | e | e | e | e | e | e | e | e | e | e | e
  · rcases h with ⟨z, rfl⟩ | ⟨z, rfl⟩
    · rw [e] at z; exact absurd z finK0
    · rw [e] at z; exact absurd z sinK0
  · rcases h with ⟨z, rfl⟩ | ⟨z, rfl⟩
    · rw [e] at z; exact absurd z finK1
    · rw [e] at z; exact absurd z sinK1
  · rcases h with ⟨z, rfl⟩ | ⟨z, rfl⟩
    · exact (l4 (hE (Or.inl e)).1)
    · exact (l4 (hE (Or.inl e)).2)
  · rcases h with ⟨z, rfl⟩ | ⟨z, rfl⟩
    · exact (l4 (hE (Or.inr (Or.inl e))).1)
    · exact (l4 (hE (Or.inr (Or.inl e))).2)
  · rcases h with ⟨z, rfl⟩ | ⟨z, rfl⟩
    · rw [e] at z; exact absurd z finK4
    · exact (l4 (hB (Or.inl e)))
  · rcases h with ⟨z, rfl⟩ | ⟨z, rfl⟩
    · exact (l4 (hE (Or.inr (Or.inr (Or.inl e)))).1)
    · exact (l4 (hE (Or.inr (Or.inr (Or.inl e)))).2)
  · rcases h with ⟨z, rfl⟩ | ⟨z, rfl⟩
    · exact (l4 (hE (Or.inr (Or.inr (Or.inr e)))).1)
    · exact (l4 (hE (Or.inr (Or.inr (Or.inr e)))).2)
  · rcases h with ⟨z, rfl⟩ | ⟨z, rfl⟩
    · rw [e] at z; exact absurd z finK7
    · exact (l4 (hB (Or.inr (Or.inl e))))
  · rcases h with ⟨z, rfl⟩ | ⟨z, rfl⟩
    · exact (l10 (hC (Or.inl e)))
    · rw [e] at z; exact absurd z sinK8
  · rcases h with ⟨z, rfl⟩ | ⟨z, rfl⟩
    · exact (l10 (hC (Or.inr (Or.inl e))))
    · exact (l10 (hC2 (Or.inl e)))
  · rcases h with ⟨z, rfl⟩ | ⟨z, rfl⟩
    · exact (l10 (hC (Or.inr (Or.inr e))))
    · exact (l10 (hC2 (Or.inr e)))
  all_goals (rw [e] at h10; exact absurd h10 (by decide))
def S_reckon : SpecT := fun av σ Φ => match av with
  | [Sum.inr (Sum.inr (Sum.inr q)), Sum.inl x, Sum.inl s] => thisM q 11 (vp_in x 60 ∧ wfn (tM σ) (ix x) ∧ ix x ≤ 60 ∧ tM σ 0 (ix x) ≤ 10 ∧ Φ (some (aI (evs (tM σ) s (fun j => rd σ 18 0 j) (ix x)))) σ)
  | _ => False
set_option maxRecDepth 100000 in
theorem c_reckon (l : Launch) : Con l yX5_reckon cX5_reckon 6 (some .int) 3 2 S_reckon := by
  refine Con.of (by decide) (by decide) ?_
  intro p e s s0 a0 m args below meth c D ad cA A av σ Φ hlen hS hr X
  match av, hS with
  | [Sum.inr (Sum.inr (Sum.inr q)), Sum.inl x, Sum.inl s], hS =>
    obtain ⟨rfl, hS⟩ := thisM_out hS
    refine wp_sound (ps := []) (C := fun _ _ _ _ => False) (tk_X5_reckon X hr (c_firstIsNode l) (by omega) (c_secondIsNode l) (by omega) (c_variable l) (by omega)) (fun _ _ _ _ h => h.elim) 400 _ _ _ _ ?_
    obtain ⟨hv, hw, h60, h10, hS⟩ := hS
    refine And.intro hv (And.intro hv ?_)
    have hk := fun y h => vp_mono (kid_chk hw h10 (y := y) h).1 h60
    rcases i32_cases hw.1.1 hw.1.2 with e | e | e | e | e | e | e | e | e | e | e | e | e | e | e | e
    · refine And.intro (fun _ => ?_) (fun (h : ¬ b01 (finK (tM σ 0 (ix x))) = 0) => absurd (show ¬ finK (tM σ 0 (ix x)) by rw [e]; exact finK0) (fun z => z (b01_n h)))
      refine And.intro hv ?_
      refine And.intro (fun _ => ?_) (fun (h : ¬ b01 (sinK (tM σ 0 (ix x))) = 0) => absurd (show ¬ sinK (tM σ 0 (ix x)) by rw [e]; exact sinK0) (fun z => z (b01_n h)))
      refine And.intro hv ?_
      refine And.intro (fun _ => ?_) (fun (h : ¬ tM σ 0 (ix x) = 0) => absurd e h)
      rw [evs0 e] at hS
      exact hS
    · refine And.intro (fun _ => ?_) (fun (h : ¬ b01 (finK (tM σ 0 (ix x))) = 0) => absurd (show ¬ finK (tM σ 0 (ix x)) by rw [e]; exact finK1) (fun z => z (b01_n h)))
      refine And.intro hv ?_
      refine And.intro (fun _ => ?_) (fun (h : ¬ b01 (sinK (tM σ 0 (ix x))) = 0) => absurd (show ¬ sinK (tM σ 0 (ix x)) by rw [e]; exact sinK1) (fun z => z (b01_n h)))
      refine And.intro hv ?_
      refine And.intro (fun (h : tM σ 0 (ix x) = 0) => absurd (e.symm.trans h) (by decide)) (fun _ => ?_)
      refine And.intro (fun _ => ?_) (fun (h : ¬ tM σ 0 (ix x) = 1) => absurd e h)
      rw [evs1 e] at hS
      exact hS
    · refine And.intro (fun (h : b01 (finK (tM σ 0 (ix x))) = 0) => absurd (show finK (tM σ 0 (ix x)) by rw [e]; exact finK2) (b01_0 h)) (fun _ => ?_)
      refine And.intro (hk _ (Or.inl ⟨by rw [e]; exact finK2, rfl⟩)) ?_
      refine And.intro hv ?_
      refine And.intro (fun (h : b01 (sinK (tM σ 0 (ix x))) = 0) => absurd (show sinK (tM σ 0 (ix x)) by rw [e]; exact sinK2) (b01_0 h)) (fun _ => ?_)
      refine And.intro hv ?_
      refine And.intro (hk _ (Or.inr ⟨by rw [e]; exact sinK2, rfl⟩)) ?_
      refine And.intro hv ?_
      refine And.intro (fun (h : tM σ 0 (ix x) = 0) => absurd (e.symm.trans h) (by decide)) (fun _ => ?_)
      refine And.intro (fun (h : tM σ 0 (ix x) = 1) => absurd (e.symm.trans h) (by decide)) (fun _ => ?_)
      refine And.intro (fun _ => ?_) (fun (h : ¬ tM σ 0 (ix x) = 2) => absurd e h)
      rw [evs2 e] at hS
      exact hS
    · refine And.intro (fun (h : b01 (finK (tM σ 0 (ix x))) = 0) => absurd (show finK (tM σ 0 (ix x)) by rw [e]; exact finK3) (b01_0 h)) (fun _ => ?_)
      refine And.intro (hk _ (Or.inl ⟨by rw [e]; exact finK3, rfl⟩)) ?_
      refine And.intro hv ?_
      refine And.intro (fun (h : b01 (sinK (tM σ 0 (ix x))) = 0) => absurd (show sinK (tM σ 0 (ix x)) by rw [e]; exact sinK3) (b01_0 h)) (fun _ => ?_)
      refine And.intro hv ?_
      refine And.intro (hk _ (Or.inr ⟨by rw [e]; exact sinK3, rfl⟩)) ?_
      refine And.intro hv ?_
      refine And.intro (fun (h : tM σ 0 (ix x) = 0) => absurd (e.symm.trans h) (by decide)) (fun _ => ?_)
      refine And.intro (fun (h : tM σ 0 (ix x) = 1) => absurd (e.symm.trans h) (by decide)) (fun _ => ?_)
      refine And.intro (fun (h : tM σ 0 (ix x) = 2) => absurd (e.symm.trans h) (by decide)) (fun _ => ?_)
      refine And.intro (fun _ => ?_) (fun (h : ¬ tM σ 0 (ix x) = 3) => absurd e h)
      rw [evs3 e] at hS
      exact hS
    · refine And.intro (fun _ => ?_) (fun (h : ¬ b01 (finK (tM σ 0 (ix x))) = 0) => absurd (show ¬ finK (tM σ 0 (ix x)) by rw [e]; exact finK4) (fun z => z (b01_n h)))
      refine And.intro hv ?_
      refine And.intro (fun (h : b01 (sinK (tM σ 0 (ix x))) = 0) => absurd (show sinK (tM σ 0 (ix x)) by rw [e]; exact sinK4) (b01_0 h)) (fun _ => ?_)
      refine And.intro hv ?_
      refine And.intro (hk _ (Or.inr ⟨by rw [e]; exact sinK4, rfl⟩)) ?_
      refine And.intro hv ?_
      refine And.intro (fun (h : tM σ 0 (ix x) = 0) => absurd (e.symm.trans h) (by decide)) (fun _ => ?_)
      refine And.intro (fun (h : tM σ 0 (ix x) = 1) => absurd (e.symm.trans h) (by decide)) (fun _ => ?_)
      refine And.intro (fun (h : tM σ 0 (ix x) = 2) => absurd (e.symm.trans h) (by decide)) (fun _ => ?_)
      refine And.intro (fun (h : tM σ 0 (ix x) = 3) => absurd (e.symm.trans h) (by decide)) (fun _ => ?_)
      refine And.intro (fun _ => ?_) (fun (h : ¬ tM σ 0 (ix x) = 4) => absurd e h)
      rw [evs4 e] at hS
      exact hS
    · refine And.intro (fun (h : b01 (finK (tM σ 0 (ix x))) = 0) => absurd (show finK (tM σ 0 (ix x)) by rw [e]; exact finK5) (b01_0 h)) (fun _ => ?_)
      refine And.intro (hk _ (Or.inl ⟨by rw [e]; exact finK5, rfl⟩)) ?_
      refine And.intro hv ?_
      refine And.intro (fun (h : b01 (sinK (tM σ 0 (ix x))) = 0) => absurd (show sinK (tM σ 0 (ix x)) by rw [e]; exact sinK5) (b01_0 h)) (fun _ => ?_)
      refine And.intro hv ?_
      refine And.intro (hk _ (Or.inr ⟨by rw [e]; exact sinK5, rfl⟩)) ?_
      refine And.intro hv ?_
      refine And.intro (fun (h : tM σ 0 (ix x) = 0) => absurd (e.symm.trans h) (by decide)) (fun _ => ?_)
      refine And.intro (fun (h : tM σ 0 (ix x) = 1) => absurd (e.symm.trans h) (by decide)) (fun _ => ?_)
      refine And.intro (fun (h : tM σ 0 (ix x) = 2) => absurd (e.symm.trans h) (by decide)) (fun _ => ?_)
      refine And.intro (fun (h : tM σ 0 (ix x) = 3) => absurd (e.symm.trans h) (by decide)) (fun _ => ?_)
      refine And.intro (fun (h : tM σ 0 (ix x) = 4) => absurd (e.symm.trans h) (by decide)) (fun _ => ?_)
      refine And.intro (fun _ => ?_) (fun (h : ¬ tM σ 0 (ix x) = 5) => absurd e h)
      rw [evs5 e] at hS
      refine And.intro (fun (h : rd σ 18 0 (ix (tM σ 2 (ix x))) ≤ rd σ 18 0 (ix (tM σ 1 (ix x)))) => ?_) (fun (h : ¬ rd σ 18 0 (ix (tM σ 2 (ix x))) ≤ rd σ 18 0 (ix (tM σ 1 (ix x)))) => ?_)
      · rw [if_neg (Int32.not_lt.mpr h)] at hS; exact hS
      · rw [if_pos (Int32.not_le.mp h)] at hS; exact hS
    · refine And.intro (fun (h : b01 (finK (tM σ 0 (ix x))) = 0) => absurd (show finK (tM σ 0 (ix x)) by rw [e]; exact finK6) (b01_0 h)) (fun _ => ?_)
      refine And.intro (hk _ (Or.inl ⟨by rw [e]; exact finK6, rfl⟩)) ?_
      refine And.intro hv ?_
      refine And.intro (fun (h : b01 (sinK (tM σ 0 (ix x))) = 0) => absurd (show sinK (tM σ 0 (ix x)) by rw [e]; exact sinK6) (b01_0 h)) (fun _ => ?_)
      refine And.intro hv ?_
      refine And.intro (hk _ (Or.inr ⟨by rw [e]; exact sinK6, rfl⟩)) ?_
      refine And.intro hv ?_
      refine And.intro (fun (h : tM σ 0 (ix x) = 0) => absurd (e.symm.trans h) (by decide)) (fun _ => ?_)
      refine And.intro (fun (h : tM σ 0 (ix x) = 1) => absurd (e.symm.trans h) (by decide)) (fun _ => ?_)
      refine And.intro (fun (h : tM σ 0 (ix x) = 2) => absurd (e.symm.trans h) (by decide)) (fun _ => ?_)
      refine And.intro (fun (h : tM σ 0 (ix x) = 3) => absurd (e.symm.trans h) (by decide)) (fun _ => ?_)
      refine And.intro (fun (h : tM σ 0 (ix x) = 4) => absurd (e.symm.trans h) (by decide)) (fun _ => ?_)
      refine And.intro (fun (h : tM σ 0 (ix x) = 5) => absurd (e.symm.trans h) (by decide)) (fun _ => ?_)
      refine And.intro (fun _ => ?_) (fun (h : ¬ tM σ 0 (ix x) = 6) => absurd e h)
      rw [evs6 e] at hS
      refine And.intro (fun (h : ¬ rd σ 18 0 (ix (tM σ 1 (ix x))) = rd σ 18 0 (ix (tM σ 2 (ix x)))) => ?_) (fun (h : rd σ 18 0 (ix (tM σ 1 (ix x))) = rd σ 18 0 (ix (tM σ 2 (ix x)))) => ?_)
      · rw [if_neg h] at hS; exact hS
      · rw [if_pos h] at hS; exact hS
    · refine And.intro (fun _ => ?_) (fun (h : ¬ b01 (finK (tM σ 0 (ix x))) = 0) => absurd (show ¬ finK (tM σ 0 (ix x)) by rw [e]; exact finK7) (fun z => z (b01_n h)))
      refine And.intro hv ?_
      refine And.intro (fun (h : b01 (sinK (tM σ 0 (ix x))) = 0) => absurd (show sinK (tM σ 0 (ix x)) by rw [e]; exact sinK7) (b01_0 h)) (fun _ => ?_)
      refine And.intro hv ?_
      refine And.intro (hk _ (Or.inr ⟨by rw [e]; exact sinK7, rfl⟩)) ?_
      refine And.intro hv ?_
      refine And.intro (fun (h : tM σ 0 (ix x) = 0) => absurd (e.symm.trans h) (by decide)) (fun _ => ?_)
      refine And.intro (fun (h : tM σ 0 (ix x) = 1) => absurd (e.symm.trans h) (by decide)) (fun _ => ?_)
      refine And.intro (fun (h : tM σ 0 (ix x) = 2) => absurd (e.symm.trans h) (by decide)) (fun _ => ?_)
      refine And.intro (fun (h : tM σ 0 (ix x) = 3) => absurd (e.symm.trans h) (by decide)) (fun _ => ?_)
      refine And.intro (fun (h : tM σ 0 (ix x) = 4) => absurd (e.symm.trans h) (by decide)) (fun _ => ?_)
      refine And.intro (fun (h : tM σ 0 (ix x) = 5) => absurd (e.symm.trans h) (by decide)) (fun _ => ?_)
      refine And.intro (fun (h : tM σ 0 (ix x) = 6) => absurd (e.symm.trans h) (by decide)) (fun _ => ?_)
      refine And.intro (fun _ => ?_) (fun (h : ¬ tM σ 0 (ix x) = 7) => absurd e h)
      rw [evs7 e] at hS
      refine And.intro (fun (z : tM σ 1 (ix x) = 0) => absurd (hw.2.2.2.2.1 e) (by rw [z]; decide)) ?_
      refine And.intro (fun (h : ¬ rd σ 18 0 (ix (tM σ 2 (ix x))) - rd σ 18 0 (ix (tM σ 2 (ix x))) / tM σ 1 (ix x) * tM σ 1 (ix x) = 0) => ?_) (fun (h : rd σ 18 0 (ix (tM σ 2 (ix x))) - rd σ 18 0 (ix (tM σ 2 (ix x))) / tM σ 1 (ix x) * tM σ 1 (ix x) = 0) => ?_)
      · rw [if_neg h] at hS; exact hS
      · rw [if_pos h] at hS; exact hS
    · refine And.intro (fun (h : b01 (finK (tM σ 0 (ix x))) = 0) => absurd (show finK (tM σ 0 (ix x)) by rw [e]; exact finK8) (b01_0 h)) (fun _ => ?_)
      refine And.intro (hk _ (Or.inl ⟨by rw [e]; exact finK8, rfl⟩)) ?_
      refine And.intro hv ?_
      refine And.intro (fun _ => ?_) (fun (h : ¬ b01 (sinK (tM σ 0 (ix x))) = 0) => absurd (show ¬ sinK (tM σ 0 (ix x)) by rw [e]; exact sinK8) (fun z => z (b01_n h)))
      refine And.intro hv ?_
      refine And.intro (fun (h : tM σ 0 (ix x) = 0) => absurd (e.symm.trans h) (by decide)) (fun _ => ?_)
      refine And.intro (fun (h : tM σ 0 (ix x) = 1) => absurd (e.symm.trans h) (by decide)) (fun _ => ?_)
      refine And.intro (fun (h : tM σ 0 (ix x) = 2) => absurd (e.symm.trans h) (by decide)) (fun _ => ?_)
      refine And.intro (fun (h : tM σ 0 (ix x) = 3) => absurd (e.symm.trans h) (by decide)) (fun _ => ?_)
      refine And.intro (fun (h : tM σ 0 (ix x) = 4) => absurd (e.symm.trans h) (by decide)) (fun _ => ?_)
      refine And.intro (fun (h : tM σ 0 (ix x) = 5) => absurd (e.symm.trans h) (by decide)) (fun _ => ?_)
      refine And.intro (fun (h : tM σ 0 (ix x) = 6) => absurd (e.symm.trans h) (by decide)) (fun _ => ?_)
      refine And.intro (fun (h : tM σ 0 (ix x) = 7) => absurd (e.symm.trans h) (by decide)) (fun _ => ?_)
      refine And.intro (fun _ => ?_) (fun (h : ¬ tM σ 0 (ix x) = 8) => absurd e h)
      rw [evs8 e] at hS
      exact hS
    · refine And.intro (fun (h : b01 (finK (tM σ 0 (ix x))) = 0) => absurd (show finK (tM σ 0 (ix x)) by rw [e]; exact finK9) (b01_0 h)) (fun _ => ?_)
      refine And.intro (hk _ (Or.inl ⟨by rw [e]; exact finK9, rfl⟩)) ?_
      refine And.intro hv ?_
      refine And.intro (fun (h : b01 (sinK (tM σ 0 (ix x))) = 0) => absurd (show sinK (tM σ 0 (ix x)) by rw [e]; exact sinK9) (b01_0 h)) (fun _ => ?_)
      refine And.intro hv ?_
      refine And.intro (hk _ (Or.inr ⟨by rw [e]; exact sinK9, rfl⟩)) ?_
      refine And.intro hv ?_
      refine And.intro (fun (h : tM σ 0 (ix x) = 0) => absurd (e.symm.trans h) (by decide)) (fun _ => ?_)
      refine And.intro (fun (h : tM σ 0 (ix x) = 1) => absurd (e.symm.trans h) (by decide)) (fun _ => ?_)
      refine And.intro (fun (h : tM σ 0 (ix x) = 2) => absurd (e.symm.trans h) (by decide)) (fun _ => ?_)
      refine And.intro (fun (h : tM σ 0 (ix x) = 3) => absurd (e.symm.trans h) (by decide)) (fun _ => ?_)
      refine And.intro (fun (h : tM σ 0 (ix x) = 4) => absurd (e.symm.trans h) (by decide)) (fun _ => ?_)
      refine And.intro (fun (h : tM σ 0 (ix x) = 5) => absurd (e.symm.trans h) (by decide)) (fun _ => ?_)
      refine And.intro (fun (h : tM σ 0 (ix x) = 6) => absurd (e.symm.trans h) (by decide)) (fun _ => ?_)
      refine And.intro (fun (h : tM σ 0 (ix x) = 7) => absurd (e.symm.trans h) (by decide)) (fun _ => ?_)
      refine And.intro (fun (h : tM σ 0 (ix x) = 8) => absurd (e.symm.trans h) (by decide)) (fun _ => ?_)
      refine And.intro (fun _ => ?_) (fun (h : ¬ tM σ 0 (ix x) = 9) => absurd e h)
      rw [evs9 e] at hS
      exact hS
    · refine And.intro (fun (h : b01 (finK (tM σ 0 (ix x))) = 0) => absurd (show finK (tM σ 0 (ix x)) by rw [e]; exact finK10) (b01_0 h)) (fun _ => ?_)
      refine And.intro (hk _ (Or.inl ⟨by rw [e]; exact finK10, rfl⟩)) ?_
      refine And.intro hv ?_
      refine And.intro (fun (h : b01 (sinK (tM σ 0 (ix x))) = 0) => absurd (show sinK (tM σ 0 (ix x)) by rw [e]; exact sinK10) (b01_0 h)) (fun _ => ?_)
      refine And.intro hv ?_
      refine And.intro (hk _ (Or.inr ⟨by rw [e]; exact sinK10, rfl⟩)) ?_
      refine And.intro hv ?_
      refine And.intro (fun (h : tM σ 0 (ix x) = 0) => absurd (e.symm.trans h) (by decide)) (fun _ => ?_)
      refine And.intro (fun (h : tM σ 0 (ix x) = 1) => absurd (e.symm.trans h) (by decide)) (fun _ => ?_)
      refine And.intro (fun (h : tM σ 0 (ix x) = 2) => absurd (e.symm.trans h) (by decide)) (fun _ => ?_)
      refine And.intro (fun (h : tM σ 0 (ix x) = 3) => absurd (e.symm.trans h) (by decide)) (fun _ => ?_)
      refine And.intro (fun (h : tM σ 0 (ix x) = 4) => absurd (e.symm.trans h) (by decide)) (fun _ => ?_)
      refine And.intro (fun (h : tM σ 0 (ix x) = 5) => absurd (e.symm.trans h) (by decide)) (fun _ => ?_)
      refine And.intro (fun (h : tM σ 0 (ix x) = 6) => absurd (e.symm.trans h) (by decide)) (fun _ => ?_)
      refine And.intro (fun (h : tM σ 0 (ix x) = 7) => absurd (e.symm.trans h) (by decide)) (fun _ => ?_)
      refine And.intro (fun (h : tM σ 0 (ix x) = 8) => absurd (e.symm.trans h) (by decide)) (fun _ => ?_)
      refine And.intro (fun (h : tM σ 0 (ix x) = 9) => absurd (e.symm.trans h) (by decide)) (fun _ => ?_)
      rw [evs10 e] at hS
      exact hS
    all_goals (rw [e] at h10; exact absurd h10 (by decide))
theorem lg_cmp_ne {a b : Int64} : ¬ lg_cmp a b = 0 ↔ ¬ a = b := by
  unfold lg_cmp
  constructor
  · intro h e
    subst e
    exact h (by simp)
  · intro h
    by_cases hg : a > b
    · rw [if_pos hg]; decide
    · rw [if_neg hg, if_neg h]; decide
def S_give : SpecT := fun av σ Φ => match av with
  | [Sum.inr (Sum.inr (Sum.inr q)), Sum.inl x, Sum.inl s] => thisM q 11 (MI σ ∧ isN (tM σ) (nM σ) 0 10 x ∧ ∀ σ', eqx [18] σ σ' → Φ (some (aI (EV (tM σ) s (ix x)))) σ')
  | _ => False
set_option maxRecDepth 100000 in
theorem c_give (l : Launch) : Con l yX5_give cX5_give 4 (some .int) 3 3 S_give := by
  refine Con.of (by decide) (by decide) ?_
  intro p e s s0 a0 m args below meth c D ad cA A av σ Φ hlen hS hr X
  match av, hS with
  | [Sum.inr (Sum.inr (Sum.inr q)), Sum.inl x, Sum.inl s], hS =>
    obtain ⟨rfl, hS⟩ := thisM_out hS
    obtain ⟨⟨hn, hwf, hbl⟩, ⟨hx, -, hx10⟩, hS⟩ := hS
    have hxl := vp_lt hx
    have h60 := hn.2
    obtain ⟨hb1, hb2⟩ := hbl _ hxl hx10
    have ex : x = nI (ix x) := by
      obtain ⟨j, hj, e⟩ := vp_in_of hx (by omega)
      rw [e, ix, nI_clamp (by omega)]
    refine wp_meth (β := Nat) (ps := [2]) (N := 60) (N0 := 20) (fun _ => 2) (fun j => [some (aR 11 0), some (aI x), some (aI s), some (aI (nI j))]) (fun j σ' => j ≤ ix x + 1 ∧ eqx [18] σ σ' ∧ ∀ i, i < j → bit (rl σ 17 (ix x)) i → rd σ' 18 0 i = EV (tM σ) s i) (fun j _ => 61 - j) (tk_X5_give X hr (c_reckon l) (by omega)) ?_ ?_
    · rintro j σ' ⟨hj, he, hI⟩
      have ht := tM_eqx he (by decide)
      refine And.intro (fun (h1 : x < nI j) => ?_) (fun (h1 : ¬ x < nI j) => ?_)
      · refine And.intro (vp_mono hx h60) ?_
        have hjx : ix x < j := by
          rw [ex, nI_ltI (by omega) (by omega)] at h1
          exact h1
        have := hS σ' he
        rw [← hI (ix x) hjx hb1] at this
        exact this
      · have hjx : j ≤ ix x := by
          rw [ex, nI_ltI (by omega) (by omega)] at h1
          omega
        refine And.intro (vp_mono hx h60) ?_
        have hbe : rl σ' 17 (ix x) = rl σ 17 (ix x) := he.rl 17 (ix x)
        refine And.intro (fun (h2 : ¬ lg_cmp ((rl σ' 17 (ix x) >>> ((nI j).toInt64 &&& 63)) &&& 1) 1 = 0) => ?_) (fun (h2 : lg_cmp ((rl σ' 17 (ix x) >>> ((nI j).toInt64 &&& 63)) &&& 1) 1 = 0) => ?_)
        · rw [hbe, lg_cmp_ne] at h2
          refine ⟨j + 1, rfl, ⟨rfl, rfl, rfl, by rw [nI_succ]; rfl, trivial⟩, rfl, ⟨by omega, he, fun i hi hb => ?_⟩, by show 61 - (j + 1) < 61 - j; omega⟩
          by_cases hij : i = j
          · subst hij; exact absurd hb h2
          · exact hI i (by omega) hb
        · have h2 : bit (rl σ 17 (ix x)) j := by
            rw [hbe] at h2
            exact Classical.byContradiction fun z => lg_cmp_ne.mpr z h2
          obtain ⟨-, hj10, hjk⟩ := hb2 j (by omega) h2
          have hjn : j < nM σ := by omega
          have hwj := hwf.2 j hjn
          have hcl : ix (nI j) = j := nI_clamp (by omega)
          refine And.intro (vp_in_nI (by omega) (by omega)) (And.intro (by rw [ht, hcl]; exact hwj) (And.intro (by rw [hcl]; omega) (And.intro (by rw [ht, hcl]; exact hj10) ?_)))
          refine And.intro (vp_in_nI (by omega) (by omega)) ?_
          refine ⟨j + 1, rfl, ⟨rfl, rfl, rfl, by rw [nI_succ]; rfl, trivial⟩, rfl, ⟨by omega, he.wr (by decide), fun i hi hb => ?_⟩, by show 61 - (j + 1) < 61 - j; omega⟩
          rw [rd_wr]
          by_cases hij : i = j
          · subst hij
            rw [if_pos ⟨rfl, rfl, hcl.symm⟩, hcl, ht, EV_unf hwf s hjn hj10]
            refine evs_kid hwj.1.1 hj10 (fun y hy => ?_)
            exact hI _ (vp_lt (kid_chk hwj hj10 hy).1) (hjk y hy)
          · rw [if_neg (fun z => hij (z.2.2.trans hcl))]
            exact hI i (by omega) hb
    · exact ⟨0, rfl, ⟨rfl, rfl, rfl, rfl, trivial⟩, rfl, ⟨by omega, eqx.refl _ _, fun i hi => absurd hi (by omega)⟩, trivial⟩
def S_isTrue : SpecT := fun av σ Φ => match av with
  | [Sum.inr (Sum.inr (Sum.inr q)), Sum.inl x, Sum.inl s] => thisM q 11 (MI σ ∧ isN (tM σ) (nM σ) 5 10 x ∧ ∀ σ', eqx [18] σ σ' → Φ (some (aI (EV (tM σ) s (ix x)))) σ')
  | _ => False
set_option maxRecDepth 100000 in
theorem c_isTrue (l : Launch) : Con l yX5_isTrue cX5_isTrue 3 (some .boolean) 3 4 S_isTrue := by
  refine Con.of (by decide) (by decide) ?_
  intro p e s s0 a0 m args below meth c D ad cA A av σ Φ hlen hS hr X
  match av, hS with
  | [Sum.inr (Sum.inr (Sum.inr q)), Sum.inl x, Sum.inl s], hS =>
    obtain ⟨rfl, hS⟩ := thisM_out hS
    refine wp_sound (ps := []) (C := fun _ _ _ _ => False) (tk_X5_isTrue X hr (c_give l) (by omega)) (fun _ _ _ _ h => h.elim) 400 _ _ _ _ ?_
    obtain ⟨hM, hx, hS⟩ := hS
    have h01 := EV_01 hM.2.1 s 6 (ix x) (vp_lt hx.1) (hM.2.1.2 _ (vp_lt hx.1)).2.1.2 hx.2.1 hx.2.2
    refine And.intro hM (And.intro ⟨hx.1, Int32.le_trans (by decide) hx.2.1, hx.2.2⟩ (fun σ' he => ?_))
    have hS := hS σ' he
    refine And.intro (fun (h : ¬ EV (tM σ) s (ix x) = 1) => ?_) (fun (h : EV (tM σ) s (ix x) = 1) => ?_)
    · rcases h01 with z | z
      · rw [z] at hS; exact And.intro (Or.inl rfl) hS
      · exact absurd z h
    · rw [h] at hS; exact And.intro (Or.inr rfl) hS
/-- a store with a variable changed -/
def chg (s a v : Int32) : Int32 := (s &&& (15 <<< ((4 * a) &&& 31) ^^^ (-1))) ||| ((v &&& 15) <<< ((4 * a) &&& 31))
def S_changed : SpecT := fun av σ Φ => match av with
  | [Sum.inr (Sum.inr (Sum.inr q)), Sum.inl x, Sum.inl s] => thisM q 11 (MI σ ∧ isN (tM σ) (nM σ) 12 12 x ∧ ∀ σ', eqx [18] σ σ' → Φ (some (aI (chg s (tM σ 1 (ix x)) (EV (tM σ) s (ix (tM σ 2 (ix x))))))) σ')
  | _ => False
set_option maxRecDepth 100000 in
theorem c_changed (l : Launch) : Con l yX5_changed cX5_changed 4 (some .int) 3 4 S_changed := by
  refine Con.of (by decide) (by decide) ?_
  intro p e s s0 a0 m args below meth c D ad cA A av σ Φ hlen hS hr X
  match av, hS with
  | [Sum.inr (Sum.inr (Sum.inr q)), Sum.inl x, Sum.inl s], hS =>
    obtain ⟨rfl, hS⟩ := thisM_out hS
    refine wp_sound (ps := []) (C := fun _ _ _ _ => False) (tk_X5_changed X hr (c_give l) (by omega)) (fun _ _ _ _ h => h.elim) 400 _ _ _ _ ?_
    obtain ⟨hM, hx, hS⟩ := hS
    have hv := vp_mono hx.1 hM.1.2
    have hk : tM σ 0 (ix x) = 12 := Int32.le_antisymm hx.2.2 hx.2.1
    have hw := hM.2.1.2 _ (vp_lt hx.1)
    have hc := (hw.2.2.2.1 (Or.inr (Or.inr hk)))
    have hlt := vp_lt hx.1
    refine And.intro hv ?_
    refine And.intro hM (And.intro ⟨vp_mono hc.1 (by omega), hc.2.1, Int32.le_trans hc.2.2.1 (by decide)⟩ (fun σ' he => ?_))
    refine And.intro hv (And.intro hv ?_)
    have hS := hS σ' he
    have e1 : rd σ' 13 0 (ix x) = tM σ 1 (ix x) := he.1 13 0 (ix x) (by decide)
    rw [← e1] at hS
    exact hS
