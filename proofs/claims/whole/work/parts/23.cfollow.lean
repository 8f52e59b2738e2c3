/-! FOLLOWING A PATH, DUTIES -/
abbrev Duty : Type := Int32 × Int32 × List Int32 × Int32
/-- the store behind a command without a loop on its way; else -1 or -2, by the first loop's invariant -/
def folF (t : Tbl) : Nat → Int32 → Int32 → Int32
  | 0, _, s => s
  | d + 1, x, s =>
    if t 0 (ix x) = 12 then chg s (t 1 (ix x)) (EV t s (ix (t 2 (ix x))))
    else if t 0 (ix x) = 13 then (if 0 ≤ folF t d (t 1 (ix x)) s then folF t d (t 2 (ix x)) (folF t d (t 1 (ix x)) s) else folF t d (t 1 (ix x)) s)
    else if t 0 (ix x) = 14 then folF t d (if EV t s (ix (t 1 (ix x))) = 0 then t 3 (ix x) else t 2 (ix x)) s
    else if t 0 (ix x) = 15 then (if EV t s (ix (t 2 (ix x))) = 0 then -2 else -1)
    else s
def ghF (t : Tbl) : List Int32 → Int32 → Int32 → Int32
  | [], g, s => EV t s (ix g)
  | x :: K, g, s => if 0 ≤ folF t 6 x s then ghF t K g (folF t 6 x s) else if folF t 6 x s = -1 then 1 else 0
def kpV (t : Tbl) (D : Duty) (s : Int32) : Int32 :=
  if D.1 = 0 then (if EV t s (ix D.2.1) = 0 then 1 else ghF t D.2.2.1 D.2.2.2 s)
  else if EV t s (ix (t 2 (ix D.2.1))) = 0 then 1
  else if EV t s (ix (t 1 (ix D.2.1))) = (if D.1 = 1 then 1 else 0) then ghF t D.2.2.1 D.2.2.2 s else 1
def vK (t : Tbl) (nn : Nat) (K : List Int32) : Prop := ∀ x ∈ K, isN t nn 11 15 x
def vD (t : Tbl) (nn : Nat) (D : Duty) : Prop := ((D.1 = 0 ∧ isN t nn 5 10 D.2.1) ∨ ((D.1 = 1 ∨ D.1 = 2) ∧ isN t nn 15 15 D.2.1)) ∧ vK t nn D.2.2.1 ∧ isN t nn 5 10 D.2.2.2 ∧ D.2.2.1.length ≤ 6
theorem EV01 {t : Tbl} {n : Nat} (hw : WF t n) (s : Int32) {x : Int32} (hx : isN t n 5 10 x) : EV t s (ix x) = 0 ∨ EV t s (ix x) = 1 := EV_01 hw s 6 (ix x) (vp_lt hx.1) (hw.2 _ (vp_lt hx.1)).2.1.2 hx.2.1 hx.2.2
/-- a store, or one of the two words -/
theorem folF_r {t : Tbl} {n : Nat} (hw : WF t n) : ∀ (d : Nat) (x s : Int32), isN t n 11 15 x → rng s → rng (folF t d x s) ∨ folF t d x s = -1 ∨ folF t d x s = -2 := by
  intro d
  induction d with
  | zero => intro x s _ hs; exact Or.inl hs
  | succ d ih =>
    intro x s hx hs
    have hlt := vp_lt hx.1
    obtain ⟨-, -, -, -, -, h12, -, -, h13, h14, h15⟩ := hw.2 _ hlt
    unfold folF
    split
    · next e => exact Or.inl (chg_rng hs (h12 e).1 (h12 e).2)
    · split
      · next e =>
        obtain ⟨ca, cb⟩ := h13 e
        have ha := ih (t 1 (ix x)) s (ca.isN (by omega)) hs
        split
        · next h0 =>
          rcases ha with z | z | z
          · exact ih _ _ (cb.isN (by omega)) z
          · rw [z] at h0; exact absurd h0 (by decide)
          · rw [z] at h0; exact absurd h0 (by decide)
        · exact ha
      · split
        · next e =>
          obtain ⟨-, cb, cc⟩ := h14 e
          split
          · exact ih _ _ (cc.isN (by omega)) hs
          · exact ih _ _ (cb.isN (by omega)) hs
        · split
          · split
            · exact Or.inr (Or.inr rfl)
            · exact Or.inr (Or.inl rfl)
          · exact Or.inl hs
theorem ghF_01 {t : Tbl} {n : Nat} (hw : WF t n) {g : Int32} (hg : isN t n 5 10 g) : ∀ (K : List Int32) (s : Int32), ghF t K g s = 0 ∨ ghF t K g s = 1
  | [], s => EV01 hw s hg
  | x :: K, s => by
    unfold ghF
    split
    · exact ghF_01 hw hg K _
    · split
      · exact Or.inr rfl
      · exact Or.inl rfl
theorem kpV_01 {t : Tbl} {n : Nat} (hw : WF t n) {D : Duty} (hD : vD t n D) (s : Int32) : kpV t D s = 0 ∨ kpV t D s = 1 := by
  have h := ghF_01 hw hD.2.2.1 D.2.2.1 s
  unfold kpV
  by_cases h1 : D.1 = 0
  · rw [if_pos h1]
    by_cases h2 : EV t s (ix D.2.1) = 0
    · rw [if_pos h2]; exact Or.inr rfl
    · rw [if_neg h2]; exact h
  · rw [if_neg h1]
    by_cases h2 : EV t s (ix (t 2 (ix D.2.1))) = 0
    · rw [if_pos h2]; exact Or.inr rfl
    · rw [if_neg h2]
      by_cases h3 : EV t s (ix (t 1 (ix D.2.1))) = (if D.1 = 1 then 1 else 0)
      · rw [if_pos h3]; exact h
      · rw [if_neg h3]; exact Or.inr rfl
def S_follow (d : Nat) : SpecT := fun av σ Φ => match av with
  | [Sum.inr (Sum.inr (Sum.inr q)), Sum.inl x, Sum.inl s] => thisM q 8 (CI σ ∧ isN (tC σ) (nC σ) 11 15 x ∧ hN (tC σ) (ix x) ≤ d ∧ rng s ∧ Φ (some (aI (folF (tC σ) d x s))) σ)
  | _ => False
set_option maxRecDepth 100000 in
theorem c_follow_s (l : Launch) (d : Nat) (ih : Con l yX0_follow cX0_follow 6 (some .int) 3 (20 + d) (S_follow d)) : Con l yX0_follow cX0_follow 6 (some .int) 3 (20 + (d + 1)) (S_follow (d + 1)) := by
  refine Con.of (by decide) (by decide) ?_
  intro p e s s0 a0 m args below meth c D ad cA A av σ Φ hlen hS hr X
  match av, hS with
  | [Sum.inr (Sum.inr (Sum.inr q)), Sum.inl x, Sum.inl s], hS =>
    obtain ⟨rfl, hS⟩ := thisM_out hS
    refine wp_sound (ps := []) (C := fun _ _ _ _ => False) (tk_X0_follow X hr (c_numberIn l 6) (by omega) (c_changedStore l) (by omega) (ih) (by omega) (c_isTrueIn l 6) (by omega)) (fun _ _ _ _ h => h.elim) 400 _ _ _ _ ?_
    obtain ⟨hC, hx, hd, hs, hS⟩ := hS
    have hlt := vp_lt hx.1
    have hv := vp_mono hx.1 hC.1.2
    have hw := hC.2.2 _ hlt
    have h6 := hw.2.1.2
    obtain ⟨⟨hk0, hk15⟩, -, -, hB, -, h12, -, -, h13, h14, h15⟩ := hw
    refine And.intro hv (And.intro hv (And.intro hv ?_))
    unfold folF at hS
    rcases i32_cases hk0 hk15 with e | e | e | e | e | e | e | e | e | e | e | e | e | e | e | e
    all_goals (try (exact absurd hx.2.1 (by rw [e]; decide)))
    · refine And.intro (fun _ => ?_) (fun (h : ¬ tC σ 0 (ix x) = 11) => absurd e h)
      rw [if_neg (by rw [e]; decide), if_neg (by rw [e]; decide), if_neg (by rw [e]; decide), if_neg (by rw [e]; decide)] at hS
      exact hS
    · refine And.intro (fun (h : tC σ 0 (ix x) = 11) => absurd (e.symm.trans h) (by decide)) (fun _ => ?_)
      refine And.intro (fun _ => ?_) (fun (h : ¬ tC σ 0 (ix x) = 12) => absurd e h)
      rw [if_pos e] at hS
      have cb := hB (Or.inr (Or.inr e))
      have db : hN (tC σ) (ix (tC σ 2 (ix x))) ≤ 6 := by have := cb.2.2.2; omega
      exact And.intro hC (And.intro (cb.isN (by omega)) (And.intro db hS))
    · refine And.intro (fun (h : tC σ 0 (ix x) = 11) => absurd (e.symm.trans h) (by decide)) (fun _ => ?_)
      refine And.intro (fun (h : tC σ 0 (ix x) = 12) => absurd (e.symm.trans h) (by decide)) (fun _ => ?_)
      refine And.intro (fun _ => ?_) (fun (h : ¬ tC σ 0 (ix x) = 13) => absurd e h)
      rw [if_neg (by rw [e]; decide), if_pos e] at hS
      obtain ⟨ca, cb⟩ := h13 e
      have da : hN (tC σ) (ix (tC σ 1 (ix x))) ≤ d := by have := ca.2.2.2; omega
      have db : hN (tC σ) (ix (tC σ 2 (ix x))) ≤ d := by have := cb.2.2.2; omega
      have hr := folF_r hC.2 d _ s (ca.isN (Nat.le_of_lt hlt)) hs
      refine And.intro hC (And.intro (ca.isN (by omega)) (And.intro da (And.intro hs ?_)))
      refine And.intro (fun (h : 0 ≤ folF (tC σ) d (tC σ 1 (ix x)) s) => ?_) (fun (h : ¬ 0 ≤ folF (tC σ) d (tC σ 1 (ix x)) s) => ?_)
      · rw [if_pos h] at hS
        refine And.intro hC (And.intro (cb.isN (by omega)) (And.intro db (And.intro ?_ hS)))
        rcases hr with z | z | z
        · exact z
        · rw [z] at h; exact absurd h (by decide)
        · rw [z] at h; exact absurd h (by decide)
      · rw [if_neg h] at hS
        exact hS
    · refine And.intro (fun (h : tC σ 0 (ix x) = 11) => absurd (e.symm.trans h) (by decide)) (fun _ => ?_)
      refine And.intro (fun (h : tC σ 0 (ix x) = 12) => absurd (e.symm.trans h) (by decide)) (fun _ => ?_)
      refine And.intro (fun (h : tC σ 0 (ix x) = 13) => absurd (e.symm.trans h) (by decide)) (fun _ => ?_)
      refine And.intro (fun _ => ?_) (fun (h : ¬ tC σ 0 (ix x) = 14) => absurd e h)
      rw [if_neg (by rw [e]; decide), if_neg (by rw [e]; decide), if_pos e] at hS
      obtain ⟨ca, cb, cc3⟩ := h14 e
      have da : hN (tC σ) (ix (tC σ 1 (ix x))) ≤ 6 := by have := ca.2.2.2; omega
      have db : hN (tC σ) (ix (tC σ 2 (ix x))) ≤ d := by have := cb.2.2.2; omega
      have dc : hN (tC σ) (ix (tC σ 3 (ix x))) ≤ d := by have := cc3.2.2.2; omega
      refine And.intro hC (And.intro (ca.isN (by omega)) (And.intro da ?_))
      refine And.intro (fun (h : EV (tC σ) s (ix (tC σ 1 (ix x))) = 0) => ?_) (fun (h : ¬ EV (tC σ) s (ix (tC σ 1 (ix x))) = 0) => ?_)
      · rw [if_pos h] at hS
        exact And.intro hv (And.intro hC (And.intro (cc3.isN (by omega)) (And.intro dc (And.intro hs hS))))
      · rw [if_neg h] at hS
        exact And.intro hC (And.intro (cb.isN (by omega)) (And.intro db (And.intro hs hS)))
    · refine And.intro (fun (h : tC σ 0 (ix x) = 11) => absurd (e.symm.trans h) (by decide)) (fun _ => ?_)
      refine And.intro (fun (h : tC σ 0 (ix x) = 12) => absurd (e.symm.trans h) (by decide)) (fun _ => ?_)
      refine And.intro (fun (h : tC σ 0 (ix x) = 13) => absurd (e.symm.trans h) (by decide)) (fun _ => ?_)
      refine And.intro (fun (h : tC σ 0 (ix x) = 14) => absurd (e.symm.trans h) (by decide)) (fun _ => ?_)
      rw [if_neg (by rw [e]; decide), if_neg (by rw [e]; decide), if_neg (by rw [e]; decide), if_pos e] at hS
      obtain ⟨-, cb, -⟩ := h15 e
      have db : hN (tC σ) (ix (tC σ 2 (ix x))) ≤ 6 := by have := cb.2.2.2; omega
      refine And.intro hC (And.intro (cb.isN (by omega)) (And.intro db ?_))
      refine And.intro (fun (h : EV (tC σ) s (ix (tC σ 2 (ix x))) = 0) => ?_) (fun (h : ¬ EV (tC σ) s (ix (tC σ 2 (ix x))) = 0) => ?_)
      · rw [if_pos h] at hS; exact hS
      · rw [if_neg h] at hS; exact hS
theorem c_follow (l : Launch) : ∀ d, Con l yX0_follow cX0_follow 6 (some .int) 3 (20 + d) (S_follow d)
  | 0 => Con.none (by
    intro av σ Φ hS
    match av, hS with
    | [Sum.inr (Sum.inr (Sum.inr q)), Sum.inl x, Sum.inl s], hS =>
      obtain ⟨rfl, hC, hx, hd, -⟩ := thisM_out hS
      have := (hC.2.2 _ (vp_lt hx.1)).2.1.1
      omega)
  | d + 1 => c_follow_s l d (c_follow l d)
/-- a duty's path in its row: the last is the first -/
def PL (σ : Mem) (i : Nat) : List Int32 → Prop
  | [] => True
  | x :: K => rd σ 37 i K.length = x ∧ PL σ i K
def CR (t : Tbl) (σ : Mem) (i : Nat) (D : Duty) : Prop :=
  (D.1 = 0 → rd σ 36 i 0 = D.2.1 ∧ rd σ 36 i 1 = -1) ∧ (¬ D.1 = 0 → rd σ 36 i 0 = t 2 (ix D.2.1) ∧ rd σ 36 i 1 = t 1 (ix D.2.1) ∧ rd σ 36 i 2 = (if D.1 = 1 then 1 else 0)) ∧ rd σ 36 i 4 = nI D.2.2.1.length ∧ rd σ 36 i 5 = D.2.2.2 ∧ PL σ i D.2.2.1
/-- the class's duties -/
def DSt (σ : Mem) (Ds : List Duty) : Prop := CI σ ∧ rd σ 8 0 3 = nI Ds.length ∧ Ds.length ≤ 16 ∧ ∀ (i : Nat) (D : Duty), Ds[i]? = some D → CR (tC σ) σ i D ∧ vD (tC σ) (nC σ) D
def S_goalHolds : SpecT := fun av σ Φ => match av with
  | [Sum.inr (Sum.inr (Sum.inr q)), Sum.inr (Sum.inr (Sum.inr w)), Sum.inl s] => thisM q 8 (∃ (i : Nat) (D : Duty), w = (36, i) ∧ i < 16 ∧ CI σ ∧ CR (tC σ) σ i D ∧ vD (tC σ) (nC σ) D ∧ rng s ∧ Φ (some (aI (ghF (tC σ) D.2.2.1 D.2.2.2 s))) σ)
  | _ => False
set_option maxRecDepth 100000 in
theorem c_goalHolds (l : Launch) : Con l yX0_goalHoldsBehindPath cX0_goalHoldsBehindPath 5 (some .boolean) 3 27 S_goalHolds := by
  refine Con.of (by decide) (by decide) ?_
  intro p e s s0 a0 m args below meth c D ad cA A av σ Φ hlen hS hr X
  match av, hS with
  | [Sum.inr (Sum.inr (Sum.inr q)), Sum.inr (Sum.inr (Sum.inr w)), Sum.inl s], hS =>
    obtain ⟨rfl, hS⟩ := thisM_out hS
    obtain ⟨i, ⟨dh, dn, K0, g⟩, rfl, hi, hC, ⟨-, -, hlen, hgo, hPL⟩, ⟨-, hvK, hg, h6⟩, hs, hS⟩ := hS
    dsimp only at hlen hgo hPL hvK hg h6 hS
    obtain ⟨v0, hv0⟩ : ∃ v, v = ghF (tC σ) K0 g s := ⟨_, rfl⟩
    rw [← hv0] at hS
    have gh01 := fun (K : List Int32) (s1 : Int32) => ghF_01 hC.2 hg K s1
    refine wp_meth (β := List Int32 × Int32) (ps := [10]) (N := 100) (N0 := 40) (fun _ => 10) (fun b => [some (aR 8 0), some (aR 36 i), none, some (aI b.2), some (aI (nI b.1.length - 1))]) (fun b σ' => σ' = σ ∧ PL σ i b.1 ∧ vK (tC σ) (nC σ) b.1 ∧ b.1.length ≤ 6 ∧ rng b.2 ∧ ghF (tC σ) b.1 g b.2 = v0) (fun b _ => b.1.length) (tk_X0_goalHoldsBehindPath X hr (c_follow l 6) (by omega) (c_isTrueIn l 6) (by omega)) ?_ ?_
    · rintro ⟨K, s1⟩ σ' ⟨rfl, hP, hK, hl6, hs1, hgh⟩
      dsimp only at hP hK hl6 hs1 hgh ⊢
      cases K with
      | nil =>
        refine And.intro (fun _ => ?_) (fun (h : ¬ nI 0 - 1 < 0) => absurd (by decide) h)
        refine And.intro hi (And.intro hC (And.intro (by rw [← hgo] at hg; exact hg) (And.intro (by have := (hC.2.2 _ (vp_lt hg.1)).2.1.2; rw [← hgo] at this; exact this) ?_)))
        have e9 : EV (tC σ') s1 (ix g) = v0 := hgh
        rw [← e9, ← hgo] at hS
        refine And.intro ?_ hS
        have := gh01 [] s1
        rw [← hgo] at this
        exact this
      | cons x K =>
        have e1 : nI (K.length + 1) - 1 = nI K.length := nI_pred _
        have hc : ix (nI (K.length + 1) - 1) = K.length := by rw [e1]; simp only [List.length_cons] at hl6; exact nI_clamp (by omega)
        simp only [List.length_cons] at hl6
        refine And.intro (fun (h : nI (K.length + 1) - 1 < 0) => absurd h (by rw [e1]; exact nI_pos (by omega))) (fun _ => ?_)
        refine And.intro hi (And.intro hi (And.intro (by show vp_in (nI (K.length + 1) - 1) 6; rw [e1]; exact vp_in_nI (by omega) (by decide)) ?_))
        have hx := hK x List.mem_cons_self
        have ex : rd σ' 37 i (ix (nI (K.length + 1) - 1)) = x := by rw [hc]; exact hP.1
        have hx' := hx
        rw [← ex] at hx'
        refine And.intro hC (And.intro hx' (And.intro ((hC.2.2 _ (vp_lt hx'.1)).2.1.2) (And.intro hs1 ?_)))
        unfold ghF at hgh
        rw [← ex] at hgh
        refine And.intro (fun (h : 0 ≤ folF (tC σ') 6 (rd σ' 37 i (ix (nI (K.length + 1) - 1))) s1) => ?_) (fun (h : ¬ 0 ≤ folF (tC σ') 6 (rd σ' 37 i (ix (nI (K.length + 1) - 1))) s1) => ?_)
        · rw [if_pos h] at hgh
          refine ⟨(K, folF (tC σ') 6 (rd σ' 37 i (ix (nI (K.length + 1) - 1))) s1), rfl, ⟨rfl, rfl, rfl, by show some (some (aI (nI (K.length + 1) - 1 + (-1)))) = some (some (aI (nI K.length - 1))); rw [e1, Int32.sub_eq_add_neg], trivial⟩, rfl, ⟨rfl, hP.2, fun y hy => hK y (List.mem_cons_of_mem _ hy), by show K.length ≤ 6; omega, ?_, hgh⟩, by show K.length < K.length + 1; omega⟩
          rcases folF_r hC.2 6 _ s1 hx' hs1 with z | z | z
          · exact z
          · rw [z] at h; exact absurd h (by decide)
          · rw [z] at h; exact absurd h (by decide)
        · rw [if_neg h] at hgh
          refine And.intro (fun (h2 : ¬ folF (tC σ') 6 (rd σ' 37 i (ix (nI (K.length + 1) - 1))) s1 = -1) => ?_) (fun (h2 : folF (tC σ') 6 (rd σ' 37 i (ix (nI (K.length + 1) - 1))) s1 = -1) => ?_)
          · rw [if_neg h2] at hgh
            rw [← hgh] at hS
            exact And.intro (Or.inl rfl) hS
          · rw [if_pos h2] at hgh
            rw [← hgh] at hS
            exact And.intro (Or.inr rfl) hS
    · refine And.intro hi ?_
      exact ⟨(K0, s), rfl, ⟨rfl, rfl, rfl, by show some (some (aI (rd σ 36 i 4 - 1))) = _; rw [hlen], trivial⟩, rfl, ⟨rfl, hPL, hvK, h6, hs, hv0.symm⟩, trivial⟩
