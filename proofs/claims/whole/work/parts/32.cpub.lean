theorem fitK_kd {t : Tbl} {n : Nat} {kd a b c : Int32} (h : fitK t n kd a b c) : 0 ≤ kd ∧ kd ≤ 15 := by
  unfold fitK at h
  by_cases e0 : kd = 0
  · subst e0; decide
  rw [if_neg e0] at h
  by_cases e1 : kd = 1
  · subst e1; decide
  rw [if_neg e1] at h
  by_cases e2 : kd = 2
  · subst e2; decide
  rw [if_neg e2] at h
  by_cases e3 : kd = 3
  · subst e3; decide
  rw [if_neg e3] at h
  by_cases e4 : kd = 4
  · subst e4; decide
  rw [if_neg e4] at h
  by_cases e5 : kd = 5
  · subst e5; decide
  rw [if_neg e5] at h
  by_cases e6 : kd = 6
  · subst e6; decide
  rw [if_neg e6] at h
  by_cases e7 : kd = 7
  · subst e7; decide
  rw [if_neg e7] at h
  by_cases e8 : kd = 8
  · subst e8; decide
  rw [if_neg e8] at h
  by_cases e9 : kd = 9
  · subst e9; decide
  rw [if_neg e9] at h
  by_cases e10 : kd = 10
  · subst e10; decide
  rw [if_neg e10] at h
  by_cases e11 : kd = 11
  · subst e11; decide
  rw [if_neg e11] at h
  by_cases e12 : kd = 12
  · subst e12; decide
  rw [if_neg e12] at h
  by_cases e13 : kd = 13
  · subst e13; decide
  rw [if_neg e13] at h
  by_cases e14 : kd = 14
  · subst e14; decide
  rw [if_neg e14] at h
  by_cases e15 : kd = 15
  · subst e15; decide
  rw [if_neg e15] at h
  exact h.elim
def S_makeC : SpecX := fun av σ Φ Ψ => match av with
  | [Sum.inr (Sum.inr (Sum.inr q)), Sum.inl kd, Sum.inl a, Sum.inl b, Sum.inl c] => thisM q 0 (CI σ ∧ (¬ fitK (tC σ) (nC σ) kd a b c → Ψ "java/lang/IllegalArgumentException" σ) ∧ (fitK (tC σ) (nC σ) kd a b c → (nC σ = 60 ∨ ¬ hgt (tC σ) kd a b c ≤ 6 → Ψ "java/lang/IllegalStateException" σ) ∧ (nC σ < 60 → hgt (tC σ) kd a b c ≤ 6 → Φ (some (aI (rd σ 1 0 5))) (addC σ kd a b c (hgt (tC σ) kd a b c)))))
  | _ => False
set_option maxRecDepth 100000 in
theorem c_makeC (l : Launch) : ConX l yX4_make cX4_make 6 (some .int) 5 6 S_makeC := by
  refine ConX.of (by decide) (by decide) ?_
  intro p e s s0 a0 m args below meth c D ad cA A av σ Φ Ψ hlen hS hr htab X
  match av, hS with
  | [Sum.inr (Sum.inr (Sum.inr q)), Sum.inl kd, Sum.inl a, Sum.inl b, Sum.inl c], hS =>
    obtain ⟨rfl, hS⟩ := thisM_out hS
    refine wp_sound (ps := []) (C := fun _ _ _ _ => False) (tk_X4_make X hr htab (by omega) (c_haveWordsFor l) (by omega) (c_heightOf l) (by omega) (c_addC l) (by omega)) (fun _ _ _ _ h => h.elim) 200 _ _ _ _ ?_
    obtain ⟨hC, hS1, hS2⟩ := hS
    have kdr : fitK (tC σ) (nC σ) kd a b c → 0 ≤ kd ∧ kd ≤ 15 := fitK_kd
    refine And.intro (fun (h : kd < 0) => hS1 (fun z => absurd h (Int32.not_lt.mpr (kdr z).1))) (fun (h1 : ¬ kd < 0) => ?_)
    refine And.intro (fun (h : 15 < kd) => hS1 (fun z => absurd h (Int32.not_lt.mpr (kdr z).2))) (fun (h2 : ¬ 15 < kd) => ?_)
    have hv : vp_in kd 16 := (rng_iff (n := 16) (by decide)).mp ⟨Int32.not_lt.mp h1, Int32.not_lt.mp h2⟩
    refine And.intro hC (And.intro hv ?_)
    refine And.intro (fun (h3 : ¬ b01 (fitK (tC σ) (nC σ) kd a b c) = 0) => ?_) (fun (h3 : b01 (fitK (tC σ) (nC σ) kd a b c) = 0) => hS1 (b01_0 h3))
    have hf := b01_n h3
    obtain ⟨hS3, hS4⟩ := hS2 hf
    refine And.intro hC (And.intro hv (And.intro hf ?_))
    have e5 := hC.1.1
    have h60 := hC.1.2
    have e60 : (60 ≤ rd σ 1 0 5) ↔ nC σ = 60 := by rw [e5, show (60 : Int32) = nI 60 from rfl, nI_leI (by decide) (by omega)]; omega
    refine And.intro (fun (h4 : 60 ≤ rd σ 1 0 5) => hS3 (Or.inl (e60.mp h4))) (fun (h4 : ¬ 60 ≤ rd σ 1 0 5) => ?_)
    have hlt : nC σ < 60 := by
      have : ¬ nC σ = 60 := fun z => h4 (e60.mpr z)
      omega
    refine And.intro (fun (h5 : hgt (tC σ) kd a b c ≤ 6) => ?_) (fun (h5 : ¬ hgt (tC σ) kd a b c ≤ 6) => hS3 (Or.inr h5))
    exact And.intro hC.1 (And.intro hlt (hS4 hlt h5))
def S_valueC : SpecX := fun av σ Φ Ψ => match av with
  | [Sum.inr (Sum.inr (Sum.inr q)), Sum.inl x, Sum.inl s] => thisM q 0 (CI σ ∧ (¬ (isN (tC σ) (nC σ) 0 4 x ∧ rng s) → Ψ "java/lang/IllegalArgumentException" σ) ∧ (isN (tC σ) (nC σ) 0 4 x ∧ rng s → Φ (some (aI (EV (tC σ) s (ix x)))) σ))
  | _ => False
set_option maxRecDepth 100000 in
theorem c_valueC (l : Launch) : ConX l yX4_value cX4_value 3 (some .int) 3 8 S_valueC := by
  refine ConX.of (by decide) (by decide) ?_
  intro p e s s0 a0 m args below meth c D ad cA A av σ Φ Ψ hlen hS hr htab X
  match av, hS with
  | [Sum.inr (Sum.inr (Sum.inr q)), Sum.inl x, Sum.inl s], hS =>
    obtain ⟨rfl, hS⟩ := thisM_out hS
    refine wp_sound (ps := []) (C := fun _ _ _ _ => False) (tk_X4_value X hr htab (by omega) (c_has l) (by omega) (c_isStore l) (by omega) (c_numberIn l 6) (by omega)) (fun _ _ _ _ h => h.elim) 200 _ _ _ _ ?_
    obtain ⟨hC, hS1, hS2⟩ := hS
    have hh := (has_iff hC.2 x).1
    refine And.intro hC.1 ?_
    refine And.intro (fun (h1 : b01 (vp_in x (nC σ) ∧ srt (tC σ 0 (ix x)) = 5) = 0) => hS1 (fun z => b01_0 h1 (hh.mpr z.1))) (fun (h1 : ¬ b01 (vp_in x (nC σ) ∧ srt (tC σ 0 (ix x)) = 5) = 0) => ?_)
    have hx := hh.mp (b01_n h1)
    refine And.intro (fun (h2 : ¬ b01 (0 ≤ s ∧ s ≤ 4095) = 0) => ?_) (fun (h2 : b01 (0 ≤ s ∧ s ≤ 4095) = 0) => hS1 (fun z => b01_0 h2 z.2))
    exact And.intro hC (And.intro hx (And.intro (hC.2.2 _ (vp_lt hx.1)).2.1.2 (hS2 ⟨hx, b01_n h2⟩)))
def S_holdsC : SpecX := fun av σ Φ Ψ => match av with
  | [Sum.inr (Sum.inr (Sum.inr q)), Sum.inl x, Sum.inl s] => thisM q 0 (CI σ ∧ (¬ (isN (tC σ) (nC σ) 5 10 x ∧ rng s) → Ψ "java/lang/IllegalArgumentException" σ) ∧ (isN (tC σ) (nC σ) 5 10 x ∧ rng s → Φ (some (aI (EV (tC σ) s (ix x)))) σ))
  | _ => False
set_option maxRecDepth 100000 in
theorem c_holdsC (l : Launch) : ConX l yX4_holds cX4_holds 3 (some .boolean) 3 18 S_holdsC := by
  refine ConX.of (by decide) (by decide) ?_
  intro p e s s0 a0 m args below meth c D ad cA A av σ Φ Ψ hlen hS hr htab X
  match av, hS with
  | [Sum.inr (Sum.inr (Sum.inr q)), Sum.inl x, Sum.inl s], hS =>
    obtain ⟨rfl, hS⟩ := thisM_out hS
    refine wp_sound (ps := []) (C := fun _ _ _ _ => False) (tk_X4_holds X hr htab (by omega) (c_has l) (by omega) (c_isStore l) (by omega) (c_isTrueIn l 6) (by omega)) (fun _ _ _ _ h => h.elim) 200 _ _ _ _ ?_
    obtain ⟨hC, hS1, hS2⟩ := hS
    have hh := (has_iff hC.2 x).2.1
    refine And.intro hC.1 ?_
    refine And.intro (fun (h1 : b01 (vp_in x (nC σ) ∧ srt (tC σ 0 (ix x)) = 6) = 0) => hS1 (fun z => b01_0 h1 (hh.mpr z.1))) (fun (h1 : ¬ b01 (vp_in x (nC σ) ∧ srt (tC σ 0 (ix x)) = 6) = 0) => ?_)
    have hx := hh.mp (b01_n h1)
    refine And.intro (fun (h2 : ¬ b01 (0 ≤ s ∧ s ≤ 4095) = 0) => ?_) (fun (h2 : b01 (0 ≤ s ∧ s ≤ 4095) = 0) => hS1 (fun z => b01_0 h2 z.2))
    exact And.intro hC (And.intro hx (And.intro (hC.2.2 _ (vp_lt hx.1)).2.1.2 (And.intro (EV01 hC.2 s hx) (hS2 ⟨hx, b01_n h2⟩))))
def S_runC : SpecX := fun av σ Φ Ψ => match av with
  | [Sum.inr (Sum.inr (Sum.inr q)), Sum.inl x, Sum.inl s, Sum.inl f] => thisM q 0 (CI σ ∧ (¬ (isN (tC σ) (nC σ) 11 15 x ∧ rng s ∧ 1 ≤ f ∧ f ≤ 500) → Ψ "java/lang/IllegalArgumentException" σ) ∧ ((isN (tC σ) (nC σ) 11 15 x ∧ rng s ∧ 1 ≤ f ∧ f ≤ 500) → ∀ fn res σ', f = nI fn → fn ≤ 500 → eqx [7] σ σ' → RR (tC σ) x s fn res → (res = none → Ψ "java/lang/IllegalStateException" σ') ∧ (∀ r, res = some r → Φ (some (aI r)) σ')))
  | _ => False
set_option maxRecDepth 100000 in
theorem c_runC (l : Launch) : ConX l yX4_run cX4_run 5 (some .int) 4 34 S_runC := by
  refine ConX.of (by decide) (by decide) ?_
  intro p e s s0 a0 m args below meth c D ad cA A av σ Φ Ψ hlen hS hr htab X
  match av, hS with
  | [Sum.inr (Sum.inr (Sum.inr q)), Sum.inl x, Sum.inl s, Sum.inl f], hS =>
    obtain ⟨rfl, hS⟩ := thisM_out hS
    refine wp_sound (ps := []) (C := fun _ _ _ _ => False) (tk_X4_run X hr htab (by omega) (c_has l) (by omega) (c_isStore l) (by omega) (c_storeBehind l) (by omega)) (fun _ _ _ _ h => h.elim) 200 _ _ _ _ ?_
    obtain ⟨hC, hS1, hS2⟩ := hS
    have hh := (has_iff hC.2 x).2.2
    refine And.intro hC.1 ?_
    refine And.intro (fun (h1 : b01 (vp_in x (nC σ) ∧ srt (tC σ 0 (ix x)) = 7) = 0) => hS1 (fun z => b01_0 h1 (hh.mpr z.1))) (fun (h1 : ¬ b01 (vp_in x (nC σ) ∧ srt (tC σ 0 (ix x)) = 7) = 0) => ?_)
    have hx := hh.mp (b01_n h1)
    refine And.intro (fun (h2 : b01 (0 ≤ s ∧ s ≤ 4095) = 0) => hS1 (fun z => b01_0 h2 z.2.1)) (fun (h2 : ¬ b01 (0 ≤ s ∧ s ≤ 4095) = 0) => ?_)
    refine And.intro (fun (h3 : f < 1) => hS1 (fun z => absurd h3 (Int32.not_lt.mpr z.2.2.1))) (fun (h3 : ¬ f < 1) => ?_)
    refine And.intro (fun (h4 : f ≤ 500) => ?_) (fun (h4 : ¬ f ≤ 500) => hS1 (fun z => h4 z.2.2.2))
    have h3 := Int32.not_lt.mp h3
    have hs : rng s := b01_n h2
    obtain ⟨fn, hfn, ef⟩ := nI_of2 (x := f) (M := 500) (n := 500) (by decide) (Int32.not_lt.mpr (Int32.le_trans (by decide) h3)) h4
    refine And.intro hC (And.intro hx (And.intro hs ⟨fn, ef, hfn, fun res σ' he hR => ?_⟩))
    obtain ⟨q1, q2⟩ := hS2 ⟨hx, hs, h3, h4⟩ fn res σ' ef hfn he hR
    cases res with
    | none =>
      refine And.intro (fun (h9 : ¬ (-1 : Int32) = -1) => absurd rfl h9) (fun _ => ?_)
      exact q1 rfl
    | some r =>
      have hr9 := hR.2 r rfl
      refine And.intro (fun _ => ?_) (fun (h9 : r = -1) => ?_)
      · exact q2 r rfl
      · have := hr9.1
        rw [h9] at this
        exact absurd this (by decide)
def S_promiseC : SpecX := fun av σ Φ Ψ => match av with
  | [Sum.inr (Sum.inr (Sum.inr q)), Sum.inl p0, Sum.inl x, Sum.inl q0] => thisM q 0 (CI σ ∧ (¬ (isN (tC σ) (nC σ) 5 10 p0 ∧ isN (tC σ) (nC σ) 11 15 x ∧ isN (tC σ) (nC σ) 5 10 q0) → Ψ "java/lang/IllegalArgumentException" σ) ∧ ((isN (tC σ) (nC σ) 5 10 p0 ∧ isN (tC σ) (nC σ) 11 15 x ∧ isN (tC σ) (nC σ) 5 10 q0) → (16 < (allD (tC σ) p0 x q0).length → Ψ "java/lang/IllegalStateException" σ) ∧ ((allD (tC σ) p0 x q0).length ≤ 16 → ∀ σ', eqG 0 0 σ σ' → DSt σ' (allD (tC σ) p0 x q0) → Φ (some (aI (nI (allD (tC σ) p0 x q0).length))) σ')))
  | _ => False
set_option maxRecDepth 100000 in
theorem c_promiseC (l : Launch) : ConX l yX4_promise cX4_promise 4 (some .int) 4 18 S_promiseC := by
  refine ConX.of (by decide) (by decide) ?_
  intro p e s s0 a0 m args below meth c D ad cA A av σ Φ Ψ hlen hS hr htab X
  match av, hS with
  | [Sum.inr (Sum.inr (Sum.inr q)), Sum.inl p0, Sum.inl x, Sum.inl q0], hS =>
    obtain ⟨rfl, hS⟩ := thisM_out hS
    refine wp_sound (ps := []) (C := fun _ _ _ _ => False) (tk_X4_promise X hr htab (by omega) (c_has l) (by omega) (c_howManyOf l 6) (by omega) (c_replaceBy l) (by omega)) (fun _ _ _ _ h => h.elim) 200 _ _ _ _ ?_
    obtain ⟨hC, hS1, hS2⟩ := hS
    have hp := (has_iff hC.2 p0).2.1
    have hh := (has_iff hC.2 x).2.2
    have hq := (has_iff hC.2 q0).2.1
    refine And.intro hC.1 ?_
    refine And.intro (fun (h1 : b01 (vp_in p0 (nC σ) ∧ srt (tC σ 0 (ix p0)) = 6) = 0) => hS1 (fun z => b01_0 h1 (hp.mpr z.1))) (fun (h1 : ¬ b01 (vp_in p0 (nC σ) ∧ srt (tC σ 0 (ix p0)) = 6) = 0) => ?_)
    refine And.intro hC.1 ?_
    refine And.intro (fun (h2 : b01 (vp_in x (nC σ) ∧ srt (tC σ 0 (ix x)) = 7) = 0) => hS1 (fun z => b01_0 h2 (hh.mpr z.2.1))) (fun (h2 : ¬ b01 (vp_in x (nC σ) ∧ srt (tC σ 0 (ix x)) = 7) = 0) => ?_)
    refine And.intro hC.1 ?_
    refine And.intro (fun (h3 : ¬ b01 (vp_in q0 (nC σ) ∧ srt (tC σ 0 (ix q0)) = 6) = 0) => ?_) (fun (h3 : b01 (vp_in q0 (nC σ) ∧ srt (tC σ 0 (ix q0)) = 6) = 0) => hS1 (fun z => b01_0 h3 (hq.mpr z.2.2)))
    have g1 := hp.mp (b01_n h1)
    have g2 := hh.mp (b01_n h2)
    have g3 := hq.mp (b01_n h3)
    obtain ⟨hS3, hS4⟩ := hS2 ⟨g1, g2, g3⟩
    have h6 := (hC.2.2 _ (vp_lt g2.1)).2.1.2
    have hlen9 : (allD (tC σ) p0 x q0).length = 1 + dn (tC σ) 6 x := by
      show (dutL (tC σ) 6 x [] q0).length + 1 = _
      rw [dutL_len]; omega
    have hb := dn_le (tC σ) 6 x
    refine And.intro hC (And.intro g2 (And.intro h6 ?_))
    have e9 : (1 : Int32) + nI (dn (tC σ) 6 x) = nI (1 + dn (tC σ) 6 x) := by rw [show (1 : Int32) = nI 1 from rfl, nI_add]
    have e16 : ((1 : Int32) + nI (dn (tC σ) 6 x) ≤ 16) ↔ 1 + dn (tC σ) 6 x ≤ 16 := by rw [e9, show (16 : Int32) = nI 16 from rfl, nI_leI (by omega) (by decide)]
    refine And.intro (fun (h4 : (1 : Int32) + nI (dn (tC σ) 6 x) ≤ 16) => ?_) (fun (h4 : ¬ (1 : Int32) + nI (dn (tC σ) 6 x) ≤ 16) => hS3 (by rw [hlen9]; have : ¬ 1 + dn (tC σ) 6 x ≤ 16 := fun z => h4 (e16.mpr z); omega))
    have h4 := e16.mp h4
    refine And.intro hC (And.intro g1 (And.intro g2 (And.intro g3 (And.intro h4 (fun σ' he hD => ?_)))))
    have := hS4 (by rw [hlen9]; exact h4) σ' he hD
    have e3 : rd σ' 8 0 3 = nI (allD (tC σ) p0 x q0).length := hD.2.1
    rw [← e3] at this
    exact this
def S_keptC : SpecX := fun av σ Φ Ψ => match av with
  | [Sum.inr (Sum.inr (Sum.inr q)), Sum.inl i0, Sum.inl s] => thisM q 0 (∃ Ds, DSt σ Ds ∧ (¬ rng s → Ψ "java/lang/IllegalArgumentException" σ) ∧ (rng s → ¬ vp_in i0 Ds.length → Ψ "java/lang/IllegalStateException" σ) ∧ (rng s → vp_in i0 Ds.length → ∀ D, Ds[ix i0]? = some D → Φ (some (aI (kpV (tC σ) D s))) σ))
  | _ => False
set_option maxRecDepth 100000 in
theorem c_keptC (l : Launch) : ConX l yX4_kept cX4_kept 3 (some .boolean) 3 29 S_keptC := by
  refine ConX.of (by decide) (by decide) ?_
  intro p e s s0 a0 m args below meth c D ad cA A av σ Φ Ψ hlen hS hr htab X
  match av, hS with
  | [Sum.inr (Sum.inr (Sum.inr q)), Sum.inl i0, Sum.inl s], hS =>
    obtain ⟨rfl, hS⟩ := thisM_out hS
    refine wp_sound (ps := []) (C := fun _ _ _ _ => False) (tk_X4_kept X hr htab (by omega) (c_isStore l) (by omega) (c_hasD l) (by omega) (c_isKeptIn l) (by omega)) (fun _ _ _ _ h => h.elim) 200 _ _ _ _ ?_
    obtain ⟨Ds, hDS, hS1, hS2, hS3⟩ := hS
    have hl3 := hDS.2.1
    have h16 := hDS.2.2.1
    refine And.intro (fun (h1 : ¬ b01 (0 ≤ s ∧ s ≤ 4095) = 0) => ?_) (fun (h1 : b01 (0 ≤ s ∧ s ≤ 4095) = 0) => hS1 (b01_0 h1))
    have hs : rng s := b01_n h1
    refine ⟨Ds.length, h16, hl3, ?_⟩
    refine And.intro (fun (h2 : ¬ b01 (vp_in i0 Ds.length) = 0) => ?_) (fun (h2 : b01 (vp_in i0 Ds.length) = 0) => hS2 hs (b01_0 h2))
    have hv := b01_n h2
    obtain ⟨D, hD⟩ := get_vp hv
    exact ⟨Ds, D, hDS, hv, hD, hs, And.intro (kpV_01 hDS.1.2 (hDS.2.2.2 _ D hD).2 s) (hS3 hs hv D hD)⟩
def S_decideC : SpecX := fun av σ Φ Ψ => match av with
  | [Sum.inr (Sum.inr (Sum.inr q)), Sum.inl i0] => thisM q 0 (∃ Ds, DSt σ Ds ∧ (¬ vp_in i0 Ds.length → Ψ "java/lang/IllegalStateException" σ) ∧ (vp_in i0 Ds.length → ∀ D, Ds[ix i0]? = some D → Φ (some (aI (lbF (tC σ) D 0 4096))) σ))
  | _ => False
set_option maxRecDepth 100000 in
theorem c_decideC (l : Launch) : ConX l yX4_decide cX4_decide 2 (some .int) 2 30 S_decideC := by
  refine ConX.of (by decide) (by decide) ?_
  intro p e s s0 a0 m args below meth c D ad cA A av σ Φ Ψ hlen hS hr htab X
  match av, hS with
  | [Sum.inr (Sum.inr (Sum.inr q)), Sum.inl i0], hS =>
    obtain ⟨rfl, hS⟩ := thisM_out hS
    refine wp_sound (ps := []) (C := fun _ _ _ _ => False) (tk_X4_decide X hr htab (by omega) (c_hasD l) (by omega) (c_leastBroken l) (by omega)) (fun _ _ _ _ h => h.elim) 200 _ _ _ _ ?_
    obtain ⟨Ds, hDS, hS1, hS2⟩ := hS
    have hl3 := hDS.2.1
    have h16 := hDS.2.2.1
    refine ⟨Ds.length, h16, hl3, ?_⟩
    refine And.intro (fun (h2 : ¬ b01 (vp_in i0 Ds.length) = 0) => ?_) (fun (h2 : b01 (vp_in i0 Ds.length) = 0) => hS1 (b01_0 h2))
    have hv := b01_n h2
    obtain ⟨D, hD⟩ := get_vp hv
    exact ⟨Ds, D, hDS, hv, hD, hS2 hv D hD⟩
def S_brokenC : SpecX := fun av σ Φ Ψ => match av with
  | [Sum.inr (Sum.inr (Sum.inr q)), Sum.inl i0, Sum.inl x0, Sum.inl y0] => thisM q 0 (∃ Ds, DSt σ Ds ∧ (¬ (0 ≤ x0 ∧ x0 ≤ y0 ∧ y0 ≤ 4095) → Ψ "java/lang/IllegalArgumentException" σ) ∧ ((0 ≤ x0 ∧ x0 ≤ y0 ∧ y0 ≤ 4095) → (¬ vp_in i0 Ds.length → Ψ "java/lang/IllegalStateException" σ) ∧ (vp_in i0 Ds.length → ∀ D, Ds[ix i0]? = some D → ∀ a b, x0 = nI a → y0 = nI b → a ≤ b → b ≤ 4095 → Φ (some (aI (nI (cbN (tC σ) D a (b + 1 - a))))) σ)))
  | _ => False
set_option maxRecDepth 100000 in
theorem c_brokenC (l : Launch) : ConX l yX4_broken cX4_broken 4 (some .int) 4 30 S_brokenC := by
  refine ConX.of (by decide) (by decide) ?_
  intro p e s s0 a0 m args below meth c D ad cA A av σ Φ Ψ hlen hS hr htab X
  match av, hS with
  | [Sum.inr (Sum.inr (Sum.inr q)), Sum.inl i0, Sum.inl x0, Sum.inl y0], hS =>
    obtain ⟨rfl, hS⟩ := thisM_out hS
    refine wp_sound (ps := []) (C := fun _ _ _ _ => False) (tk_X4_broken X hr htab (by omega) (c_hasD l) (by omega) (c_howManyBroken l) (by omega)) (fun _ _ _ _ h => h.elim) 200 _ _ _ _ ?_
    obtain ⟨Ds, hDS, hS1, hS3⟩ := hS
    have hl3 := hDS.2.1
    have h16 := hDS.2.2.1
    refine And.intro (fun (h1 : x0 < 0) => hS1 (fun z => absurd h1 (Int32.not_lt.mpr z.1))) (fun (h1 : ¬ x0 < 0) => ?_)
    refine And.intro (fun (h2 : y0 < x0) => hS1 (fun z => absurd h2 (Int32.not_lt.mpr z.2.1))) (fun (h2 : ¬ y0 < x0) => ?_)
    refine And.intro (fun (h3 : y0 ≤ 4095) => ?_) (fun (h3 : ¬ y0 ≤ 4095) => hS1 (fun z => h3 z.2.2))
    have g1 := Int32.not_lt.mp h1
    have g2 := Int32.not_lt.mp h2
    obtain ⟨hS4, hS5⟩ := hS3 ⟨g1, g2, h3⟩
    obtain ⟨b, hb, eb⟩ := nI_of2 (x := y0) (M := 4095) (n := 4095) (by decide) (Int32.not_lt.mpr (Int32.le_trans g1 g2)) h3
    obtain ⟨a, ha, ea⟩ := nI_of2 (x := x0) (M := 4095) (n := 4095) (by decide) h1 (Int32.le_trans g2 h3)
    have hab : a ≤ b := by rw [ea, eb, nI_leI (by omega) (by omega)] at g2; exact g2
    refine ⟨Ds.length, h16, hl3, ?_⟩
    refine And.intro (fun (h2 : ¬ b01 (vp_in i0 Ds.length) = 0) => ?_) (fun (h2 : b01 (vp_in i0 Ds.length) = 0) => hS4 (b01_0 h2))
    have hv := b01_n h2
    obtain ⟨D, hD⟩ := get_vp hv
    exact ⟨Ds, D, hDS, hv, hD, a, b, ea, eb, by omega, hb, hS5 hv D hD a b ea eb hab hb⟩
def S_partC : SpecX := fun av σ Φ Ψ => match av with
  | [Sum.inr (Sum.inr (Sum.inr q))] => thisM q 0 (∃ Ds, DSt σ Ds ∧ (Ds.length = 0 → Ψ "java/lang/IllegalStateException" σ) ∧ (¬ Ds.length = 0 → Φ (some (aD (FP.ddiv (FP.i2d (nI (4096 * Ds.length - sumB (tC σ) Ds))) (FP.i2d (nI (4096 * Ds.length)))))) σ))
  | _ => False
set_option maxRecDepth 100000 in
theorem c_partC (l : Launch) : ConX l yX4_part cX4_part 2 (some .double) 1 31 S_partC := by
  refine ConX.of (by decide) (by decide) ?_
  intro p e s s0 a0 m args below meth c D ad cA A av σ Φ Ψ hlen hS hr htab X
  match av, hS with
  | [Sum.inr (Sum.inr (Sum.inr q))], hS =>
    obtain ⟨rfl, hS⟩ := thisM_out hS
    refine wp_sound (ps := []) (C := fun _ _ _ _ => False) (tk_X4_part X hr htab (by omega) (c_pairsC l) (by omega)) (fun _ _ _ _ h => h.elim) 200 _ _ _ _ ?_
    obtain ⟨Ds, hDS, hS1, hS2⟩ := hS
    have hl3 := hDS.2.1
    have h16 := hDS.2.2.1
    have hsb := sumB_le (tC σ) Ds
    refine And.intro (fun (h : ¬ rd σ 8 0 3 = 0) => ?_) (fun (h : rd σ 8 0 3 = 0) => ?_)
    · rw [hl3, show (0 : Int32) = nI 0 from rfl, nI_eq (by omega) (by decide)] at h
      have e1 : rd σ 8 0 3 * 4096 = nI (4096 * Ds.length) := by rw [hl3, show (4096 : Int32) = nI 4096 from rfl, pk_mul, Nat.mul_comm]
      have e2 : rd σ 8 0 3 * 4096 - nI (sumB (tC σ) Ds) = nI (4096 * Ds.length - sumB (tC σ) Ds) := by rw [e1, pk_sub hsb]
      have hne : rd σ 8 0 3 * 4096 ≠ 0 := by rw [e1]; exact nI_ne0 (by omega) (by omega)
      have := hS2 h
      rw [← e2, ← e1] at this
      exact ⟨Ds, hDS, And.intro (nan_ok hne) this⟩
    · rw [hl3, show (0 : Int32) = nI 0 from rfl, nI_eq (by omega) (by decide)] at h
      exact hS1 h
def S_countC : SpecX := fun av σ Φ Ψ => match av with
  | [Sum.inr (Sum.inr (Sum.inr q)), Sum.inl k] => thisM q 0 (∃ Ds, DSt σ Ds ∧ (¬ (0 ≤ k ∧ k ≤ 2) → Ψ "java/lang/IllegalArgumentException" σ) ∧ (0 ≤ k ∧ k ≤ 2 → Φ (some (aI (if k = 0 then rd σ 1 0 5 else if k = 1 then nI Ds.length else nI (numV (tC σ) Ds)))) σ))
  | _ => False
set_option maxRecDepth 100000 in
theorem c_countC (l : Launch) : ConX l yX4_count cX4_count 2 (some .int) 2 31 S_countC := by
  refine ConX.of (by decide) (by decide) ?_
  intro p e s s0 a0 m args below meth c D ad cA A av σ Φ Ψ hlen hS hr htab X
  match av, hS with
  | [Sum.inr (Sum.inr (Sum.inr q)), Sum.inl k], hS =>
    obtain ⟨rfl, hS⟩ := thisM_out hS
    refine wp_sound (ps := []) (C := fun _ _ _ _ => False) (tk_X4_count X hr htab (by omega) (c_validC l) (by omega)) (fun _ _ _ _ h => h.elim) 200 _ _ _ _ ?_
    obtain ⟨Ds, hDS, hS1, hS2⟩ := hS
    have hl3 := hDS.2.1
    have h16 := hDS.2.2.1
    refine And.intro (fun (h0 : k = 0) => ?_) (fun (h0 : ¬ k = 0) => ?_)
    · have hS9 := hS2 (by rw [h0]; decide)
      rw [if_pos h0] at hS9
      exact hS9
    refine And.intro (fun (h1 : k = 1) => ?_) (fun (h1 : ¬ k = 1) => ?_)
    · have hS9 := hS2 (by rw [h1]; decide)
      rw [if_neg h0, if_pos h1, ← hl3] at hS9
      exact hS9
    refine And.intro (fun (h2 : k = 2) => ?_) (fun (h2 : ¬ k = 2) => ?_)
    · have hS9 := hS2 (by rw [h2]; decide)
      rw [if_neg h0, if_neg h1] at hS9
      exact ⟨Ds, hDS, hS9⟩
    refine hS1 (fun hk => ?_)
    rcases i32_cases hk.1 (Int32.le_trans hk.2 (by decide)) with e | e | e | e | e | e | e | e | e | e | e | e | e | e | e | e
    · exact h0 e
    · exact h1 e
    · exact h2 e
    all_goals (have := hk.2; rw [e] at this; exact absurd this (by decide))
