theorem nan_ok {x y : Int32} (hy : y ≠ 0) : vf_n64 (FP.ddiv (FP.i2d x) (FP.i2d y)) := by
  have hz : ¬ FP.Core.DZero (FP.Core.i2d y) := fun z => FP.Core.i2d_ne_zero hy ((FP.Core.zero_bits2 _).mp z)
  have h : FP.Core.dIsNaN (FP.Core.ddiv (FP.Core.i2d x) (FP.Core.i2d y)) = false := FP.Core.ddiv_out (FP.Core.i2d_fin x).notNaN (FP.Core.i2d_fin y) hz
  have h2 : ¬ 9218868437227405312 < (FP.ddiv (FP.i2d x) (FP.i2d y)).toNat % 2 ^ 63 := fun z => by
    rw [(FP.Core.isNaN_bits _).mpr z] at h
    exact absurd h (by decide)
  unfold vf_n64
  generalize FP.ddiv (FP.i2d x) (FP.i2d y) = r at h2
  rw [UInt64.le_iff_toNat_le, UInt64.toNat_and, show (0x7fffffffffffffff : UInt64).toNat = 2 ^ 63 - 1 from rfl, Nat.and_two_pow_sub_one_eq_mod, show (0x7ff0000000000000 : UInt64).toNat = 9218868437227405312 from rfl]
  omega
def S_countBad : SpecT := fun av σ Φ => match av with
  | [Sum.inr (Sum.inr (Sum.inr q)), Sum.inl i0, Sum.inl x0, Sum.inl y0] => thisM q 11 (∃ Ds i D a b, MD σ Ds ∧ Ds[i]? = some D ∧ i0 = nI i ∧ x0 = nI a ∧ y0 = nI b ∧ a ≤ b + 1 ∧ b ≤ 4095 ∧ ∀ σ', eqx GQ σ σ' → MD σ' Ds → Φ (some (aI (nI (cbN (tM σ) D a (b + 1 - a))))) σ')
  | _ => False
set_option maxRecDepth 100000 in
theorem c_countBad (l : Launch) : Con l yX5_countBad cX5_countBad 6 (some .int) 4 8 S_countBad := by
  refine Con.of (by decide) (by decide) ?_
  intro p e s s0 a0 m args below meth c D ad cA A av σ Φ hlen hS hr X
  match av, hS with
  | [Sum.inr (Sum.inr (Sum.inr q)), Sum.inl i0, Sum.inl x0, Sum.inl y0], hS =>
    obtain ⟨rfl, hS⟩ := thisM_out hS
    obtain ⟨Ds, i, D, a, b, hMD, hD, rfl, rfl, rfl, hab, hb, hS⟩ := hS
    have hi : i < Ds.length := (List.getElem?_eq_some_iff.mp hD).1
    have h16 := hMD.2.1
    obtain ⟨t, ht⟩ : ∃ t, t = tM σ := ⟨_, rfl⟩
    rw [← ht] at hS
    obtain ⟨v0, hv0⟩ : ∃ v, v = cbN t D a (b + 1 - a) := ⟨_, rfl⟩
    rw [← hv0] at hS
    refine wp_meth (β := Nat × Nat) (ps := [11]) (N := 60) (N0 := 40) (fun _ => 11) (fun j => [some (aR 11 0), some (aI (nI i)), none, some (aI (nI b)), some (aI (nI j.2)), some (aI (nI j.1))]) (fun j σ' => eqx GQ σ σ' ∧ MD σ' Ds ∧ bitsOK t σ' i D 4096 ∧ j.1 ≤ b + 1 ∧ j.2 + cbN t D j.1 (b + 1 - j.1) = v0) (fun j _ => b + 1 - j.1) (tk_X5_countBad X hr (c_look l) (by omega) (c_isBad l) (by omega)) ?_ ?_
    · rintro ⟨j, n⟩ σ' ⟨he, hMD', hB, hj, hv⟩
      dsimp only at hj hv ⊢
      refine And.intro (fun (h : nI b < nI j) => ?_) (fun (h : ¬ nI b < nI j) => ?_)
      · rw [nI_ltI (by omega) (by omega)] at h
        rw [show b + 1 - j = 0 by omega] at hv
        have := hS σ' he hMD'
        rw [← hv] at this
        exact this
      · rw [nI_ltI (by omega) (by omega)] at h
        refine ⟨i, D, j, t, rfl, rfl, by omega, by omega, hB, ?_⟩
        rw [show b + 1 - j = (b - j) + 1 by omega] at hv
        unfold cbN at hv
        by_cases h2 : kpV t D (nI j) = 0
        · rw [if_pos h2] at hv ⊢
          refine And.intro (fun (h3 : (1 : Int32) = 0) => absurd h3 (by decide)) (fun _ => ?_)
          exact ⟨(j + 1, n + 1), rfl, ⟨rfl, rfl, rfl, by show some (some (aI (nI n + 1))) = some (some (aI (nI (n + 1)))); rw [nI_1], by show some (some (aI (nI j + 1))) = some (some (aI (nI (j + 1)))); rw [nI_1], trivial⟩, rfl, ⟨he, hMD', hB, by show j + 1 ≤ b + 1; omega, by show n + 1 + cbN t D (j + 1) (b + 1 - (j + 1)) = v0; rw [show b + 1 - (j + 1) = b - j by omega]; omega⟩, by show b + 1 - (j + 1) < b + 1 - j; omega⟩
        · rw [if_neg h2] at hv ⊢
          refine And.intro (fun _ => ?_) (fun (h3 : ¬ (0 : Int32) = 0) => absurd rfl h3)
          exact ⟨(j + 1, n), rfl, ⟨rfl, rfl, rfl, rfl, by show some (some (aI (nI j + 1))) = some (some (aI (nI (j + 1)))); rw [nI_1], trivial⟩, rfl, ⟨he, hMD', hB, by show j + 1 ≤ b + 1; omega, by show n + cbN t D (j + 1) (b + 1 - (j + 1)) = v0; rw [show b + 1 - (j + 1) = b - j by omega]; omega⟩, by show b + 1 - (j + 1) < b + 1 - j; omega⟩
    · refine ⟨Ds, i, D, hMD, hD, rfl, fun σ1 he1 hMD1 hB1 => ?_⟩
      rw [← ht] at hB1
      exact ⟨(a, 0), rfl, ⟨rfl, rfl, rfl, rfl, rfl, trivial⟩, rfl, ⟨he1, hMD1, hB1, hab, by show 0 + cbN t D a (b + 1 - a) = v0; rw [hv0]; omega⟩, trivial⟩
def S_keptM : SpecT := fun av σ Φ => match av with
  | [Sum.inr (Sum.inr (Sum.inr q)), Sum.inl i0, Sum.inl s] => thisM q 11 (∃ Ds, MD σ Ds ∧ (¬ rng s → Φ (some (aI 0)) (wr (wr σ 11 0 0 0) 11 0 0 1)) ∧ (rng s → ¬ vp_in i0 Ds.length → Φ (some (aI 0)) (wr (wr σ 11 0 0 0) 11 0 0 2)) ∧ (rng s → vp_in i0 Ds.length → ∀ D, Ds[ix i0]? = some D → ∀ σ', rd σ' 11 0 0 = 0 → eqf [18, 33] [0] σ σ' → Φ (some (aI (kpV (tM σ) D s))) σ'))
  | _ => False
theorem in_len {i0 d : Int32} {n : Nat} (hn : n ≤ 16) (hd : d = nI n) : (0 ≤ i0 ∧ i0 ≤ d - 1) ↔ vp_in i0 n := by rw [hd]; exact rng_iff (by omega)
theorem get_vp {i0 : Int32} {Ds : List Duty} (h : vp_in i0 Ds.length) : ∃ D, Ds[ix i0]? = some D := ⟨Ds[ix i0]'(vp_lt h), List.getElem?_eq_some_iff.mpr ⟨vp_lt h, rfl⟩⟩
theorem vpq_nI {i0 : Int32} {n : Nat} (h : vp_in i0 n) (hn : n < 2 ^ 31) : i0 = nI (ix i0) := by
  obtain ⟨j, hj, e⟩ := vp_in_of h hn
  rw [e, show ix (nI j) = j from nI_clamp (by omega)]
theorem MR_eqf {gs fs : List Nat} {σ σ' : Mem} {T i : Nat} {D : Duty} (h : eqf gs fs σ σ') (hg : ∀ g ∈ gs, g < 19 ∨ 23 < g) (hM : MR σ 21 22 23 19 20 T i D) : MR σ' 21 22 23 19 20 T i D := by
  have z : ∀ g, 19 ≤ g → g ≤ 23 → ∀ k, rd σ' g 0 k = rd σ g 0 k := fun g h1 h2 k => h.1 g 0 k (fun q => by have := hg g q; omega) (fun q => by omega)
  obtain ⟨b1, b2, τ, b3, b4, b5⟩ := hM
  exact ⟨(z 21 (by decide) (by decide) i).trans b1, (z 22 (by decide) (by decide) i).trans b2, τ, b3, (z 23 (by decide) (by decide) i).trans b4, TG_eq (fun k _ => ⟨z 19 (by decide) (by decide) k, z 20 (by decide) (by decide) k⟩) b3 b5⟩
theorem MD_eqf {gs fs : List Nat} {σ σ' : Mem} {Ds : List Duty} (h : eqf gs fs σ σ') (hg : ∀ g ∈ gs, g < 11 ∨ (17 < g ∧ g < 19) ∨ 32 < g) (h1 : 1 ∉ fs) (h12 : 12 ∉ fs) (hM : MD σ Ds) : MD σ' Ds ∧ tM σ' = tM σ ∧ nM σ' = nM σ := by
  obtain ⟨m1, m2, m3, T, hT, m4⟩ := hM
  obtain ⟨hM1, ht1, hn1⟩ := MI_eqf h (fun g q => by have := hg g q; omega) h1 m1
  have z : ∀ g, 31 ≤ g → g ≤ 32 → ∀ k, rd σ' g 0 k = rd σ g 0 k := fun g h1 h2 k => h.1 g 0 k (fun q => by have := hg g q; omega) (fun q => by omega)
  refine ⟨⟨hM1, m2, (h.1 11 0 12 (fun q => by have := hg 11 q; omega) (fun _ => h12)).trans m3, T, hT, fun i D hD => ?_⟩, ht1, hn1⟩
  obtain ⟨q1, q2, q3⟩ := m4 i D hD
  refine ⟨MR_eqf h (fun g q => by have := hg g q; omega) q1, by rw [ht1, hn1]; exact q2, ?_⟩
  rw [ht1]
  rcases q3 with e | ⟨e, eb⟩
  · exact Or.inl ((z 31 (by decide) (by decide) i).trans e)
  · exact Or.inr ⟨(z 31 (by decide) (by decide) i).trans e, fun s hs => by rw [z 32 (by decide) (by decide)]; exact eb s hs⟩
set_option maxRecDepth 100000 in
theorem c_keptM (l : Launch) : Con l yX5_kept cX5_kept 3 (some .boolean) 3 7 S_keptM := by
  refine Con.of (by decide) (by decide) ?_
  intro p e s s0 a0 m args below meth c D ad cA A av σ Φ hlen hS hr X
  match av, hS with
  | [Sum.inr (Sum.inr (Sum.inr q)), Sum.inl i0, Sum.inl s], hS =>
    obtain ⟨rfl, hS⟩ := thisM_out hS
    refine wp_sound (ps := []) (C := fun _ _ _ _ => False) (tk_X5_kept X hr (c_in l) (by omega) (c_refuse l) (by omega) (c_keeps l) (by omega)) (fun _ _ _ _ h => h.elim) 400 _ _ _ _ ?_
    obtain ⟨Ds, hMD, hS1, hS2, hS3⟩ := hS
    obtain ⟨hM, h16, h12, T, hT, h4⟩ := id hMD
    have he0 : eqf [18, 33] [0] σ (wr σ 11 0 0 0) := (eqf.refl _ _ _).pf (by decide)
    obtain ⟨hMD0, ht0, hn0⟩ := MD_eqf he0 (by decide) (by decide) (by decide) hMD
    have hin : (0 ≤ i0 ∧ i0 ≤ rd (wr σ 11 0 0 0) 11 0 12 - 1) ↔ vp_in i0 Ds.length := in_len h16 hMD0.2.2.1
    refine And.intro (fun (h1 : ¬ b01 (0 ≤ s ∧ s ≤ 4095) = 0) => ?_) (fun (h1 : b01 (0 ≤ s ∧ s ≤ 4095) = 0) => ?_)
    · have hs : rng s := b01_n h1
      refine And.intro (fun (h2 : ¬ b01 (0 ≤ i0 ∧ i0 ≤ rd (wr σ 11 0 0 0) 11 0 12 - 1) = 0) => ?_) (fun (h2 : b01 (0 ≤ i0 ∧ i0 ≤ rd (wr σ 11 0 0 0) 11 0 12 - 1) = 0) => ?_)
      · have hv := hin.mp (b01_n h2)
        obtain ⟨D, hD⟩ := get_vp hv
        obtain ⟨q1, q2, -⟩ := h4 _ D hD
        have k01 := kpV_01 hM.2.1 q2 s
        have hl := vp_lt hv
        refine And.intro hMD0.1 (And.intro hs ⟨ix i0, D, T, vpq_nI hv (by omega), by omega, hT, MR_eqf he0 (by decide) q1, by rw [ht0, hn0]; exact q2, fun σ1 he1 => ?_⟩)
        have := hS3 hs hv D hD σ1 ((he1.1 11 0 0 (by decide)).trans rfl) (he0.trans (he1.f (by decide)))
        rw [← ht0] at this k01
        exact And.intro k01 this
      · refine And.intro (fun _ => ?_) (fun (h9 : ¬ (0 : Int32) ≤ 0) => absurd (by decide) h9)
        exact And.intro (Or.inl rfl) (hS2 hs (fun z => b01_0 h2 (hin.mpr z)))
    · refine And.intro (fun _ => ?_) (fun (h9 : ¬ (0 : Int32) ≤ 0) => absurd (by decide) h9)
      exact And.intro (Or.inl rfl) (hS1 (b01_0 h1))
def S_decideM : SpecT := fun av σ Φ => match av with
  | [Sum.inr (Sum.inr (Sum.inr q)), Sum.inl i0] => thisM q 11 (∃ Ds, MD σ Ds ∧ (¬ vp_in i0 Ds.length → Φ (some (aI 0)) (wr (wr σ 11 0 0 0) 11 0 0 1)) ∧ (vp_in i0 Ds.length → ∀ D, Ds[ix i0]? = some D → ∀ σ', rd σ' 11 0 0 = 0 → eqf GQ [0] σ σ' → MD σ' Ds → Φ (some (aI (lbF (tM σ) D 0 4096))) σ'))
  | _ => False
set_option maxRecDepth 100000 in
theorem c_decideM (l : Launch) : Con l yX5_decide cX5_decide 3 (some .int) 2 8 S_decideM := by
  refine Con.of (by decide) (by decide) ?_
  intro p e s s0 a0 m args below meth c D ad cA A av σ Φ hlen hS hr X
  match av, hS with
  | [Sum.inr (Sum.inr (Sum.inr q)), Sum.inl i0], hS =>
    obtain ⟨rfl, hS⟩ := thisM_out hS
    obtain ⟨Ds, hMD, hS1, hS3⟩ := hS
    obtain ⟨hM, h16, h12, T, hT, h4⟩ := id hMD
    have he0 : eqf [18, 33] [0] σ (wr σ 11 0 0 0) := (eqf.refl _ _ _).pf (by decide)
    obtain ⟨hMD0, ht0, hn0⟩ := MD_eqf he0 (by decide) (by decide) (by decide) hMD
    have hin : (0 ≤ i0 ∧ i0 ≤ rd (wr σ 11 0 0 0) 11 0 12 - 1) ↔ vp_in i0 Ds.length := in_len h16 hMD0.2.2.1
    by_cases hv : vp_in i0 Ds.length
    rotate_left
    · refine wp_sound (ps := []) (C := fun _ _ _ _ => False) (tk_X5_decide X hr (c_in l) (by omega) (c_refuse l) (by omega) (c_look l) (by omega) (c_isBad l) (by omega)) (fun _ _ _ _ h => h.elim) 100 _ _ _ _ ?_
      refine And.intro (fun (h2 : ¬ b01 (0 ≤ i0 ∧ i0 ≤ rd (wr σ 11 0 0 0) 11 0 12 - 1) = 0) => absurd (hin.mp (b01_n h2)) hv) (fun _ => ?_)
      exact hS1 hv
    obtain ⟨D, hD⟩ := get_vp hv
    have hl := vp_lt hv
    have ei := vpq_nI hv (by omega)
    generalize ix i0 = i at ei hD hl hS3
    subst ei
    obtain ⟨t, ht⟩ : ∃ t, t = tM σ := ⟨_, rfl⟩
    rw [← ht] at hS3
    obtain ⟨v0, hv0⟩ : ∃ v, v = lbF t D 0 4096 := ⟨_, rfl⟩
    have hS9 := hS3 hv D hD
    rw [← hv0] at hS9
    refine wp_meth (β := Nat) (ps := [32]) (N := 60) (N0 := 60) (fun _ => 32) (fun j => [some (aR 11 0), some (aI (nI i)), some (aI (nI j))]) (fun j σ' => rd σ' 11 0 0 = 0 ∧ eqf GQ [0] σ σ' ∧ MD σ' Ds ∧ bitsOK t σ' i D 4096 ∧ j ≤ 4096 ∧ lbF t D j (4096 - j) = v0) (fun j _ => 4096 - j) (tk_X5_decide X hr (c_in l) (by omega) (c_refuse l) (by omega) (c_look l) (by omega) (c_isBad l) (by omega)) ?_ ?_
    · rintro j σ' ⟨hz, he, hMD', hB, hj, hv⟩
      refine And.intro (fun (h : 4096 ≤ nI j) => ?_) (fun (h : ¬ 4096 ≤ nI j) => ?_)
      · rw [show (4096 : Int32) = nI 4096 from rfl, nI_leI (by decide) (by omega)] at h
        have : j = 4096 := by omega
        subst this
        refine And.intro (fun (h9 : ¬ nI 4096 = 4096) => absurd rfl h9) (fun _ => ?_)
        have := hS9 σ' hz he hMD'
        rw [← hv] at this
        exact this
      · rw [show (4096 : Int32) = nI 4096 from rfl, nI_leI (by decide) (by omega)] at h
        refine ⟨i, D, j, t, rfl, rfl, by omega, by omega, hB, ?_⟩
        rw [show 4096 - j = (4095 - j) + 1 by omega] at hv
        unfold lbF at hv
        by_cases h2 : kpV t D (nI j) = 0
        · rw [if_pos h2] at hv ⊢
          refine And.intro (fun _ => ?_) (fun (h3 : (1 : Int32) = 0) => absurd h3 (by decide))
          refine And.intro (fun _ => ?_) (fun (h9 : nI j = 4096) => by rw [show (4096 : Int32) = nI 4096 from rfl, nI_eq (by omega) (by decide)] at h9; omega)
          have := hS9 σ' hz he hMD'
          rw [← hv] at this
          exact this
        · rw [if_neg h2] at hv ⊢
          refine And.intro (fun (h3 : ¬ (0 : Int32) = 0) => absurd rfl h3) (fun _ => ?_)
          exact ⟨j + 1, rfl, ⟨rfl, rfl, by show some (some (aI (nI j + 1))) = some (some (aI (nI (j + 1)))); rw [nI_1], trivial⟩, rfl, ⟨hz, he, hMD', hB, by omega, by rw [show 4096 - (j + 1) = 4095 - j by omega]; exact hv⟩, by show 4096 - (j + 1) < 4096 - j; omega⟩
    · refine And.intro (fun _ => ?_) (fun (h2 : b01 (0 ≤ nI i ∧ nI i ≤ rd (wr σ 11 0 0 0) 11 0 12 - 1) = 0) => absurd (hin.mpr hv) (b01_0 h2))
      refine ⟨Ds, i, D, hMD0, hD, rfl, fun σ1 he1 hMD1 hB1 => ?_⟩
      rw [ht0, ← ht] at hB1
      exact ⟨0, rfl, ⟨rfl, rfl, rfl, trivial⟩, rfl, ⟨(he1.1 11 0 0 (by decide)).trans rfl, (he0.mono (by decide) (by decide)).trans (he1.f (by decide)), hMD1, hB1, Nat.zero_le _, hv0.symm⟩, trivial⟩
def S_brokenM : SpecT := fun av σ Φ => match av with
  | [Sum.inr (Sum.inr (Sum.inr q)), Sum.inl i0, Sum.inl x0, Sum.inl y0] => thisM q 11 (∃ Ds, MD σ Ds ∧ (¬ (0 ≤ x0 ∧ x0 ≤ y0 ∧ y0 ≤ 4095) → Φ (some (aI 0)) (wr (wr σ 11 0 0 0) 11 0 0 1)) ∧ (0 ≤ x0 ∧ x0 ≤ y0 ∧ y0 ≤ 4095 → (¬ vp_in i0 Ds.length → Φ (some (aI 0)) (wr (wr σ 11 0 0 0) 11 0 0 2)) ∧ (vp_in i0 Ds.length → ∀ D, Ds[ix i0]? = some D → ∃ a b, x0 = nI a ∧ y0 = nI b ∧ a ≤ b ∧ b ≤ 4095 ∧ ∀ σ', rd σ' 11 0 0 = 0 → eqf GQ [0] σ σ' → MD σ' Ds → Φ (some (aI (nI (cbN (tM σ) D a (b + 1 - a))))) σ')))
  | _ => False
set_option maxRecDepth 100000 in
theorem c_brokenM (l : Launch) : Con l yX5_broken cX5_broken 4 (some .int) 4 9 S_brokenM := by
  refine Con.of (by decide) (by decide) ?_
  intro p e s s0 a0 m args below meth c D ad cA A av σ Φ hlen hS hr X
  match av, hS with
  | [Sum.inr (Sum.inr (Sum.inr q)), Sum.inl i0, Sum.inl x0, Sum.inl y0], hS =>
    obtain ⟨rfl, hS⟩ := thisM_out hS
    refine wp_sound (ps := []) (C := fun _ _ _ _ => False) (tk_X5_broken X hr (c_refuse l) (by omega) (c_in l) (by omega) (c_countBad l) (by omega)) (fun _ _ _ _ h => h.elim) 400 _ _ _ _ ?_
    obtain ⟨Ds, hMD, hS1, hS3⟩ := hS
    obtain ⟨hM, h16, h12, T, hT, h4⟩ := id hMD
    have he0 : eqf [18, 33] [0] σ (wr σ 11 0 0 0) := (eqf.refl _ _ _).pf (by decide)
    obtain ⟨hMD0, ht0, hn0⟩ := MD_eqf he0 (by decide) (by decide) (by decide) hMD
    have hin : (0 ≤ i0 ∧ i0 ≤ rd (wr σ 11 0 0 0) 11 0 12 - 1) ↔ vp_in i0 Ds.length := in_len h16 hMD0.2.2.1
    refine And.intro (fun (h1 : x0 < 0) => hS1 (fun z => absurd h1 (Int32.not_lt.mpr z.1))) (fun (h1 : ¬ x0 < 0) => ?_)
    refine And.intro (fun (h2 : y0 < x0) => hS1 (fun z => absurd h2 (Int32.not_lt.mpr z.2.1))) (fun (h2 : ¬ y0 < x0) => ?_)
    refine And.intro (fun (h3 : y0 ≤ 4095) => ?_) (fun (h3 : ¬ y0 ≤ 4095) => hS1 (fun z => h3 z.2.2))
    obtain ⟨hS4, hS5⟩ := hS3 ⟨Int32.not_lt.mp h1, Int32.not_lt.mp h2, h3⟩
    refine And.intro (fun (h4 : ¬ b01 (0 ≤ i0 ∧ i0 ≤ rd (wr σ 11 0 0 0) 11 0 12 - 1) = 0) => ?_) (fun (h4 : b01 (0 ≤ i0 ∧ i0 ≤ rd (wr σ 11 0 0 0) 11 0 12 - 1) = 0) => hS4 (fun z => b01_0 h4 (hin.mpr z)))
    have hv := hin.mp (b01_n h4)
    obtain ⟨D, hD⟩ := get_vp hv
    obtain ⟨a, b, ea, eb, hab, hb, hS6⟩ := hS5 hv D hD
    refine ⟨Ds, ix i0, D, a, b, hMD0, hD, vpq_nI hv (by omega), ea, eb, by omega, hb, fun σ1 he1 hMD1 => ?_⟩
    rw [ht0]
    exact hS6 σ1 ((he1.1 11 0 0 (by decide)).trans rfl) ((he0.mono (by decide) (by decide)).trans (he1.f (by decide))) hMD1
theorem dropc {Ds : List Duty} {j : Nat} {D : Duty} (h : Ds[j]? = some D) : Ds.drop j = D :: Ds.drop (j + 1) := by
  obtain ⟨hl, e⟩ := List.getElem?_eq_some_iff.mp h
  rw [List.drop_eq_getElem_cons hl, e]
theorem get_lt {Ds : List Duty} {j : Nat} (h : j < Ds.length) : ∃ D, Ds[j]? = some D := ⟨Ds[j], List.getElem?_eq_some_iff.mpr ⟨h, rfl⟩⟩
def S_partM : SpecT := fun av σ Φ => match av with
  | [Sum.inr (Sum.inr (Sum.inr q))] => thisM q 11 (∃ Ds, MD σ Ds ∧ (Ds.length = 0 → Φ (some (aD (FP.i2d 0))) (wr (wr σ 11 0 0 0) 11 0 0 1)) ∧ (¬ Ds.length = 0 → ∀ σ', rd σ' 11 0 0 = 0 → eqf GQ [0] σ σ' → MD σ' Ds → Φ (some (aD (FP.ddiv (FP.i2d (nI (4096 * Ds.length - sumB (tM σ) Ds))) (FP.i2d (nI (4096 * Ds.length)))))) σ'))
  | _ => False
set_option maxRecDepth 100000 in
theorem c_partM (l : Launch) : Con l yX5_part cX5_part 3 (some .double) 1 9 S_partM := by
  refine Con.of (by decide) (by decide) ?_
  intro p e s s0 a0 m args below meth c D ad cA A av σ Φ hlen hS hr X
  match av, hS with
  | [Sum.inr (Sum.inr (Sum.inr q))], hS =>
    obtain ⟨rfl, hS⟩ := thisM_out hS
    obtain ⟨Ds, hMD, hS1, hS3⟩ := hS
    obtain ⟨hM, h16, h12, T, hT, h4⟩ := id hMD
    have he0 : eqf [18, 33] [0] σ (wr σ 11 0 0 0) := (eqf.refl _ _ _).pf (by decide)
    obtain ⟨hMD0, ht0, hn0⟩ := MD_eqf he0 (by decide) (by decide) (by decide) hMD
    obtain ⟨t, ht⟩ : ∃ t, t = tM σ := ⟨_, rfl⟩
    rw [← ht] at hS3 ht0
    refine wp_meth (β := Nat × Nat) (ps := [23]) (N := 60) (N0 := 60) (fun _ => 23) (fun b => [some (aR 11 0), some (aI (nI b.1)), some (aI (nI b.2))]) (fun b σ' => ¬ Ds.length = 0 ∧ rd σ' 11 0 0 = 0 ∧ eqf GQ [0] σ σ' ∧ MD σ' Ds ∧ tM σ' = t ∧ b.2 ≤ Ds.length ∧ b.1 + (4096 * (Ds.length - b.2) - sumB t (Ds.drop b.2)) = 4096 * Ds.length - sumB t Ds) (fun b _ => 16 - b.2) (tk_X5_part X hr (c_refuse l) (by omega) (c_countBad l) (by omega)) ?_ ?_
    · rintro ⟨n, j⟩ σ' ⟨hd0, hz, he, hMD', ht', hj, hv⟩
      dsimp only at hj hv ⊢
      have e12 := hMD'.2.2.1
      refine And.intro (fun (h : rd σ' 11 0 12 ≤ nI j) => ?_) (fun (h : ¬ rd σ' 11 0 12 ≤ nI j) => ?_)
      · rw [e12, nI_leI (by omega) (by omega)] at h
        have : j = Ds.length := by omega
        subst this
        rw [Nat.sub_self, Nat.mul_zero, Nat.zero_sub, Nat.add_zero] at hv
        have e4 : 4096 * rd σ' 11 0 12 = nI (4096 * Ds.length) := by rw [e12, show (4096 : Int32) = nI 4096 from rfl, pk_mul]
        have hne : (4096 * rd σ' 11 0 12) ≠ 0 := by rw [e4]; exact nI_ne0 (by omega) (by omega)
        refine And.intro (nan_ok hne) ?_
        have := hS3 hd0 σ' hz he hMD'
        rw [← hv, ← e4] at this
        exact this
      · rw [e12, nI_leI (by omega) (by omega)] at h
        obtain ⟨D, hD⟩ := get_lt (Ds := Ds) (j := j) (by omega)
        rw [dropc hD] at hv
        have hv : n + (4096 * (Ds.length - j) - (cbN t D 0 4096 + sumB t (Ds.drop (j + 1)))) = 4096 * Ds.length - sumB t Ds := hv
        have hc := cbN_le t D 4096 0
        have hs := sumB_le t (Ds.drop (j + 1))
        rw [List.length_drop] at hs
        refine ⟨Ds, j, D, 0, 4095, hMD', hD, rfl, rfl, rfl, by omega, by omega, fun σ2 he2 hMD2 => ?_⟩
        have ht2 : tM σ2 = t := (MI_eqx he2 (by decide) hMD'.1).2.1.trans ht'
        have e5 : nI n + (4096 - nI (cbN (tM σ') D 0 4096)) = nI (n + (4096 - cbN t D 0 4096)) := by rw [ht', show (4096 : Int32) = nI 4096 from rfl, pk_sub hc, nI_add]
        refine ⟨(n + (4096 - cbN t D 0 4096), j + 1), rfl, ⟨rfl, ?_, ?_, trivial⟩, rfl, ⟨hd0, (he2.1 11 0 0 (by decide)).trans hz, he.trans (he2.f (by decide)), hMD2, ht2, by show j + 1 ≤ Ds.length; omega, ?_⟩, by show 16 - (j + 1) < 16 - j; omega⟩
        · show some (some (aI (nI n + (4096 - nI (cbN (tM σ') D 0 4096))))) = some (some (aI (nI (n + (4096 - cbN t D 0 4096)))))
          rw [e5]
        · show some (some (aI (nI j + 1))) = some (some (aI (nI (j + 1))))
          rw [nI_1]
        · show n + (4096 - cbN t D 0 4096) + (4096 * (Ds.length - (j + 1)) - sumB t (Ds.drop (j + 1))) = _
          omega
    · have e12 : rd (wr σ 11 0 0 0) 11 0 12 = nI Ds.length := h12
      refine And.intro (fun (h : ¬ rd (wr σ 11 0 0 0) 11 0 12 = 0) => ?_) (fun (h : rd (wr σ 11 0 0 0) 11 0 12 = 0) => ?_)
      · rw [e12, show (0 : Int32) = nI 0 from rfl, nI_eq (by omega) (by decide)] at h
        exact ⟨(0, 0), rfl, ⟨rfl, rfl, rfl, trivial⟩, rfl, ⟨h, rfl, he0.mono (by decide) (by decide), hMD0, ht0, Nat.zero_le _, by show 0 + (4096 * (Ds.length - 0) - sumB t Ds) = _; omega⟩, trivial⟩
      · rw [e12, show (0 : Int32) = nI 0 from rfl, nI_eq (by omega) (by decide)] at h
        exact hS1 h
def S_countM : SpecT := fun av σ Φ => match av with
  | [Sum.inr (Sum.inr (Sum.inr q)), Sum.inl k] => thisM q 11 (∃ Ds, MD σ Ds ∧ (¬ (0 ≤ k ∧ k ≤ 2) → Φ (some (aI 0)) (wr (wr σ 11 0 0 0) 11 0 0 1)) ∧ (0 ≤ k ∧ k ≤ 2 → ∀ σ', rd σ' 11 0 0 = 0 → eqf GQ [0] σ σ' → MD σ' Ds → Φ (some (aI (if k = 0 then rd σ 11 0 1 else if k = 1 then nI Ds.length else nI (numV (tM σ) Ds)))) σ'))
  | _ => False
set_option maxRecDepth 100000 in
theorem c_countM (l : Launch) : Con l yX5_count cX5_count 4 (some .int) 2 9 S_countM := by
  refine Con.of (by decide) (by decide) ?_
  intro p e s s0 a0 m args below meth c D ad cA A av σ Φ hlen hS hr X
  match av, hS with
  | [Sum.inr (Sum.inr (Sum.inr q)), Sum.inl k], hS =>
    obtain ⟨rfl, hS⟩ := thisM_out hS
    obtain ⟨Ds, hMD, hS1, hS3⟩ := hS
    obtain ⟨hM, h16, h12, T, hT, h4⟩ := id hMD
    have he0 : eqf [18, 33] [0] σ (wr σ 11 0 0 0) := (eqf.refl _ _ _).pf (by decide)
    obtain ⟨hMD0, ht0, hn0⟩ := MD_eqf he0 (by decide) (by decide) (by decide) hMD
    obtain ⟨t, ht⟩ : ∃ t, t = tM σ := ⟨_, rfl⟩
    rw [← ht] at hS3 ht0
    refine wp_meth (β := Nat × Nat) (ps := [24]) (N := 60) (N0 := 60) (fun _ => 24) (fun b => [some (aR 11 0), some (aI k), some (aI (nI b.1)), some (aI (nI b.2))]) (fun b σ' => (0 ≤ k ∧ k ≤ 2) ∧ rd σ' 11 0 0 = 0 ∧ eqf GQ [0] σ σ' ∧ MD σ' Ds ∧ tM σ' = t ∧ b.2 ≤ Ds.length ∧ b.1 + numV t (Ds.drop b.2) = numV t Ds) (fun b _ => 16 - b.2) (tk_X5_count X hr (c_in l) (by omega) (c_refuse l) (by omega) (c_countBad l) (by omega)) ?_ ?_
    · rintro ⟨n, j⟩ σ' ⟨hk, hz, he, hMD', ht', hj, hv⟩
      dsimp only at hj hv ⊢
      have e12 := hMD'.2.2.1
      have e1 : rd σ' 11 0 1 = rd σ 11 0 1 := he.1 11 0 1 (by decide) (by decide)
      have hS9 := hS3 hk σ' hz he hMD'
      refine And.intro (fun (h : rd σ' 11 0 12 ≤ nI j) => ?_) (fun (h : ¬ rd σ' 11 0 12 ≤ nI j) => ?_)
      · rw [e12, nI_leI (by omega) (by omega)] at h
        have : j = Ds.length := by omega
        subst this
        rw [List.drop_length] at hv
        have hv : n + 0 = numV t Ds := hv
        refine And.intro (fun (h1 : ¬ k = 0) => ?_) (fun (h1 : k = 0) => ?_)
        · rw [if_neg h1] at hS9
          refine And.intro (fun (h2 : ¬ k = 1) => ?_) (fun (h2 : k = 1) => ?_)
          · rw [if_neg h2, ← hv] at hS9
            exact hS9
          · rw [if_pos h2, ← e12] at hS9
            exact hS9
        · rw [if_pos h1, ← e1] at hS9
          exact hS9
      · rw [e12, nI_leI (by omega) (by omega)] at h
        refine And.intro (fun (h3 : ¬ k = 2) => ?_) (fun (h3 : k = 2) => ?_)
        · refine And.intro (fun (h1 : ¬ k = 0) => ?_) (fun (h1 : k = 0) => ?_)
          · rw [if_neg h1] at hS9
            refine And.intro (fun (h2 : ¬ k = 1) => ?_) (fun (h2 : k = 1) => ?_)
            · exfalso
              rcases i32_cases hk.1 (Int32.le_trans hk.2 (by decide)) with e | e | e | e | e | e | e | e | e | e | e | e | e | e | e | e
              · exact h1 e
              · exact h2 e
              · exact h3 e
              all_goals (have := hk.2; rw [e] at this; exact absurd this (by decide))
            · rw [if_pos h2, ← e12] at hS9
              exact hS9
          · rw [if_pos h1, ← e1] at hS9
            exact hS9
        · obtain ⟨D, hD⟩ := get_lt (Ds := Ds) (j := j) (by omega)
          rw [dropc hD] at hv
          have hv : n + ((if cbN t D 0 4096 = 0 then 1 else 0) + numV t (Ds.drop (j + 1))) = numV t Ds := hv
          have hc := cbN_le t D 4096 0
          refine ⟨Ds, j, D, 0, 4095, hMD', hD, rfl, rfl, rfl, by omega, by omega, fun σ2 he2 hMD2 => ?_⟩
          have ht2 : tM σ2 = t := (MI_eqx he2 (by decide) hMD'.1).2.1.trans ht'
          have hcc : (nI (cbN (tM σ') D 0 4096) = 0) ↔ cbN t D 0 4096 = 0 := by rw [ht', show (0 : Int32) = nI 0 from rfl, nI_eq (by omega) (by decide)]
          refine And.intro (fun (h4 : ¬ nI (cbN (tM σ') D 0 4096) = 0) => ?_) (fun (h4 : nI (cbN (tM σ') D 0 4096) = 0) => ?_)
          · rw [if_neg (fun z => h4 (hcc.mpr z))] at hv
            refine ⟨(n, j + 1), rfl, ⟨rfl, rfl, rfl, ?_, trivial⟩, rfl, ⟨hk, (he2.1 11 0 0 (by decide)).trans hz, he.trans (he2.f (by decide)), hMD2, ht2, by show j + 1 ≤ Ds.length; omega, by show n + numV t (Ds.drop (j + 1)) = _; omega⟩, by show 16 - (j + 1) < 16 - j; omega⟩
            show some (some (aI (nI j + 1))) = some (some (aI (nI (j + 1))))
            rw [nI_1]
          · rw [if_pos (hcc.mp h4)] at hv
            refine ⟨(n + 1, j + 1), rfl, ⟨rfl, rfl, ?_, ?_, trivial⟩, rfl, ⟨hk, (he2.1 11 0 0 (by decide)).trans hz, he.trans (he2.f (by decide)), hMD2, ht2, by show j + 1 ≤ Ds.length; omega, by show n + 1 + numV t (Ds.drop (j + 1)) = _; omega⟩, by show 16 - (j + 1) < 16 - j; omega⟩
            · show some (some (aI (nI n + 1))) = some (some (aI (nI (n + 1))))
              rw [nI_1]
            · show some (some (aI (nI j + 1))) = some (some (aI (nI (j + 1))))
              rw [nI_1]
    · refine And.intro (fun (h : ¬ b01 (0 ≤ k ∧ k ≤ 2) = 0) => ?_) (fun (h : b01 (0 ≤ k ∧ k ≤ 2) = 0) => hS1 (b01_0 h))
      exact ⟨(0, 0), rfl, ⟨rfl, rfl, rfl, rfl, trivial⟩, rfl, ⟨b01_n h, rfl, he0.mono (by decide) (by decide), hMD0, ht0, Nat.zero_le _, by show 0 + numV t Ds = _; omega⟩, trivial⟩
