def S_hasD : SpecT := fun av σ Φ => match av with
  | [Sum.inr (Sum.inr (Sum.inr q)), Sum.inl i] => thisM q 8 ((∃ n, n ≤ 16 ∧ rd σ 8 0 3 = nI n ∧ Φ (some (aI (b01 (vp_in i n)))) σ))
  | _ => False
set_option maxRecDepth 100000 in
theorem c_hasD (l : Launch) : Con l yX0_has cX0_has 2 (some .boolean) 2 0 S_hasD := by
  refine Con.of (by decide) (by decide) ?_
  intro p e s s0 a0 m args below meth c D ad cA A av σ Φ hlen hS hr X
  match av, hS with
  | [Sum.inr (Sum.inr (Sum.inr q)), Sum.inl i], hS =>
    obtain ⟨rfl, hS⟩ := thisM_out hS
    refine wp_sound (ps := []) (C := fun _ _ _ _ => False) (tk_X0_has X hr) (fun _ _ _ _ h => h.elim) 400 _ _ _ _ ?_
    obtain ⟨n, hn, hsz, hS⟩ := hS
    have e0 : (0 : Int32).toInt = 0 := by decide
    have en : (nI n).toInt = (n : Int) := nI_toInt (by omega)
    refine And.intro (fun h1 => ?_) (fun h1 => ?_)
    · rw [b01_f (fun z => by
        have z1 := (vp_in_iff.mp z).1
        have := Int32.lt_iff_toInt_lt.mp h1
        omega)] at hS
      exact And.intro (Or.inl rfl) hS
    · refine And.intro (fun (h2 : rd σ 8 0 3 ≤ i) => ?_) (fun (h2 : ¬ rd σ 8 0 3 ≤ i) => ?_)
      · rw [b01_f (fun z => by
          have z1 := (vp_in_iff.mp z).2
          rw [hsz] at h2
          have := Int32.le_iff_toInt_le.mp h2
          omega)] at hS
        exact And.intro (Or.inl rfl) hS
      · have hv : vp_in i n := by
          rw [hsz] at h2
          have a := Int32.lt_iff_toInt_lt.mp (Int32.not_le.mp h2)
          have b := Int32.le_iff_toInt_le.mp (Int32.not_lt.mp h1)
          exact vp_in_iff.mpr ⟨by omega, by omega⟩
        rw [b01_t hv] at hS
        exact And.intro (Or.inr rfl) hS
def S_isKeptIn : SpecT := fun av σ Φ => match av with
  | [Sum.inr (Sum.inr (Sum.inr q)), Sum.inl i, Sum.inl s] => thisM q 8 (∃ (Ds : List Duty) (D : Duty), DSt σ Ds ∧ vp_in i Ds.length ∧ Ds[ix i]? = some D ∧ rng s ∧ Φ (some (aI (kpV (tC σ) D s))) σ)
  | _ => False
set_option maxRecDepth 100000 in
theorem c_isKeptIn (l : Launch) : Con l yX0_isKeptIn cX0_isKeptIn 4 (some .boolean) 3 28 S_isKeptIn := by
  refine Con.of (by decide) (by decide) ?_
  intro p e s s0 a0 m args below meth c D ad cA A av σ Φ hlen hS hr X
  match av, hS with
  | [Sum.inr (Sum.inr (Sum.inr q)), Sum.inl i, Sum.inl s], hS =>
    obtain ⟨rfl, hS⟩ := thisM_out hS
    refine wp_sound (ps := []) (C := fun _ _ _ _ => False) (tk_X0_isKeptIn X hr (c_isTrueIn l 6) (by omega) (c_goalHolds l) (by omega)) (fun _ _ _ _ h => h.elim) 400 _ _ _ _ ?_
    obtain ⟨Ds, D, hDS, hi, hD, hs, hS⟩ := hS
    obtain ⟨hC, -, h16, hall⟩ := hDS
    obtain ⟨hCR, hvD⟩ := hall _ D hD
    have hi16 : vp_in i 16 := vp_mono hi h16
    have hl := vp_lt hi16
    have k01 := kpV_01 hC.2 hvD s
    have hN6 : ∀ {x : Int32} {lo hi : Int32}, isN (tC σ) (nC σ) lo hi x → hN (tC σ) (ix x) ≤ 6 := fun h => (hC.2.2 _ (vp_lt h.1)).2.1.2
    refine And.intro hi16 (And.intro hl ?_)
    have gh : ∀ {v : Int32}, v = ghF (tC σ) D.2.2.1 D.2.2.2 s → v = kpV (tC σ) D s → Φ (some (aI v)) σ := fun _ h => by rw [h]; exact hS
    obtain ⟨hq0, hq1, -⟩ := id hCR
    by_cases h0 : D.1 = 0
    · have hp : isN (tC σ) (nC σ) 5 10 D.2.1 := by
        rcases hvD.1 with z | z
        · exact z.2
        · rcases z.1 with y | y <;> (rw [h0] at y; exact absurd y (by decide))
      obtain ⟨ea, eg⟩ := hq0 h0
      have hp' := hp
      rw [← ea] at hp'
      have ek : kpV (tC σ) D s = if EV (tC σ) s (ix (rd σ 36 (ix i) 0)) = 0 then 1 else ghF (tC σ) D.2.2.1 D.2.2.2 s := by unfold kpV; rw [if_pos h0, ea]
      refine And.intro hC (And.intro hp' (And.intro (hN6 hp') ?_))
      refine And.intro (fun (h : ¬ EV (tC σ) s (ix (rd σ 36 (ix i) 0)) = 0) => ?_) (fun (h : EV (tC σ) s (ix (rd σ 36 (ix i) 0)) = 0) => ?_)
      · rw [if_neg h] at ek
        refine And.intro hl ?_
        refine And.intro (fun _ => ?_) (fun (h2 : ¬ rd σ 36 (ix i) 1 = -1) => absurd eg h2)
        exact ⟨ix i, D, rfl, hl, hC, hCR, hvD, hs, And.intro (by rw [← ek]; exact k01) (by rw [← ek]; exact hS)⟩
      · rw [if_pos h] at ek
        rw [ek] at hS
        exact And.intro (Or.inr rfl) hS
    · have hp : isN (tC σ) (nC σ) 15 15 D.2.1 := by
        rcases hvD.1 with z | z
        · exact absurd z.1 h0
        · exact z.2
      have hlt := vp_lt hp.1
      have e15 : tC σ 0 (ix D.2.1) = 15 := Int32.le_antisymm hp.2.2 hp.2.1
      obtain ⟨ca, cb, -⟩ := (hC.2.2 _ hlt).2.2.2.2.2.2.2.2.2.2 e15
      obtain ⟨ea, eg, ew⟩ := hq1 h0
      have hb := cb.isN (n := nC σ) (by omega)
      have ha := ca.isN (n := nC σ) (by omega)
      have hav := vp_mono ha.1 hC.1.2
      rw [← ea] at hb
      rw [← eg] at ha hav
      have ek : kpV (tC σ) D s = if EV (tC σ) s (ix (rd σ 36 (ix i) 0)) = 0 then 1 else if EV (tC σ) s (ix (rd σ 36 (ix i) 1)) = rd σ 36 (ix i) 2 then ghF (tC σ) D.2.2.1 D.2.2.2 s else 1 := by unfold kpV; rw [if_neg h0, ea, eg, ew]
      refine And.intro hC (And.intro hb (And.intro (hN6 hb) ?_))
      refine And.intro (fun (h : ¬ EV (tC σ) s (ix (rd σ 36 (ix i) 0)) = 0) => ?_) (fun (h : EV (tC σ) s (ix (rd σ 36 (ix i) 0)) = 0) => ?_)
      · rw [if_neg h] at ek
        refine And.intro hl ?_
        refine And.intro (fun (h2 : rd σ 36 (ix i) 1 = -1) => ?_) (fun _ => ?_)
        · rw [h2] at hav
          exact absurd (Or.inl (by decide)) hav
        refine And.intro hl (And.intro hC (And.intro ha (And.intro (hN6 ha) (And.intro hl ?_))))
        refine And.intro (fun (h3 : EV (tC σ) s (ix (rd σ 36 (ix i) 1)) = rd σ 36 (ix i) 2) => ?_) (fun (h3 : ¬ EV (tC σ) s (ix (rd σ 36 (ix i) 1)) = rd σ 36 (ix i) 2) => ?_)
        · rw [if_pos h3] at ek
          exact ⟨ix i, D, rfl, hl, hC, hCR, hvD, hs, And.intro (by rw [← ek]; exact k01) (by rw [← ek]; exact hS)⟩
        · rw [if_neg h3] at ek
          rw [ek] at hS
          exact And.intro (Or.inr rfl) hS
      · rw [if_pos h] at ek
        rw [ek] at hS
        exact And.intro (Or.inr rfl) hS
/-- how many of the m stores from a on break the duty; the first of them that does -/
def cbN (t : Tbl) (D : Duty) : Nat → Nat → Nat
  | _, 0 => 0
  | a, m + 1 => (if kpV t D (nI a) = 0 then 1 else 0) + cbN t D (a + 1) m
def lbF (t : Tbl) (D : Duty) : Nat → Nat → Int32
  | _, 0 => -1
  | a, m + 1 => if kpV t D (nI a) = 0 then nI a else lbF t D (a + 1) m
theorem cbN_le (t : Tbl) (D : Duty) : ∀ m a, cbN t D a m ≤ m
  | 0, _ => Nat.le_refl _
  | m + 1, a => by
    have := cbN_le t D m (a + 1)
    unfold cbN
    split <;> omega
theorem lb_iff (t : Tbl) (D : Duty) : ∀ m a, a + m ≤ 4096 → (lbF t D a m = -1 ↔ cbN t D a m = 0)
  | 0, _, _ => by simp [lbF, cbN]
  | m + 1, a, h => by
    unfold lbF cbN
    by_cases hk : kpV t D (nI a) = 0
    · rw [if_pos hk, if_pos hk]
      constructor
      · intro z
        exact absurd z (fun z => nI_pos (n := a) (by omega) (by rw [z]; decide))
      · intro z; omega
    · rw [if_neg hk, if_neg hk, Nat.zero_add]
      exact lb_iff t D m (a + 1) (by omega)
def S_leastBroken : SpecT := fun av σ Φ => match av with
  | [Sum.inr (Sum.inr (Sum.inr q)), Sum.inl i] => thisM q 8 (∃ (Ds : List Duty) (D : Duty), DSt σ Ds ∧ vp_in i Ds.length ∧ Ds[ix i]? = some D ∧ Φ (some (aI (lbF (tC σ) D 0 4096))) σ)
  | _ => False
set_option maxRecDepth 100000 in
theorem c_leastBroken (l : Launch) : Con l yX0_leastBroken cX0_leastBroken 3 (some .int) 2 29 S_leastBroken := by
  refine Con.of (by decide) (by decide) ?_
  intro p e s s0 a0 m args below meth c D ad cA A av σ Φ hlen hS hr X
  match av, hS with
  | [Sum.inr (Sum.inr (Sum.inr q)), Sum.inl i], hS =>
    obtain ⟨rfl, hS⟩ := thisM_out hS
    obtain ⟨Ds, D, hDS, hi, hD, hS⟩ := hS
    obtain ⟨v0, hv0⟩ : ∃ v, v = lbF (tC σ) D 0 4096 := ⟨_, rfl⟩
    rw [← hv0] at hS
    refine wp_meth (β := Nat) (ps := [2]) (N := 60) (N0 := 20) (fun _ => 2) (fun j => [some (aR 8 0), some (aI i), some (aI (nI j))]) (fun j σ' => σ' = σ ∧ j ≤ 4096 ∧ lbF (tC σ) D j (4096 - j) = v0) (fun j _ => 4096 - j) (tk_X0_leastBroken X hr (c_isKeptIn l) (by omega)) ?_ ?_
    · rintro j σ' ⟨rfl, hj, hv⟩
      refine And.intro (fun (h : 4095 < nI j) => ?_) (fun (h : ¬ 4095 < nI j) => ?_)
      · rw [show (4095 : Int32) = nI 4095 from rfl, nI_ltI (by decide) (by omega)] at h
        rw [show 4096 - j = 0 by omega] at hv
        rw [← hv] at hS
        exact hS
      · rw [show (4095 : Int32) = nI 4095 from rfl, nI_ltI (by decide) (by omega)] at h
        refine ⟨Ds, D, hDS, hi, hD, rng_nn (by omega), ?_⟩
        rw [show 4096 - j = (4095 - j) + 1 by omega] at hv
        unfold lbF at hv
        refine And.intro (fun (h2 : ¬ kpV (tC σ') D (nI j) = 0) => ?_) (fun (h2 : kpV (tC σ') D (nI j) = 0) => ?_)
        · rw [if_neg h2] at hv
          exact ⟨j + 1, rfl, ⟨rfl, rfl, by rw [nI_succ]; rfl, trivial⟩, rfl, ⟨rfl, by omega, by rw [show 4096 - (j + 1) = 4095 - j by omega]; exact hv⟩, by show 4096 - (j + 1) < 4096 - j; omega⟩
        · rw [if_pos h2] at hv
          rw [← hv] at hS
          exact hS
    · exact ⟨0, rfl, ⟨rfl, rfl, rfl, trivial⟩, rfl, ⟨rfl, by omega, hv0.symm⟩, trivial⟩
def S_howManyBroken : SpecT := fun av σ Φ => match av with
  | [Sum.inr (Sum.inr (Sum.inr q)), Sum.inl i, Sum.inl x, Sum.inl y] => thisM q 8 (∃ (Ds : List Duty) (D : Duty), DSt σ Ds ∧ vp_in i Ds.length ∧ Ds[ix i]? = some D ∧ ∃ a b, x = nI a ∧ y = nI b ∧ a ≤ b + 1 ∧ b ≤ 4095 ∧ Φ (some (aI (nI (cbN (tC σ) D a (b + 1 - a))))) σ)
  | _ => False
set_option maxRecDepth 100000 in
theorem c_howManyBroken (l : Launch) : Con l yX0_howManyBroken cX0_howManyBroken 6 (some .int) 4 29 S_howManyBroken := by
  refine Con.of (by decide) (by decide) ?_
  intro p e s s0 a0 m args below meth c D ad cA A av σ Φ hlen hS hr X
  match av, hS with
  | [Sum.inr (Sum.inr (Sum.inr q)), Sum.inl i, Sum.inl x, Sum.inl y], hS =>
    obtain ⟨rfl, hS⟩ := thisM_out hS
    obtain ⟨Ds, D, hDS, hi, hD, a, b, rfl, rfl, hab, hb, hS⟩ := hS
    obtain ⟨v0, hv0⟩ : ∃ v, v = cbN (tC σ) D a (b + 1 - a) := ⟨_, rfl⟩
    rw [← hv0] at hS
    refine wp_meth (β := Nat × Nat) (ps := [6]) (N := 60) (N0 := 20) (fun _ => 6) (fun j => [some (aR 8 0), some (aI i), none, some (aI (nI b)), some (aI (nI j.2)), some (aI (nI j.1))]) (fun j σ' => σ' = σ ∧ j.1 ≤ b + 1 ∧ j.2 + cbN (tC σ) D j.1 (b + 1 - j.1) = v0) (fun j _ => b + 1 - j.1) (tk_X0_howManyBroken X hr (c_isKeptIn l) (by omega)) ?_ ?_
    · rintro ⟨j, n⟩ σ' ⟨rfl, hj, hv⟩
      dsimp only at hj hv ⊢
      refine And.intro (fun (h : nI b < nI j) => ?_) (fun (h : ¬ nI b < nI j) => ?_)
      · rw [nI_ltI (by omega) (by omega)] at h
        rw [show b + 1 - j = 0 by omega] at hv
        have hv : n = v0 := hv
        rw [← hv] at hS
        exact hS
      · rw [nI_ltI (by omega) (by omega)] at h
        refine ⟨Ds, D, hDS, hi, hD, rng_nn (by omega), ?_⟩
        rw [show b + 1 - j = (b - j) + 1 by omega] at hv
        unfold cbN at hv
        refine And.intro (fun (h2 : ¬ kpV (tC σ') D (nI j) = 0) => ?_) (fun (h2 : kpV (tC σ') D (nI j) = 0) => ?_)
        · rw [if_neg h2, Nat.zero_add] at hv
          exact ⟨(j + 1, n), rfl, ⟨rfl, rfl, rfl, rfl, by rw [nI_succ]; rfl, trivial⟩, rfl, ⟨rfl, by dsimp only; omega, by dsimp only; rw [show b + 1 - (j + 1) = b - j by omega]; exact hv⟩, by show b + 1 - (j + 1) < b + 1 - j; omega⟩
        · rw [if_pos h2] at hv
          exact ⟨(j + 1, n + 1), rfl, ⟨rfl, rfl, rfl, by rw [nI_succ]; rfl, by rw [nI_succ]; rfl, trivial⟩, rfl, ⟨rfl, by dsimp only; omega, by dsimp only; rw [show b + 1 - (j + 1) = b - j by omega]; omega⟩, by show b + 1 - (j + 1) < b + 1 - j; omega⟩
    · exact ⟨(a, 0), rfl, ⟨rfl, rfl, rfl, rfl, rfl, trivial⟩, rfl, ⟨rfl, by dsimp only; omega, by dsimp only; rw [hv0, Nat.zero_add]⟩, trivial⟩
/-- all pairs that are broken; how many duties are valid -/
def sumB (t : Tbl) : List Duty → Nat
  | [] => 0
  | D :: Ds => cbN t D 0 4096 + sumB t Ds
def numV (t : Tbl) : List Duty → Nat
  | [] => 0
  | D :: Ds => (if cbN t D 0 4096 = 0 then 1 else 0) + numV t Ds
theorem sumB_le (t : Tbl) : ∀ Ds, sumB t Ds ≤ 4096 * Ds.length
  | [] => Nat.zero_le _
  | D :: Ds => by
    have h1 := sumB_le t Ds
    have h2 := cbN_le t D 4096 0
    simp only [sumB, List.length_cons]
    omega
theorem drop_cons {Ds : List Duty} {i : Nat} (h : i < Ds.length) : ∃ D, Ds[i]? = some D ∧ Ds.drop i = D :: Ds.drop (i + 1) := ⟨Ds[i], by simp [h], List.drop_eq_getElem_cons h⟩
def S_pairsC : SpecT := fun av σ Φ => match av with
  | [Sum.inr (Sum.inr (Sum.inr q))] => thisM q 8 (∃ Ds, DSt σ Ds ∧ Φ (some (aI (nI (sumB (tC σ) Ds)))) σ)
  | _ => False
set_option maxRecDepth 100000 in
theorem c_pairsC (l : Launch) : Con l yX0_howManyBrokenPairs cX0_howManyBrokenPairs 3 (some .int) 1 30 S_pairsC := by
  refine Con.of (by decide) (by decide) ?_
  intro p e s s0 a0 m args below meth c D ad cA A av σ Φ hlen hS hr X
  match av, hS with
  | [Sum.inr (Sum.inr (Sum.inr q))], hS =>
    obtain ⟨rfl, hS⟩ := thisM_out hS
    obtain ⟨Ds, hDS, hS⟩ := hS
    have h16 := hDS.2.2.1
    obtain ⟨v0, hv0⟩ : ∃ v, v = sumB (tC σ) Ds := ⟨_, rfl⟩
    rw [← hv0] at hS
    refine wp_meth (β := Nat × Nat) (ps := [4]) (N := 60) (N0 := 20) (fun _ => 4) (fun j => [some (aR 8 0), some (aI (nI j.2)), some (aI (nI j.1))]) (fun j σ' => σ' = σ ∧ j.1 ≤ Ds.length ∧ j.2 + sumB (tC σ) (Ds.drop j.1) = v0) (fun j _ => Ds.length - j.1) (tk_X0_howManyBrokenPairs X hr (c_howManyBroken l) (by omega)) ?_ ?_
    · rintro ⟨j, n⟩ σ' ⟨rfl, hj, hv⟩
      dsimp only at hj hv ⊢
      have hsz := hDS.2.1
      refine And.intro (fun (h : rd σ' 8 0 3 ≤ nI j) => ?_) (fun (h : ¬ rd σ' 8 0 3 ≤ nI j) => ?_)
      · rw [hsz, nI_leI (by omega) (by omega)] at h
        rw [List.drop_of_length_le h] at hv
        have hv : n = v0 := hv
        rw [← hv] at hS
        exact hS
      · rw [hsz, nI_leI (by omega) (by omega)] at h
        obtain ⟨D, hD, hdr⟩ := drop_cons (Ds := Ds) (i := j) (by omega)
        refine ⟨Ds, D, hDS, vp_in_nI (by omega) (by omega), by rw [show ix (nI j) = j from nI_clamp (by omega)]; exact hD, 0, 4095, rfl, rfl, by omega, by omega, ?_⟩
        rw [hdr] at hv
        unfold sumB at hv
        exact ⟨(j + 1, n + cbN (tC σ') D 0 4096), rfl, ⟨rfl, by rw [← nI_add]; rfl, by rw [nI_succ]; rfl, trivial⟩, rfl, ⟨rfl, by dsimp only; omega, by dsimp only; omega⟩, by show Ds.length - (j + 1) < Ds.length - j; omega⟩
    · exact ⟨(0, 0), rfl, ⟨rfl, rfl, rfl, trivial⟩, rfl, ⟨rfl, by dsimp only; omega, by dsimp only; rw [hv0, Nat.zero_add, List.drop_zero]⟩, trivial⟩
def S_validC : SpecT := fun av σ Φ => match av with
  | [Sum.inr (Sum.inr (Sum.inr q))] => thisM q 8 (∃ Ds, DSt σ Ds ∧ Φ (some (aI (nI (numV (tC σ) Ds)))) σ)
  | _ => False
set_option maxRecDepth 100000 in
theorem c_validC (l : Launch) : Con l yX0_howManyValid cX0_howManyValid 3 (some .int) 1 30 S_validC := by
  refine Con.of (by decide) (by decide) ?_
  intro p e s s0 a0 m args below meth c D ad cA A av σ Φ hlen hS hr X
  match av, hS with
  | [Sum.inr (Sum.inr (Sum.inr q))], hS =>
    obtain ⟨rfl, hS⟩ := thisM_out hS
    obtain ⟨Ds, hDS, hS⟩ := hS
    have h16 := hDS.2.2.1
    obtain ⟨v0, hv0⟩ : ∃ v, v = numV (tC σ) Ds := ⟨_, rfl⟩
    rw [← hv0] at hS
    refine wp_meth (β := Nat × Nat) (ps := [4]) (N := 60) (N0 := 20) (fun _ => 4) (fun j => [some (aR 8 0), some (aI (nI j.2)), some (aI (nI j.1))]) (fun j σ' => σ' = σ ∧ j.1 ≤ Ds.length ∧ j.2 + numV (tC σ) (Ds.drop j.1) = v0) (fun j _ => Ds.length - j.1) (tk_X0_howManyValid X hr (c_leastBroken l) (by omega)) ?_ ?_
    · rintro ⟨j, n⟩ σ' ⟨rfl, hj, hv⟩
      dsimp only at hj hv ⊢
      have hsz := hDS.2.1
      refine And.intro (fun (h : rd σ' 8 0 3 ≤ nI j) => ?_) (fun (h : ¬ rd σ' 8 0 3 ≤ nI j) => ?_)
      · rw [hsz, nI_leI (by omega) (by omega)] at h
        rw [List.drop_of_length_le h] at hv
        have hv : n = v0 := hv
        rw [← hv] at hS
        exact hS
      · rw [hsz, nI_leI (by omega) (by omega)] at h
        obtain ⟨D, hD, hdr⟩ := drop_cons (Ds := Ds) (i := j) (by omega)
        refine ⟨Ds, D, hDS, vp_in_nI (by omega) (by omega), by rw [show ix (nI j) = j from nI_clamp (by omega)]; exact hD, ?_⟩
        rw [hdr] at hv
        unfold numV at hv
        refine And.intro (fun (h2 : ¬ lbF (tC σ') D 0 4096 = -1) => ?_) (fun (h2 : lbF (tC σ') D 0 4096 = -1) => ?_)
        · rw [lb_iff _ _ 4096 0 (by omega)] at h2
          rw [if_neg h2, Nat.zero_add] at hv
          exact ⟨(j + 1, n), rfl, ⟨rfl, rfl, by rw [nI_succ]; rfl, trivial⟩, rfl, ⟨rfl, by dsimp only; omega, by dsimp only; exact hv⟩, by show Ds.length - (j + 1) < Ds.length - j; omega⟩
        · rw [lb_iff _ _ 4096 0 (by omega)] at h2
          rw [if_pos h2] at hv
          exact ⟨(j + 1, n + 1), rfl, ⟨rfl, by rw [nI_succ]; rfl, by rw [nI_succ]; rfl, trivial⟩, rfl, ⟨rfl, by dsimp only; omega, by dsimp only; omega⟩, by show Ds.length - (j + 1) < Ds.length - j; omega⟩
    · exact ⟨(0, 0), rfl, ⟨rfl, rfl, rfl, trivial⟩, rfl, ⟨rfl, by dsimp only; omega, by dsimp only; rw [hv0, Nat.zero_add, List.drop_zero]⟩, trivial⟩
