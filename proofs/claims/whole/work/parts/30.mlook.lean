/-! THE REFERENCE COUNTS -/
theorem bti_sh : ∀ r : Fin 32, ((nI r.val &&& 31).toBitVec.smod 32).toNat = r.val := by decide +kernel
theorem bv_1 (x : BitVec 32) : x &&& 1#32 = 1#32 ↔ x.getLsbD 0 = true := by
  constructor
  · intro h
    have := congrArg (fun z => BitVec.getLsbD z 0) h
    simpa using this
  · intro h
    apply BitVec.eq_of_getLsbD_eq
    intro i hi
    by_cases h0 : i = 0
    · subst h0; simp [h]
    · simp [BitVec.getLsbD_one, h0]
theorem bti_iff (w : Int32) {r : Nat} (hr : r < 32) : (w >>> (nI r &&& 31)) &&& 1 = 1 ↔ w.toBitVec.getLsbD r = true := by
  have hs : ((nI r &&& 31).toBitVec.smod 32).toNat = r := bti_sh ⟨r, hr⟩
  rw [← Int32.toBitVec_inj, Int32.toBitVec_and, Int32.toBitVec_shiftRight]
  show _ &&& 1#32 = 1#32 ↔ _
  rw [bv_1, BitVec.sshiftRight_eq', hs, BitVec.getLsbD_sshiftRight]
  simp [hr]
theorem bti_set (w : Int32) {j r : Nat} (hj : j < 32) (hr : r < 32) : (w ||| ((1 : Int32) <<< (nI j &&& 31))).toBitVec.getLsbD r = true ↔ (w.toBitVec.getLsbD r = true ∨ r = j) := by
  have hs : ((nI j &&& 31).toBitVec.smod 32).toNat = j := bti_sh ⟨j, hj⟩
  rw [Int32.toBitVec_or, Int32.toBitVec_shiftLeft, BitVec.getLsbD_or]
  show (_ || (BitVec.shiftLeft 1#32 _).getLsbD r) = true ↔ _
  rw [hs]
  show (_ || (1#32 <<< j).getLsbD r) = true ↔ _
  rw [BitVec.getLsbD_shiftLeft, BitVec.getLsbD_one]
  cases w.toBitVec.getLsbD r
  · simp only [Bool.false_or, Bool.and_eq_true, decide_eq_true_eq, Bool.not_eq_true', decide_eq_false_iff_not]
    constructor
    · intro z; exact Or.inr (by omega)
    · intro z
      rcases z with z | z
      · exact absurd z (by decide)
      · omega
  · simp only [Bool.true_or, true_or]
theorem bti_0 {r : Nat} : (0 : Int32).toBitVec.getLsbD r = false := by
  show (0#32).getLsbD r = false
  simp
/-- what is written in the table of one duty -/
def bitsOK (t : Tbl) (σ : Mem) (i : Nat) (D : Duty) (m : Nat) : Prop := ∀ s, s < m → ((rd σ 32 0 (128 * i + s / 32) >>> (nI (s % 32) &&& 31)) &&& 1 = 1 ↔ kpV t D (nI s) = 0)
def CK (t : Tbl) (σ : Mem) (i : Nat) (D : Duty) : Prop := rd σ 31 0 i = 0 ∨ (rd σ 31 0 i = 1 ∧ bitsOK t σ i D 4096)
/-- the reference holds these duties -/
def MD (σ : Mem) (Ds : List Duty) : Prop := MI σ ∧ Ds.length ≤ 16 ∧ rd σ 11 0 12 = nI Ds.length ∧ ∃ T, T ≤ 256 ∧ ∀ (i : Nat) (D : Duty), Ds[i]? = some D → MR σ 21 22 23 19 20 T i D ∧ vD (tM σ) (nM σ) D ∧ CK (tM σ) σ i D
def S_isBad : SpecT := fun av σ Φ => match av with
  | [Sum.inr (Sum.inr (Sum.inr q)), Sum.inl i0, Sum.inl s0] => thisM q 11 (∃ i D s t, i0 = nI i ∧ s0 = nI s ∧ i < 16 ∧ s < 4096 ∧ bitsOK t σ i D 4096 ∧ Φ (some (aI (if kpV t D (nI s) = 0 then 1 else 0))) σ)
  | _ => False
set_option maxRecDepth 100000 in
theorem c_isBad (l : Launch) : Con l yX5_isBad cX5_isBad 3 (some .boolean) 3 0 S_isBad := by
  refine Con.of (by decide) (by decide) ?_
  intro p e s s0 a0 m args below meth c D ad cA A av σ Φ hlen hS hr X
  match av, hS with
  | [Sum.inr (Sum.inr (Sum.inr q)), Sum.inl i0, Sum.inl s0], hS =>
    obtain ⟨rfl, hS⟩ := thisM_out hS
    refine wp_sound (ps := []) (C := fun _ _ _ _ => False) (tk_X5_isBad X hr) (fun _ _ _ _ h => h.elim) 400 _ _ _ _ ?_
    obtain ⟨i, D, s, t, rfl, rfl, hi, hs, hb, hS⟩ := hS
    have e1 : 128 * nI i + nI s / 32 = nI (128 * i + s / 32) := by rw [show (128 : Int32) = nI 128 from rfl, show (32 : Int32) = nI 32 from rfl, pk_mul, pk_div (by omega) (by decide) (by decide), nI_add]
    have e2 : nI s - nI s / 32 * 32 = nI (s % 32) := by rw [show (32 : Int32) = nI 32 from rfl]; exact pk_rem (by omega) (by decide) (by decide)
    have hv : vp_in (128 * nI i + nI s / 32) 2048 := by rw [e1]; exact vp_in_nI (by omega) (by decide)
    have e3 : ix (128 * nI i + nI s / 32) = 128 * i + s / 32 := by rw [e1]; exact nI_clamp (by omega)
    have key : ((rd σ 32 0 (ix (128 * nI i + nI s / 32)) >>> ((nI s - nI s / 32 * 32) &&& 31)) &&& 1 = 1) ↔ kpV t D (nI s) = 0 := by rw [e3, e2]; exact hb s hs
    refine And.intro (show ¬ (32 : Int32) = 0 by decide) (And.intro hv (And.intro (show ¬ (32 : Int32) = 0 by decide) ?_))
    refine And.intro (fun (h : ¬ (rd σ 32 0 (ix (128 * nI i + nI s / 32)) >>> ((nI s - nI s / 32 * 32) &&& 31)) &&& 1 = 1) => ?_) (fun (h : (rd σ 32 0 (ix (128 * nI i + nI s / 32)) >>> ((nI s - nI s / 32 * 32) &&& 31)) &&& 1 = 1) => ?_)
    · rw [if_neg (fun z => h (key.mpr z))] at hS
      exact And.intro (Or.inl rfl) hS
    · rw [if_pos (key.mp h)] at hS
      exact And.intro (Or.inr rfl) hS
abbrev GQ : List Nat := [18, 31, 32, 33]
/-- while the table of duty i is made -/
def LK (t : Tbl) (i : Nat) (D : Duty) (σ σ' : Mem) (m : Nat) : Prop := eqx GQ σ σ' ∧ rd σ' 31 0 i = 1 ∧ (∀ k, ¬ k = i → rd σ' 31 0 k = rd σ 31 0 k) ∧ (∀ k, k < 128 * i ∨ 128 * i + 128 ≤ k → rd σ' 32 0 k = rd σ 32 0 k) ∧ bitsOK t σ' i D m
def PB (t : Tbl) (D : Duty) (w j : Nat) (x : Int32) : Prop := ∀ r, r < 32 → (x.toBitVec.getLsbD r = true ↔ (r < j ∧ kpV t D (nI (32 * w + r)) = 0))
theorem MR_eqx {gs : List Nat} {σ σ' : Mem} {T i : Nat} {D : Duty} (h : eqx gs σ σ') (hg : ∀ g ∈ gs, g < 19 ∨ 23 < g) (hM : MR σ 21 22 23 19 20 T i D) : MR σ' 21 22 23 19 20 T i D := by
  have z : ∀ g, 19 ≤ g → g ≤ 23 → ∀ k, rd σ' g 0 k = rd σ g 0 k := fun g h1 h2 k => h.1 g 0 k (fun q => by have := hg g q; omega)
  obtain ⟨b1, b2, τ, b3, b4, b5⟩ := hM
  exact ⟨(z 21 (by decide) (by decide) i).trans b1, (z 22 (by decide) (by decide) i).trans b2, τ, b3, (z 23 (by decide) (by decide) i).trans b4, TG_eq (fun k _ => ⟨z 19 (by decide) (by decide) k, z 20 (by decide) (by decide) k⟩) b3 b5⟩
theorem MD_LK {σ σ' : Mem} {Ds : List Duty} {i : Nat} {D : Duty} (hM : MD σ Ds) (hD : Ds[i]? = some D) (h : LK (tM σ) i D σ σ' 4096) : MD σ' Ds ∧ tM σ' = tM σ := by
  obtain ⟨h1, h2, h3, T, hT, h4⟩ := hM
  obtain ⟨he, l1, l2, l3, l4⟩ := h
  obtain ⟨hM1, ht1, hn1⟩ := MI_eqx he (by decide) h1
  refine ⟨⟨hM1, h2, (he.1 11 0 12 (by decide)).trans h3, T, hT, fun k E hk => ?_⟩, ht1⟩
  obtain ⟨q1, q2, q3⟩ := h4 k E hk
  refine ⟨MR_eqx he (by decide) q1, by rw [ht1, hn1]; exact q2, ?_⟩
  rw [ht1]
  by_cases hki : k = i
  · subst hki
    rw [hD] at hk
    cases hk
    exact Or.inr ⟨l1, l4⟩
  · rcases q3 with z | ⟨z, zb⟩
    · exact Or.inl ((l2 k hki).trans z)
    · refine Or.inr ⟨(l2 k hki).trans z, fun s hs => ?_⟩
      rw [l3 _ (by rcases Nat.lt_or_gt_of_ne hki with q | q <;> omega)]
      exact zb s hs
def S_look : SpecT := fun av σ Φ => match av with
  | [Sum.inr (Sum.inr (Sum.inr q)), Sum.inl i0] => thisM q 11 (∃ Ds i D, MD σ Ds ∧ Ds[i]? = some D ∧ i0 = nI i ∧ ∀ σ', eqx GQ σ σ' → MD σ' Ds → bitsOK (tM σ) σ' i D 4096 → Φ none σ')
  | _ => False
set_option maxRecDepth 100000 in
theorem c_look (l : Launch) : Con l yX5_look cX5_look 5 none 2 7 S_look := by
  refine Con.of (by decide) (by decide) ?_
  intro p e s s0 a0 m args below meth c D ad cA A av σ Φ hlen hS hr X
  match av, hS with
  | [Sum.inr (Sum.inr (Sum.inr q)), Sum.inl i0], hS =>
    obtain ⟨rfl, hS⟩ := thisM_out hS
    obtain ⟨Ds, i, D, hMD, hD, rfl, hS9⟩ := hS
    obtain ⟨hM, h16, h12, T, hT, h4⟩ := id hMD
    obtain ⟨q1, q2, q3⟩ := h4 i D hD
    have hi : i < Ds.length := (List.getElem?_eq_some_iff.mp hD).1
    have hcl : ix (nI i) = i := nI_clamp (by omega)
    have v16 : vp_in (nI i) 16 := vp_in_nI (by omega) (by decide)
    have rl0 : rd σ 31 0 (ix (nI i)) = rd σ 31 0 i := by rw [hcl]
    obtain ⟨t, ht⟩ : ∃ t, t = tM σ := ⟨_, rfl⟩
    rw [← ht] at hS9
    refine wp_meth (β := Nat ⊕ (Nat × Nat × Int32)) (ps := [19, 31]) (N := 100) (N0 := 100) (fun b => match b with | .inl _ => 19 | .inr _ => 31) (fun b => match b with | .inl w => [some (aR 11 0), some (aI (nI i)), some (aI (nI w)), none, none] | .inr (w, j, x) => [some (aR 11 0), some (aI (nI i)), some (aI (nI w)), some (aI x), some (aI (nI j))]) (fun b σ' => match b with | .inl w => w ≤ 128 ∧ LK t i D σ σ' (32 * w) | .inr (w, j, x) => w < 128 ∧ j ≤ 32 ∧ PB t D w j x ∧ LK t i D σ σ' (32 * w)) (fun b _ => match b with | .inl w => (128 - w) * 100 + 50 | .inr (w, j, _) => (128 - w) * 100 + 49 - j) (tk_X5_look X hr (c_keeps l) (by omega)) ?_ ?_
    rotate_left
    · refine And.intro v16 ?_
      refine And.intro (fun (h : rd σ 31 0 (ix (nI i)) = 0) => ?_) (fun (h : ¬ rd σ 31 0 (ix (nI i)) = 0) => ?_)
      · refine And.intro v16 (And.intro (Or.inr rfl) ?_)
        refine ⟨.inl 0, rfl, ⟨rfl, rfl, rfl, trivial⟩, rfl, ⟨Nat.zero_le _, (eqx.refl _ _).wr (by decide), ?_, fun k hk => ?_, fun k hk => ?_, fun s hs => absurd hs (by omega)⟩, trivial⟩
        · show rd (wr σ 31 0 (ix (nI i)) 1) 31 0 i = 1
          rw [hcl, rd_wr, if_pos ⟨rfl, rfl, rfl⟩]
        · show rd (wr σ 31 0 (ix (nI i)) 1) 31 0 k = _
          rw [hcl, rd_wr, if_neg (fun z => hk z.2.2)]
        · show rd (wr σ 31 0 (ix (nI i)) 1) 32 0 k = _
          rw [rd_wr, if_neg (fun z => absurd z.1 (by decide))]
      · rw [rl0] at h
        rcases q3 with z | ⟨z, zb⟩
        · exact absurd z h
        · exact hS9 σ (eqx.refl _ _) hMD (by rw [ht]; exact zb)
    intro b σ' hI
    match b, hI with
    | .inl w, hI =>
      obtain ⟨hw, hL⟩ := hI
      refine And.intro (fun (h : 128 ≤ nI w) => ?_) (fun (h : ¬ 128 ≤ nI w) => ?_)
      · rw [show (128 : Int32) = nI 128 from rfl, nI_leI (by decide) (by omega)] at h
        have : w = 128 := by omega
        subst this
        have hL : LK t i D σ σ' 4096 := hL
        exact hS9 σ' hL.1 (MD_LK hMD hD (by rw [← ht]; exact hL)).1 hL.2.2.2.2
      · rw [show (128 : Int32) = nI 128 from rfl, nI_leI (by decide) (by omega)] at h
        exact ⟨.inr (w, 0, 0), rfl, ⟨rfl, rfl, rfl, rfl, rfl, trivial⟩, rfl, ⟨by omega, Nat.zero_le _, fun r _ => ⟨fun z => by rw [bti_0] at z; exact absurd z (by decide), fun z => absurd z.1 (Nat.not_lt_zero _)⟩, hL⟩, by show (128 - w) * 100 + 49 - 0 < (128 - w) * 100 + 50; omega⟩
    | .inr (w, j, x), hI =>
      obtain ⟨hw, hj, hP, hL⟩ := hI
      obtain ⟨he, l1, l2, l3, l4⟩ := id hL
      refine And.intro (fun (h : 32 ≤ nI j) => ?_) (fun (h : ¬ 32 ≤ nI j) => ?_)
      · rw [show (32 : Int32) = nI 32 from rfl, nI_leI (by decide) (by omega)] at h
        have : j = 32 := by omega
        subst this
        have e1 : 128 * nI i + nI w = nI (128 * i + w) := by rw [show (128 : Int32) = nI 128 from rfl, pk_mul, nI_add]
        have e3 : ix (128 * nI i + nI w) = 128 * i + w := by rw [e1]; exact nI_clamp (by omega)
        refine And.intro (by show vp_in (128 * nI i + nI w) 2048; rw [e1]; exact vp_in_nI (by omega) (by decide)) ?_
        refine ⟨.inl (w + 1), rfl, ⟨rfl, rfl, by show some (some (aI (nI w + 1))) = some (some (aI (nI (w + 1)))); rw [nI_1], trivial⟩, rfl, ⟨by omega, he.wr (by decide), l1, l2, fun k hk => ?_, fun s hs => ?_⟩, ?_⟩
        · show rd (wr σ' 32 0 (ix (128 * nI i + nI w)) x) 32 0 k = _
          rw [e3, rd_wr, if_neg (fun z => by omega)]
          exact l3 k hk
        · show ((rd (wr σ' 32 0 (ix (128 * nI i + nI w)) x) 32 0 (128 * i + s / 32) >>> (nI (s % 32) &&& 31)) &&& 1 = 1 ↔ kpV t D (nI s) = 0)
          rw [e3, rd_wr]
          by_cases hsw : s / 32 = w
          · rw [if_pos ⟨rfl, rfl, by rw [hsw]⟩, bti_iff _ (by omega), hP _ (by omega), show 32 * w + s % 32 = s by omega]
            exact ⟨fun z => z.2, fun z => ⟨by omega, z⟩⟩
          · rw [if_neg (fun z => by omega)]
            exact l4 s (by omega)
        · show (128 - (w + 1)) * 100 + 50 < (128 - w) * 100 + 49 - 32
          omega
      · rw [show (32 : Int32) = nI 32 from rfl, nI_leI (by decide) (by omega)] at h
        obtain ⟨hM1, ht1, hn1⟩ := MI_eqx he (by decide) hM
        rw [← ht] at ht1
        have e1 : 32 * nI w + nI j = nI (32 * w + j) := by rw [show (32 : Int32) = nI 32 from rfl, pk_mul, nI_add]
        have hrs : rng (32 * nI w + nI j) := by rw [e1]; exact rng_nn (by omega)
        refine And.intro hM1 (And.intro hrs ⟨i, D, T, rfl, by omega, hT, MR_eqx he (by decide) q1, by rw [ht1, hn1, ht]; exact q2, fun σ2 he2 => ?_⟩)
        have hL2 : LK t i D σ σ2 (32 * w) := ⟨he.trans (he2.mono (by decide)), (he2.1 31 0 i (by decide)).trans l1, fun k hk => (he2.1 31 0 k (by decide)).trans (l2 k hk), fun k hk => (he2.1 32 0 k (by decide)).trans (l3 k hk), fun s hs => by rw [he2.1 32 0 _ (by decide)]; exact l4 s hs⟩
        have k9 : kpV (tM σ') D (32 * nI w + nI j) = kpV t D (nI (32 * w + j)) := by rw [ht1, e1]
        refine And.intro (fun (h9 : kpV (tM σ') D (32 * nI w + nI j) = 0) => ?_) (fun (h9 : ¬ kpV (tM σ') D (32 * nI w + nI j) = 0) => ?_)
        · rw [k9] at h9
          refine ⟨.inr (w, j + 1, x ||| ((1 : Int32) <<< (nI j &&& 31))), rfl, ⟨rfl, rfl, rfl, rfl, by show some (some (aI (nI j + 1))) = some (some (aI (nI (j + 1)))); rw [nI_1], trivial⟩, rfl, ⟨hw, by omega, fun r hr => ?_, hL2⟩, by show (128 - w) * 100 + 49 - (j + 1) < (128 - w) * 100 + 49 - j; omega⟩
          rw [bti_set x (by omega) hr, hP r hr]
          constructor
          · rintro (⟨z1, z2⟩ | z)
            · exact ⟨by omega, z2⟩
            · subst z; exact ⟨by omega, h9⟩
          · rintro ⟨z1, z2⟩
            by_cases hrj : r = j
            · exact Or.inr hrj
            · exact Or.inl ⟨by omega, z2⟩
        · rw [k9] at h9
          refine ⟨.inr (w, j + 1, x), rfl, ⟨rfl, rfl, rfl, rfl, by show some (some (aI (nI j + 1))) = some (some (aI (nI (j + 1)))); rw [nI_1], trivial⟩, rfl, ⟨hw, by omega, fun r hr => ?_, hL2⟩, by show (128 - w) * 100 + 49 - (j + 1) < (128 - w) * 100 + 49 - j; omega⟩
          rw [hP r hr]
          constructor
          · rintro ⟨z1, z2⟩; exact ⟨by omega, z2⟩
          · rintro ⟨z1, z2⟩
            refine ⟨?_, z2⟩
            by_cases hrj : r = j
            · subst hrj; exact absurd z2 h9
            · omega
