/-! THE MACHINE OF RUN: a stack of commands and of loops to be looked at again (100 + the loop) -/
def rng (s : Int32) : Prop := 0 ≤ s ∧ s ≤ 4095
theorem bv_rng {x : Int32} (h : x.toBitVec.toNat < 4096) : rng x := by
  have e : x.toInt = (x.toBitVec.toNat : Int) := by
    show x.toBitVec.toInt = _
    rw [BitVec.toInt_eq_toNat_of_lt (by omega)]
  have e0 : (0 : Int32).toInt = 0 := by decide
  have e1 : (4095 : Int32).toInt = 4095 := by decide
  exact ⟨Int32.le_iff_toInt_le.mpr (by rw [e, e0]; omega), Int32.le_iff_toInt_le.mpr (by rw [e, e1]; omega)⟩
theorem rng_nI {s : Int32} (h : rng s) : ∃ n, n < 4096 ∧ s = nI n := by
  have e0 : (0 : Int32).toInt = 0 := by decide
  have e1 : (4095 : Int32).toInt = 4095 := by decide
  have h0 := Int32.le_iff_toInt_le.mp h.1
  have h1 := Int32.le_iff_toInt_le.mp h.2
  obtain ⟨j, hj, e⟩ := vp_in_of (x := s) (n := 4096) (vp_in_iff.mpr ⟨by omega, by omega⟩) (by decide)
  exact ⟨j, hj, e⟩
theorem rng_nn {n : Nat} (h : n < 4096) : rng (nI n) := bv_rng (by rw [pk_tn (by omega)]; exact h)
theorem chg_rng {s a v : Int32} (hs : rng s) (h0 : 0 ≤ a) (h2 : a ≤ 2) : rng (chg s a v) := by
  obtain ⟨n, hn, rfl⟩ := rng_nI hs
  obtain ⟨j, hj, ej⟩ := pk_andE v (m := 15) 4 (by decide)
  have key : ∀ (M w : Int32), w.toBitVec.toNat < 4096 → ((nI n &&& M) ||| w).toBitVec.toNat < 4096 := by
    intro M w hw
    rw [Int32.toBitVec_or, BitVec.toNat_or, Int32.toBitVec_and, BitVec.toNat_and, pk_tn (by omega)]
    exact Nat.or_lt_two_pow (n := 12) (Nat.lt_of_le_of_lt Nat.and_le_left hn) hw
  refine bv_rng (key _ _ ?_)
  rw [ej]
  have hz : a = 0 ∨ a = 1 ∨ a = 2 := by
    rcases i32_cases h0 (Int32.le_trans h2 (by decide)) with e | e | e | e | e | e | e | e | e | e | e | e | e | e | e | e
    · exact Or.inl e
    · exact Or.inr (Or.inl e)
    · exact Or.inr (Or.inr e)
    all_goals (rw [e] at h2; exact absurd h2 (by decide))
  rcases hz with rfl | rfl | rfl
  · rw [pk_shlN (4 * 0 &&& 31) 0 (by decide) (by omega), pk_tn (by omega)]; omega
  · rw [pk_shlN (4 * 1 &&& 31) 4 (by decide) (by omega), pk_tn (by omega)]; omega
  · rw [pk_shlN (4 * 2 &&& 31) 8 (by decide) (by omega), pk_tn (by omega)]; omega
def m100 (x : Int32) : Int32 := x - x / 100 * 100
def rmS (t : Tbl) : Nat → List Int32 → Int32 → Nat → Option (Option Int32)
  | 0, _, _, _ => none
  | _ + 1, [], s, _ => some (some s)
  | n + 1, x :: K, s, L =>
    if x < 100 ∧ L = 0 then some none
    else if t 0 (ix (m100 x)) = 12 then rmS t n K (chg s (t 1 (ix (m100 x))) (EV t s (ix (t 2 (ix (m100 x)))))) (if x < 100 then L - 1 else L)
    else if t 0 (ix (m100 x)) = 13 then rmS t n (t 1 (ix (m100 x)) :: t 2 (ix (m100 x)) :: K) s (if x < 100 then L - 1 else L)
    else if t 0 (ix (m100 x)) = 14 then rmS t n ((if EV t s (ix (t 1 (ix (m100 x)))) = 0 then t 3 (ix (m100 x)) else t 2 (ix (m100 x))) :: K) s (if x < 100 then L - 1 else L)
    else if t 0 (ix (m100 x)) = 15 ∧ ¬ EV t s (ix (t 1 (ix (m100 x)))) = 0 then rmS t n (t 3 (ix (m100 x)) :: (100 + m100 x) :: K) s (if x < 100 then L - 1 else L)
    else rmS t n K s (if x < 100 then L - 1 else L)
theorem m100_lo {n : Nat} (h : n < 60) : m100 (nI n) = nI n ∧ nI n < 100 := by
  refine ⟨?_, ?_⟩
  · show nI n - nI n / nI 100 * nI 100 = nI n
    rw [pk_rem (by omega) (by decide) (by decide), Nat.mod_eq_of_lt (by omega)]
  · show nI n < nI 100
    rw [nI_ltI (by omega) (by decide)]; omega
theorem m100_hi {n : Nat} (h : n < 60) : m100 (100 + nI n) = nI n ∧ ¬ 100 + nI n < 100 := by
  have e : (100 : Int32) + nI n = nI (100 + n) := nI_add 100 n
  rw [e]
  refine ⟨?_, ?_⟩
  · show nI (100 + n) - nI (100 + n) / nI 100 * nI 100 = nI n
    rw [pk_rem (by omega) (by decide) (by decide), Nat.add_mod_left, Nat.mod_eq_of_lt (by omega)]
  · show ¬ nI (100 + n) < nI 100
    rw [nI_ltI (by omega) (by decide)]; omega
theorem vp_nI {x : Int32} {n : Nat} (h : vp_in x n) (hn : n ≤ 4096) : x = nI (ix x) := by
  obtain ⟨j, hj, e⟩ := vp_in_of h (by omega)
  rw [e, ix, nI_clamp (by omega)]
theorem m100_n {x : Int32} (h : vp_in x 60) : m100 x = x ∧ x < 100 := by
  have hx := vp_nI h (by decide)
  rw [hx]; exact m100_lo (vp_lt h)
theorem m100_r {x : Int32} (h : vp_in x 60) : m100 (100 + x) = x ∧ ¬ 100 + x < 100 := by
  have hx := vp_nI h (by decide)
  rw [hx]; exact m100_hi (vp_lt h)
section RM
variable {t : Tbl} {x s : Int32} {K : List Int32} {n L : Nat}
theorem rm_out (h : vp_in x 60) : rmS t (n + 1) (x :: K) s 0 = some none := by
  simp only [rmS]; rw [if_pos ⟨(m100_n h).2, trivial⟩]
theorem rm_12 (h : vp_in x 60) (e : t 0 (ix x) = 12) : rmS t (n + 1) (x :: K) s (L + 1) = rmS t n K (chg s (t 1 (ix x)) (EV t s (ix (t 2 (ix x))))) L := by
  simp only [rmS, (m100_n h).1]; rw [if_neg (fun z => by omega), if_pos e, if_pos (m100_n h).2]; rfl
theorem rm_13 (h : vp_in x 60) (e : t 0 (ix x) = 13) : rmS t (n + 1) (x :: K) s (L + 1) = rmS t n (t 1 (ix x) :: t 2 (ix x) :: K) s L := by
  simp only [rmS, (m100_n h).1]; rw [if_neg (fun z => by omega), if_neg (by rw [e]; decide), if_pos e, if_pos (m100_n h).2]; rfl
theorem rm_14 (h : vp_in x 60) (e : t 0 (ix x) = 14) : rmS t (n + 1) (x :: K) s (L + 1) = rmS t n ((if EV t s (ix (t 1 (ix x))) = 0 then t 3 (ix x) else t 2 (ix x)) :: K) s L := by
  simp only [rmS, (m100_n h).1]; rw [if_neg (fun z => by omega), if_neg (by rw [e]; decide), if_neg (by rw [e]; decide), if_pos e, if_pos (m100_n h).2]; rfl
theorem rm_11 (h : vp_in x 60) (e : t 0 (ix x) = 11) : rmS t (n + 1) (x :: K) s (L + 1) = rmS t n K s L := by
  simp only [rmS, (m100_n h).1]; rw [if_neg (fun z => by omega), if_neg (by rw [e]; decide), if_neg (by rw [e]; decide), if_neg (by rw [e]; decide), if_neg (fun z => absurd z.1 (by rw [e]; decide)), if_pos (m100_n h).2]; rfl
theorem rm_15f (h : vp_in x 60) (e : t 0 (ix x) = 15) (hc : EV t s (ix (t 1 (ix x))) = 0) : rmS t (n + 1) ((100 + x) :: K) s L = rmS t n K s L := by
  simp only [rmS, (m100_r h).1]; rw [if_neg (fun z => (m100_r h).2 z.1), if_neg (by rw [e]; decide), if_neg (by rw [e]; decide), if_neg (by rw [e]; decide), if_neg (fun z => z.2 hc), if_neg (m100_r h).2]
theorem rm_15t (h : vp_in x 60) (e : t 0 (ix x) = 15) (hc : ¬ EV t s (ix (t 1 (ix x))) = 0) : rmS t (n + 1) ((100 + x) :: K) s L = rmS t n (t 3 (ix x) :: (100 + x) :: K) s L := by
  simp only [rmS, (m100_r h).1]; rw [if_neg (fun z => (m100_r h).2 z.1), if_neg (by rw [e]; decide), if_neg (by rw [e]; decide), if_neg (by rw [e]; decide), if_pos ⟨e, hc⟩, if_neg (m100_r h).2]
theorem rm_15b (h : vp_in x 60) (e : t 0 (ix x) = 15) : rmS t (n + 1) (x :: K) s (L + 1) = rmS t (n + 1) ((100 + x) :: K) s L := by
  by_cases hc : EV t s (ix (t 1 (ix x))) = 0
  · rw [rm_15f h e hc]
    simp only [rmS, (m100_n h).1]; rw [if_neg (fun z => by omega), if_neg (by rw [e]; decide), if_neg (by rw [e]; decide), if_neg (by rw [e]; decide), if_neg (fun z => z.2 hc), if_pos (m100_n h).2]; rfl
  · rw [rm_15t h e hc]
    simp only [rmS, (m100_n h).1]; rw [if_neg (fun z => by omega), if_neg (by rw [e]; decide), if_neg (by rw [e]; decide), if_neg (by rw [e]; decide), if_pos ⟨e, hc⟩, if_pos (m100_n h).2]; rfl
end RM
/-- what comes of item x: it ends (1) in s', L', or the fuel is gone (0) -/
def RO (t : Tbl) (x s : Int32) (L : Nat) (r s' : Int32) (L' : Nat) : Prop :=
  (r = 1 ∧ L' ≤ L ∧ ∃ m, 0 < m ∧ ∀ K n, rmS t (n + m) (x :: K) s L = rmS t n K s' L') ∨ (r = 0 ∧ ∃ m, ∀ K n, rmS t (n + m) (x :: K) s L = some none)
/-- the runner's store and fuel -/
def RS (σ : Mem) (L : Nat) : Prop := rng (rd σ 7 0 1) ∧ rd σ 7 0 2 = nI L ∧ L ≤ 500
theorem CI_eqx {gs : List Nat} {σ σ' : Mem} (h : eqx gs σ σ') (hg : ∀ g ∈ gs, g = 0 ∨ 6 < g) (hC : CI σ) : CI σ' ∧ tC σ' = tC σ ∧ nC σ' = nC σ := by
  have ht : tC σ' = tC σ := tC_eqx h (fun g hg' => by have := hg g hg'; omega)
  have e : rd σ' 1 0 5 = rd σ 1 0 5 := h.1 1 0 5 (fun z => by have := hg 1 z; omega)
  have hn : nC σ' = nC σ := by unfold nC; rw [e]
  refine ⟨⟨⟨by rw [e, hn]; exact hC.1.1, by rw [hn]; exact hC.1.2⟩, by rw [ht, hn]; exact hC.2⟩, ht, hn⟩
def S_ends (d : Nat) : SpecT := fun av σ Φ => match av with
  | [Sum.inr (Sum.inr (Sum.inr q)), Sum.inl x] => thisM q 7 (∃ L, CI σ ∧ isN (tC σ) (nC σ) 11 15 x ∧ hN (tC σ) (ix x) ≤ d ∧ RS σ L ∧ ∀ r σ' L', eqx [7] σ σ' → RS σ' L' → (r = 1 → L' < L) → RO (tC σ) x (rd σ 7 0 1) L r (rd σ' 7 0 1) L' → Φ (some (aI r)) σ')
  | _ => False
def S_loopEnds (d : Nat) : SpecT := fun av σ Φ => match av with
  | [Sum.inr (Sum.inr (Sum.inr q)), Sum.inl a, Sum.inl b] => thisM q 7 (∃ x L, CI σ ∧ isN (tC σ) (nC σ) 15 15 x ∧ a = tC σ 1 (ix x) ∧ b = tC σ 3 (ix x) ∧ hN (tC σ) (ix x) ≤ d ∧ RS σ L ∧ ∀ r σ' L', eqx [7] σ σ' → RS σ' L' → RO (tC σ) (100 + x) (rd σ 7 0 1) L r (rd σ' 7 0 1) L' → (r = 0 ∨ r = 1) → Φ (some (aI r)) σ')
  | _ => False
set_option maxRecDepth 100000 in
theorem c_loopEnds_s (l : Launch) (d : Nat) (ih : Con l yX3_ends cX3_ends 4 (some .boolean) 2 (20 + 2 * d) (S_ends d)) : Con l yX3_loopEnds cX3_loopEnds 4 (some .boolean) 3 (20 + 2 * d + 1) (S_loopEnds (d + 1)) := by
  refine Con.of (by decide) (by decide) ?_
  intro p e s s0 a0 m args below meth c D ad cA A av σ Φ hlen hS hr X
  match av, hS with
  | [Sum.inr (Sum.inr (Sum.inr q)), Sum.inl a, Sum.inl b], hS =>
    obtain ⟨rfl, hS⟩ := thisM_out hS
    obtain ⟨x, L, hC, hx, rfl, rfl, hd, hR, hS⟩ := hS
    have hlt := vp_lt hx.1
    have hv := vp_mono hx.1 hC.1.2
    have e15 : tC σ 0 (ix x) = 15 := Int32.le_antisymm hx.2.2 hx.2.1
    have hw := hC.2.2 _ hlt
    obtain ⟨ca, -, cc3⟩ := hw.2.2.2.2.2.2.2.2.2.2 e15
    have h6 := hw.2.1.2
    refine wp_meth (β := Nat × Nat) (ps := [2]) (N := 60) (N0 := 20) (fun _ => 2) (fun b => [some (aR 7 0), some (aI (tC σ 1 (ix x))), some (aI (tC σ 3 (ix x))), some (aI (nI b.1))]) (fun b σ' => b.2 + b.1 ≤ L ∧ eqx [7] σ σ' ∧ RS σ' b.2 ∧ ∃ m, ∀ K n, rmS (tC σ) (n + m) ((100 + x) :: K) (rd σ 7 0 1) L = rmS (tC σ) n ((100 + x) :: K) (rd σ' 7 0 1) b.2) (fun b _ => 600 - b.1) (tk_X3_loopEnds X hr (c_isTrueIn l 6) (by omega) (ih) (by omega)) ?_ ?_
    · rintro ⟨j, L1⟩ σ' ⟨hL, he, hR1, mm, hm⟩
      dsimp only at hL hR1 hm ⊢
      obtain ⟨hC1, ht, hn⟩ := CI_eqx he (by decide) hC
      have hL5 := hR.2.2
      refine And.intro (fun (h1 : 500 < nI j) => absurd h1 (by rw [show (500 : Int32) = nI 500 from rfl, nI_ltI (by decide) (by omega)]; omega)) (fun _ => ?_)
      refine And.intro hC1 (And.intro (by rw [ht, hn]; exact ca.isN (by omega)) (And.intro (by rw [ht]; have := ca.2.2.2; omega) ?_))
      refine And.intro (fun (h2 : ¬ EV (tC σ') (rd σ' 7 0 1) (ix (tC σ 1 (ix x))) = 0) => ?_) (fun (h2 : EV (tC σ') (rd σ' 7 0 1) (ix (tC σ 1 (ix x))) = 0) => ?_)
      · rw [ht] at h2
        refine ⟨L1, hC1, by rw [ht, hn]; exact cc3.isN (by omega), by rw [ht]; have := cc3.2.2.2; omega, hR1, fun r σ2 L2 he2 hR2 hlt2 hO => ?_⟩
        rw [ht] at hO
        refine And.intro (fun (h3 : ¬ r = 0) => ?_) (fun (h3 : r = 0) => ?_)
        · rcases hO with ⟨hr1, hL2, m2, hp2, hm2⟩ | ⟨hr0, -⟩
          · have hlt3 := hlt2 hr1
            refine ⟨(j + 1, L2), rfl, ⟨rfl, rfl, rfl, by rw [nI_succ]; rfl, trivial⟩, rfl, ⟨by dsimp only; omega, he.trans he2, hR2, (m2 + 1) + mm, fun K n => ?_⟩, by show 600 - (j + 1) < 600 - j; omega⟩
            rw [← Nat.add_assoc, hm, ← Nat.add_assoc, rm_15t hv e15 h2, hm2]
          · exact absurd hr0 h3
        · subst h3
          refine And.intro (Or.inl rfl) (hS 0 σ2 L2 (he.trans he2) hR2 (Or.inr ⟨rfl, ?_⟩) (Or.inl rfl))
          rcases hO with ⟨hr1, -⟩ | ⟨-, m2, hm2⟩
          · exact absurd hr1 (by decide)
          · refine ⟨(m2 + 1) + mm, fun K n => ?_⟩
            rw [← Nat.add_assoc, hm, ← Nat.add_assoc, rm_15t hv e15 h2, hm2]
      · rw [ht] at h2
        refine And.intro (Or.inr rfl) (hS 1 σ' L1 he hR1 (Or.inl ⟨rfl, by omega, 1 + mm, by omega, fun K n => ?_⟩) (Or.inr rfl))
        rw [← Nat.add_assoc, hm, rm_15f hv e15 h2]
    · exact ⟨(0, L), rfl, ⟨rfl, rfl, rfl, rfl, trivial⟩, rfl, ⟨by dsimp only; omega, eqx.refl _ _, hR, 0, fun K n => rfl⟩, trivial⟩
set_option maxRecDepth 100000 in
theorem c_ends_s (l : Launch) (d : Nat) (ih : Con l yX3_ends cX3_ends 4 (some .boolean) 2 (20 + 2 * d) (S_ends d)) : Con l yX3_ends cX3_ends 4 (some .boolean) 2 (20 + 2 * (d + 1)) (S_ends (d + 1)) := by
  refine Con.of (by decide) (by decide) ?_
  intro p e s s0 a0 m args below meth c D ad cA A av σ Φ hlen hS hr X
  match av, hS with
  | [Sum.inr (Sum.inr (Sum.inr q)), Sum.inl x], hS =>
    obtain ⟨rfl, hS⟩ := thisM_out hS
    refine wp_sound (ps := []) (C := fun _ _ _ _ => False) (tk_X3_ends X hr (c_numberIn l 6) (by omega) (c_changedStore l) (by omega) (ih) (by omega) (c_isTrueIn l 6) (by omega) (c_loopEnds_s l d ih) (by omega)) (fun _ _ _ _ h => h.elim) 400 _ _ _ _ ?_
    obtain ⟨L, hC, hx, hd, hR, hS⟩ := hS
    have hlt := vp_lt hx.1
    have hv := vp_mono hx.1 hC.1.2
    have hw := hC.2.2 _ hlt
    have h6 := hw.2.1.2
    obtain ⟨hRr, hRL, hL5⟩ := hR
    have r01 : ∀ {r s' : Int32} {y s : Int32} {L1 L2 : Nat}, RO (tC σ) y s L1 r s' L2 → r = 0 ∨ r = 1 := fun h => h.elim (fun z => Or.inr z.1) (fun z => Or.inl z.1)
    refine And.intro (fun (h0 : ¬ rd σ 7 0 2 = 0) => ?_) (fun (h0 : rd σ 7 0 2 = 0) => ?_)
    rotate_left
    · have hL0 : L = 0 := by
        rw [hRL] at h0
        exact (nI_eq (by omega) (by decide)).mp h0
      subst hL0
      exact And.intro (Or.inl rfl) (hS 0 σ 0 (eqx.refl _ _) ⟨hRr, hRL, by omega⟩ (fun z => absurd z (by decide)) (Or.inr ⟨rfl, 1, fun K n => rm_out hv⟩))
    obtain ⟨L1, rfl⟩ : ∃ L1, L = L1 + 1 := by
      cases L with
      | zero => exact absurd (by rw [hRL]; rfl) h0
      | succ k => exact ⟨k, rfl⟩
    refine And.intro hv (And.intro hv (And.intro hv ?_))
    obtain ⟨σ1, e1⟩ : ∃ z, z = wr σ 7 0 2 (rd σ 7 0 2 - 1) := ⟨_, rfl⟩
    have he1 : eqx [7] σ σ1 := by rw [e1]; exact (eqx.refl _ _).wr (by decide)
    have hs1 : rd σ1 7 0 1 = rd σ 7 0 1 := by rw [e1]; rfl
    have hR1 : RS σ1 L1 := by
      refine ⟨by rw [hs1]; exact hRr, ?_, by omega⟩
      rw [e1]
      show rd σ 7 0 2 - 1 = nI L1
      rw [hRL, nI_pred]
    obtain ⟨hC1, ht1, hn1⟩ := CI_eqx he1 (by decide) hC
    obtain ⟨⟨hk0, hk15⟩, -, -, hB, -, h12, -, -, h13, h14, h15⟩ := hw
    rcases i32_cases hk0 hk15 with e | e | e | e | e | e | e | e | e | e | e | e | e | e | e | e
    all_goals (try (exact absurd hx.2.1 (by rw [e]; decide)))
    · -- nothing
      refine And.intro (fun _ => ?_) (fun (h : ¬ tC σ 0 (ix x) = 11) => absurd e h)
      rw [e1] at he1 hR1 hs1
      exact And.intro (Or.inr rfl) (hS 1 _ L1 he1 hR1 (fun _ => by omega) (Or.inl ⟨rfl, by omega, 1, by omega, fun K n => by rw [rm_11 hv e, hs1]⟩))
    · -- becomes
      refine And.intro (fun (h : tC σ 0 (ix x) = 11) => absurd (e.symm.trans h) (by decide)) (fun _ => ?_)
      refine And.intro (fun _ => ?_) (fun (h : ¬ tC σ 0 (ix x) = 12) => absurd e h)
      rw [e1] at hC1 ht1 hn1 he1 hs1 hR1
      have cb := hB (Or.inr (Or.inr e))
      have db : hN (tC σ) (ix (tC σ 2 (ix x))) ≤ 6 := by have := cb.2.2.2; omega
      refine And.intro hC1 (And.intro (by rw [ht1, hn1]; exact cb.isN (by omega)) (And.intro (by rw [ht1]; exact db) ?_))
      obtain ⟨a0, a2⟩ := h12 e
      have hrg : rng (chg (rd σ 7 0 1) (tC σ 1 (ix x)) (EV (tC σ) (rd σ 7 0 1) (ix (tC σ 2 (ix x))))) := chg_rng hRr a0 a2
      have := hS 1 (wr (wr σ 7 0 2 (rd σ 7 0 2 - 1)) 7 0 1 (chg (rd σ 7 0 1) (tC σ 1 (ix x)) (EV (tC σ) (rd σ 7 0 1) (ix (tC σ 2 (ix x)))))) L1 (he1.wr (by decide)) ⟨hrg, hR1.2.1, hR1.2.2⟩ (fun _ => by omega) (Or.inl ⟨rfl, by omega, 1, by omega, fun K n => by rw [rm_12 hv e]; rfl⟩)
      rw [← ht1] at this
      exact And.intro (Or.inr rfl) this
    · -- then
      refine And.intro (fun (h : tC σ 0 (ix x) = 11) => absurd (e.symm.trans h) (by decide)) (fun _ => ?_)
      refine And.intro (fun (h : tC σ 0 (ix x) = 12) => absurd (e.symm.trans h) (by decide)) (fun _ => ?_)
      refine And.intro (fun _ => ?_) (fun (h : ¬ tC σ 0 (ix x) = 13) => absurd e h)
      rw [e1] at hC1 ht1 hn1 he1 hs1 hR1
      obtain ⟨ca, cb⟩ := h13 e
      have da : hN (tC σ) (ix (tC σ 1 (ix x))) ≤ d := by have := ca.2.2.2; omega
      have db : hN (tC σ) (ix (tC σ 2 (ix x))) ≤ d := by have := cb.2.2.2; omega
      refine ⟨L1, hC1, by rw [ht1, hn1]; exact ca.isN (by omega), by rw [ht1]; exact da, hR1, fun r σ2 L2 he2 hR2 hlt2 hO => ?_⟩
      replace hO : RO (tC σ) (tC σ 1 (ix x)) (rd σ 7 0 1) L1 r (rd σ2 7 0 1) L2 := by rw [ht1, hs1] at hO; exact hO
      refine And.intro (fun (h3 : r = 0) => ?_) (fun (h3 : ¬ r = 0) => ?_)
      · subst h3
        rcases hO with ⟨hr1, -⟩ | ⟨-, m2, hm2⟩
        · exact absurd hr1 (by decide)
        · exact And.intro (Or.inl rfl) (hS 0 σ2 L2 (he1.trans he2) hR2 (fun z => absurd z (by decide)) (Or.inr ⟨rfl, m2 + 1, fun K n => by rw [← Nat.add_assoc, rm_13 hv e, hm2]⟩))
      · rcases hO with ⟨hr1, hL2, m2, hp2, hm2⟩ | ⟨hr0, -⟩
        rotate_left
        · exact absurd hr0 h3
        obtain ⟨hC2, ht2, hn2⟩ := CI_eqx (he1.trans he2) (by decide) hC
        refine ⟨L2, hC2, by rw [ht2, hn2]; exact cb.isN (by omega), by rw [ht2]; exact db, hR2, fun r3 σ3 L3 he3 hR3 hlt3 hO3 => ?_⟩
        replace hO3 : RO (tC σ) (tC σ 2 (ix x)) (rd σ2 7 0 1) L2 r3 (rd σ3 7 0 1) L3 := by rw [ht2] at hO3; exact hO3
        refine And.intro (fun (h4 : r3 = 0) => ?_) (fun (h4 : ¬ r3 = 0) => ?_)
        · subst h4
          rcases hO3 with ⟨hr1, -⟩ | ⟨-, m3, hm3⟩
          · exact absurd hr1 (by decide)
          · exact And.intro (Or.inl rfl) (hS 0 σ3 L3 ((he1.trans he2).trans he3) hR3 (fun z => absurd z (by decide)) (Or.inr ⟨rfl, m3 + m2 + 1, fun K n => by rw [← Nat.add_assoc, rm_13 hv e, ← Nat.add_assoc, hm2, hm3]⟩))
        · rcases hO3 with ⟨hr3, hL3, m3, hp3, hm3⟩ | ⟨hr0, -⟩
          rotate_left
          · exact absurd hr0 h4
          exact And.intro (Or.inr rfl) (hS 1 σ3 L3 ((he1.trans he2).trans he3) hR3 (fun _ => by omega) (Or.inl ⟨rfl, by omega, m3 + m2 + 1, by omega, fun K n => by rw [← Nat.add_assoc, rm_13 hv e, ← Nat.add_assoc, hm2, hm3]⟩))
    · -- if
      refine And.intro (fun (h : tC σ 0 (ix x) = 11) => absurd (e.symm.trans h) (by decide)) (fun _ => ?_)
      refine And.intro (fun (h : tC σ 0 (ix x) = 12) => absurd (e.symm.trans h) (by decide)) (fun _ => ?_)
      refine And.intro (fun (h : tC σ 0 (ix x) = 13) => absurd (e.symm.trans h) (by decide)) (fun _ => ?_)
      refine And.intro (fun _ => ?_) (fun (h : ¬ tC σ 0 (ix x) = 14) => absurd e h)
      rw [e1] at hC1 ht1 hn1 he1 hs1 hR1
      obtain ⟨ca, cb, cc3⟩ := h14 e
      have da : hN (tC σ) (ix (tC σ 1 (ix x))) ≤ 6 := by have := ca.2.2.2; omega
      have db : hN (tC σ) (ix (tC σ 2 (ix x))) ≤ d := by have := cb.2.2.2; omega
      have dc : hN (tC σ) (ix (tC σ 3 (ix x))) ≤ d := by have := cc3.2.2.2; omega
      refine And.intro hC1 (And.intro (by rw [ht1, hn1]; exact ca.isN (by omega)) (And.intro (by rw [ht1]; exact da) ?_))
      have hEV : ∀ z, EV (tC (wr σ 7 0 2 (rd σ 7 0 2 - 1))) (rd (wr σ 7 0 2 (rd σ 7 0 2 - 1)) 7 0 1) z = EV (tC σ) (rd σ 7 0 1) z := fun z => by rw [ht1, hs1]
      refine And.intro (fun h3 => ?_) (fun h3 => ?_)
      · replace h3 : EV (tC σ) (rd σ 7 0 1) (ix (tC σ 1 (ix x))) = 0 := (hEV _).symm.trans h3
        refine And.intro hv ?_
        refine ⟨L1, hC1, by rw [ht1, hn1]; exact cc3.isN (by omega), by rw [ht1]; exact dc, hR1, fun r σ2 L2 he2 hR2 hlt2 hO => ?_⟩
        replace hO : RO (tC σ) (tC σ 3 (ix x)) (rd σ 7 0 1) L1 r (rd σ2 7 0 1) L2 := by rw [ht1, hs1] at hO; exact hO
        refine And.intro (r01 hO) (hS r σ2 L2 (he1.trans he2) hR2 (fun z => by have := hlt2 z; omega) ?_)
        rcases hO with ⟨hr1, hL2, m2, hp2, hm2⟩ | ⟨hr0, m2, hm2⟩
        · exact Or.inl ⟨hr1, by omega, m2 + 1, by omega, fun K n => by rw [← Nat.add_assoc, rm_14 hv e, if_pos h3, hm2]⟩
        · exact Or.inr ⟨hr0, m2 + 1, fun K n => by rw [← Nat.add_assoc, rm_14 hv e, if_pos h3, hm2]⟩
      · replace h3 : ¬ EV (tC σ) (rd σ 7 0 1) (ix (tC σ 1 (ix x))) = 0 := fun z => h3 ((hEV _).trans z)
        refine ⟨L1, hC1, by rw [ht1, hn1]; exact cb.isN (by omega), by rw [ht1]; exact db, hR1, fun r σ2 L2 he2 hR2 hlt2 hO => ?_⟩
        replace hO : RO (tC σ) (tC σ 2 (ix x)) (rd σ 7 0 1) L1 r (rd σ2 7 0 1) L2 := by rw [ht1, hs1] at hO; exact hO
        refine And.intro (r01 hO) (hS r σ2 L2 (he1.trans he2) hR2 (fun z => by have := hlt2 z; omega) ?_)
        rcases hO with ⟨hr1, hL2, m2, hp2, hm2⟩ | ⟨hr0, m2, hm2⟩
        · exact Or.inl ⟨hr1, by omega, m2 + 1, by omega, fun K n => by rw [← Nat.add_assoc, rm_14 hv e, if_neg h3, hm2]⟩
        · exact Or.inr ⟨hr0, m2 + 1, fun K n => by rw [← Nat.add_assoc, rm_14 hv e, if_neg h3, hm2]⟩
    · -- loop
      refine And.intro (fun (h : tC σ 0 (ix x) = 11) => absurd (e.symm.trans h) (by decide)) (fun _ => ?_)
      refine And.intro (fun (h : tC σ 0 (ix x) = 12) => absurd (e.symm.trans h) (by decide)) (fun _ => ?_)
      refine And.intro (fun (h : tC σ 0 (ix x) = 13) => absurd (e.symm.trans h) (by decide)) (fun _ => ?_)
      refine And.intro (fun (h : tC σ 0 (ix x) = 14) => absurd (e.symm.trans h) (by decide)) (fun _ => ?_)
      rw [e1] at hC1 ht1 hn1 he1 hs1 hR1
      refine And.intro hv ?_
      refine ⟨x, L1, hC1, by rw [ht1, hn1]; exact ⟨hx.1, by rw [e]; decide, by rw [e]; decide⟩, by rw [ht1]; rfl, by rw [ht1]; rfl, by rw [ht1]; exact hd, hR1, fun r σ2 L2 he2 hR2 hO hr01 => ?_⟩
      replace hO : RO (tC σ) (100 + x) (rd σ 7 0 1) L1 r (rd σ2 7 0 1) L2 := by rw [ht1, hs1] at hO; exact hO
      refine And.intro hr01 (hS r σ2 L2 (he1.trans he2) hR2 (fun z => ?_) ?_)
      · rcases hO with ⟨-, hL2, -⟩ | ⟨hr0, -⟩
        · omega
        · rw [z] at hr0; exact absurd hr0 (by decide)
      · rcases hO with ⟨hr1, hL2, m2, hp2, hm2⟩ | ⟨hr0, m2, hm2⟩
        · obtain ⟨k2, rfl⟩ : ∃ k2, m2 = k2 + 1 := ⟨m2 - 1, by omega⟩
          exact Or.inl ⟨hr1, by omega, k2 + 1, by omega, fun K n => by rw [← Nat.add_assoc, rm_15b hv e, Nat.add_assoc, hm2]⟩
        · exact Or.inr ⟨hr0, m2 + 1, fun K n => by rw [← Nat.add_assoc, rm_15b hv e, show n + m2 + 1 = (n + 1) + m2 by omega, hm2]⟩
