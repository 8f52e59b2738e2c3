theorem folF_eq {t : Tbl} {n : Nat} (hw : WF t n) : ∀ (d d' : Nat) (x s : Int32), isN t n 11 15 x → hN t (ix x) ≤ d → hN t (ix x) ≤ d' → folF t d x s = folF t d' x s := by
  intro d
  induction d with
  | zero => intro d' x s hx hd _; have := (hw.2 _ (vp_lt hx.1)).2.1.1; omega
  | succ d ih =>
    intro d' x s hx hd hd'
    cases d' with
    | zero => have := (hw.2 _ (vp_lt hx.1)).2.1.1; omega
    | succ d' =>
      have hlt := vp_lt hx.1
      obtain ⟨-, -, -, -, -, h12, -, -, h13, h14, h15⟩ := hw.2 _ hlt
      unfold folF
      by_cases h0 : t 0 (ix x) = 12
      · rw [if_pos h0, if_pos h0]
      rw [if_neg h0, if_neg h0]
      by_cases h1 : t 0 (ix x) = 13
      · obtain ⟨ca, cb⟩ := h13 h1
        have := ca.2.2.2
        have := cb.2.2.2
        rw [if_pos h1, if_pos h1, ih d' _ s (ca.isN (by omega)) (by omega) (by omega), ih d' _ (folF t d' (t 1 (ix x)) s) (cb.isN (by omega)) (by omega) (by omega)]
      · rw [if_neg h1, if_neg h1]
        by_cases h2 : t 0 (ix x) = 14
        · obtain ⟨-, cb, cc⟩ := h14 h2
          have := cc.2.2.2
          have := cb.2.2.2
          rw [if_pos h2, if_pos h2]
          split
          · exact ih d' _ _ (cc.isN (by omega)) (by omega) (by omega)
          · exact ih d' _ _ (cb.isN (by omega)) (by omega) (by omega)
        · rw [if_neg h2, if_neg h2]
theorem ghF_12 {t : Tbl} {n : Nat} (hw : WF t n) {x s g : Int32} {L : List Int32} (hx : isN t n 11 15 x) (hs : rng s) (e : t 0 (ix x) = 12) : ghF t (x :: L) g s = ghF t L g (chg s (t 1 (ix x)) (EV t s (ix (t 2 (ix x))))) ∧ rng (chg s (t 1 (ix x)) (EV t s (ix (t 2 (ix x))))) := by
  obtain ⟨-, -, -, -, -, h12, -, -, h13, h14, h15⟩ := hw.2 _ (vp_lt hx.1)
  have hr : rng (chg s (t 1 (ix x)) (EV t s (ix (t 2 (ix x))))) := chg_rng hs (h12 e).1 (h12 e).2
  have hf : folF t 6 x s = chg s (t 1 (ix x)) (EV t s (ix (t 2 (ix x)))) := by show (if t 0 (ix x) = 12 then _ else _) = _; rw [if_pos e]
  refine ⟨?_, hr⟩
  rw [ghF, hf, if_pos hr.1]
theorem ghF_13 {t : Tbl} {n : Nat} (hw : WF t n) {x s g : Int32} {L : List Int32} (hx : isN t n 11 15 x) (e : t 0 (ix x) = 13) : ghF t (x :: L) g s = ghF t (t 1 (ix x) :: t 2 (ix x) :: L) g s := by
  have hlt := vp_lt hx.1
  obtain ⟨-, -, -, -, -, h12, -, -, h13, h14, h15⟩ := hw.2 _ hlt
  have h6 := (hw.2 _ hlt).2.1.2
  obtain ⟨ca, cb⟩ := h13 e
  have := ca.2.2.2
  have := cb.2.2.2
  have hf : folF t 6 x s = (if 0 ≤ folF t 5 (t 1 (ix x)) s then folF t 5 (t 2 (ix x)) (folF t 5 (t 1 (ix x)) s) else folF t 5 (t 1 (ix x)) s) := by
    show (if t 0 (ix x) = 12 then _ else (if t 0 (ix x) = 13 then _ else _)) = _
    rw [if_neg (by rw [e]; decide), if_pos e]
  rw [folF_eq hw 5 6 _ s (ca.isN (n := n) (by omega)) (by omega) (by omega), folF_eq hw 5 6 _ (folF t 6 (t 1 (ix x)) s) (cb.isN (n := n) (by omega)) (by omega) (by omega)] at hf
  rw [ghF, ghF, hf]
  by_cases h0 : 0 ≤ folF t 6 (t 1 (ix x)) s
  · rw [if_pos h0, if_pos h0, ghF]
  · rw [if_neg h0, if_neg h0, if_neg h0]
theorem ghF_14 {t : Tbl} {n : Nat} (hw : WF t n) {x s g : Int32} {L : List Int32} (hx : isN t n 11 15 x) (e : t 0 (ix x) = 14) : ghF t (x :: L) g s = ghF t ((if EV t s (ix (t 1 (ix x))) = 0 then t 3 (ix x) else t 2 (ix x)) :: L) g s := by
  have hlt := vp_lt hx.1
  obtain ⟨-, -, -, -, -, h12, -, -, h13, h14, h15⟩ := hw.2 _ hlt
  have h6 := (hw.2 _ hlt).2.1.2
  obtain ⟨-, cb, cc⟩ := h14 e
  have := cc.2.2.2
  have := cb.2.2.2
  have hf : folF t 6 x s = folF t 5 (if EV t s (ix (t 1 (ix x))) = 0 then t 3 (ix x) else t 2 (ix x)) s := by
    show (if t 0 (ix x) = 12 then _ else (if t 0 (ix x) = 13 then _ else (if t 0 (ix x) = 14 then _ else _))) = _
    rw [if_neg (by rw [e]; decide), if_neg (by rw [e]; decide), if_pos e]
  rw [ghF, ghF, hf]
  split
  · rw [folF_eq hw 5 6 _ s (cc.isN (n := n) (by omega)) (by omega) (by omega)]
  · rw [folF_eq hw 5 6 _ s (cb.isN (n := n) (by omega)) (by omega) (by omega)]
theorem ghF_15 {t : Tbl} {n : Nat} (hw : WF t n) {x s g : Int32} {L : List Int32} (hx : isN t n 11 15 x) (e : t 0 (ix x) = 15) : ghF t (x :: L) g s = EV t s (ix (t 2 (ix x))) := by
  have hlt := vp_lt hx.1
  obtain ⟨-, -, -, -, -, h12, -, -, h13, h14, h15⟩ := hw.2 _ hlt
  obtain ⟨-, cb, -⟩ := h15 e
  have hf : folF t 6 x s = (if EV t s (ix (t 2 (ix x))) = 0 then -2 else -1) := by
    show (if t 0 (ix x) = 12 then _ else (if t 0 (ix x) = 13 then _ else (if t 0 (ix x) = 14 then _ else (if t 0 (ix x) = 15 then _ else _)))) = _
    rw [if_neg (by rw [e]; decide), if_neg (by rw [e]; decide), if_neg (by rw [e]; decide), if_pos e]
  rw [ghF, hf]
  rcases EV01 hw s (cb.isN (n := n) (by omega)) with z | z
  · rw [z]; rfl
  · rw [z]; rfl
theorem ghF_n {t : Tbl} {x s g : Int32} {L : List Int32} (hs : rng s) (h1 : ¬ t 0 (ix x) = 12) (h2 : ¬ t 0 (ix x) = 13) (h3 : ¬ t 0 (ix x) = 14) (h4 : ¬ t 0 (ix x) = 15) : ghF t (x :: L) g s = ghF t L g s := by
  have hf : folF t 6 x s = s := by
    show (if t 0 (ix x) = 12 then _ else (if t 0 (ix x) = 13 then _ else (if t 0 (ix x) = 14 then _ else (if t 0 (ix x) = 15 then _ else _)))) = _
    rw [if_neg h1, if_neg h2, if_neg h3, if_neg h4]
  rw [ghF, hf, if_pos hs.1]
def okS (t : Tbl) (nn : Nat) : List Int32 → Prop
  | [] => True
  | x :: S => isN t nn 11 15 x ∧ hN t (ix x) + S.length ≤ 6 ∧ okS t nn S
def wS (t : Tbl) : List Int32 → Nat
  | [] => 0
  | x :: S => (2 ^ (hN t (ix x) + 1) - 1) + wS t S
abbrev CB : Type := (Nat × List Int32 × Int32) ⊕ (List Int32 × Nat × List Int32 × Int32)
def rcPc : CB → Nat
  | .inl _ => 5
  | .inr _ => 31
def rcL : CB → LV
  | .inl (τ, _, s) => [some (aR 11 0), none, none, some (aI s), some (aI (nI τ)), none, none]
  | .inr (S, τ, _, s) => [some (aR 11 0), none, none, some (aI s), some (aI (nI τ)), some (aI (nI S.length)), none]
def rcI (t : Tbl) (nn T : Nat) (g R : Int32) (σ : Mem) (b : CB) (σ' : Mem) : Prop := eqx [18, 33] σ σ' ∧ (match b with
  | .inl (τ, K, s) => τ < T ∧ TG σ 19 20 K g τ ∧ vK t nn K ∧ rng s ∧ ghF t K g s = R
  | .inr (S, τ, K, s) => τ < T ∧ (∃ τ', τ' < τ ∧ rd σ 20 0 τ = nI τ' ∧ TG σ 19 20 K g τ') ∧ SK σ' S ∧ okS t nn S ∧ vK t nn K ∧ rng s ∧ ghF t (S ++ K) g s = R)
def rcM (t : Tbl) (b : CB) (_ : Mem) : Nat := match b with
  | .inl (_, K, _) => 1000 * K.length
  | .inr (S, _, K, _) => 1000 * K.length + wS t S + 1
def S_reaches : SpecT := fun av σ Φ => match av with
  | [Sum.inr (Sum.inr (Sum.inr q)), Sum.inl τ0, Sum.inl s] => thisM q 11 (MI σ ∧ rng s ∧ ∃ K g τ T, τ0 = nI τ ∧ τ < T ∧ T ≤ 256 ∧ TG σ 19 20 K g τ ∧ vK (tM σ) (nM σ) K ∧ isN (tM σ) (nM σ) 5 10 g ∧ ∀ σ', eqx [18, 33] σ σ' → Φ (some (aI (ghF (tM σ) K g s))) σ')
  | _ => False
set_option maxRecDepth 100000 in
theorem c_reaches (l : Launch) : Con l yX5_reaches cX5_reaches 7 (some .boolean) 3 5 S_reaches := by
  refine Con.of (by decide) (by decide) ?_
  intro p e s s0 a0 m args below meth c D ad cA A av σ Φ hlen hS hr X
  match av, hS with
  | [Sum.inr (Sum.inr (Sum.inr q)), Sum.inl τ0, Sum.inl s], hS =>
    obtain ⟨rfl, hS⟩ := thisM_out hS
    obtain ⟨hM, hs, K0, g, τ1, T, rfl, hτ, hT, hTG, hK, hg, hS⟩ := hS
    obtain ⟨t, ht⟩ : ∃ t, t = tM σ := ⟨_, rfl⟩
    obtain ⟨nn, hnn⟩ : ∃ n, n = nM σ := ⟨_, rfl⟩
    have h60 : nn ≤ 60 := by rw [hnn]; exact hM.1.2
    have hwf : WF t nn := by rw [ht, hnn]; exact hM.2.1
    rw [← ht] at hK hg hS
    rw [← hnn] at hK hg
    obtain ⟨R, hR⟩ : ∃ R, R = ghF t K0 g s := ⟨_, rfl⟩
    rw [← hR] at hS
    refine wp_meth (β := CB) (ps := [5, 31]) (N := 100) (N0 := 100) rcPc rcL (rcI t nn T g R σ) (rcM t) (tk_X5_reaches X hr (c_isTrue l) (by omega) (c_changed l) (by omega)) ?_ ?_
    rotate_left
    · exact ⟨.inl (τ1, K0, s), rfl, ⟨rfl, rfl, rfl, trivial⟩, rfl, ⟨eqx.refl _ _, hτ, hTG, hK, hs, hR.symm⟩, trivial⟩
    intro b σ' hI
    obtain ⟨he, hI⟩ := hI
    obtain ⟨hM1, ht1, hn1⟩ := MI_eqx he (by decide) hM
    rw [← ht] at ht1
    rw [← hnn] at hn1
    match b, hI with
    | .inl (τ, K, s), hI =>
      obtain ⟨hτ, hTG, hK, hs, hv⟩ := hI
      have hcl : ix (nI τ) = τ := nI_clamp (by omega)
      have hvp : vp_in (nI τ) 400 := vp_in_nI (by omega) (by decide)
      have r19 : rd σ' 19 0 (ix (nI τ)) = rd σ 19 0 τ := by rw [hcl]; exact he.1 _ _ _ (by decide)
      have r20 : rd σ' 20 0 (ix (nI τ)) = rd σ 20 0 τ := by rw [hcl]; exact he.1 _ _ _ (by decide)
      refine And.intro hvp ?_
      cases K with
      | nil =>
        obtain ⟨c1, c2⟩ := hTG
        refine And.intro (fun _ => ?_) (fun (h : ¬ rd σ' 19 0 (ix (nI τ)) < 0) => absurd (by rw [r19, c1]; decide) h)
        refine And.intro hvp (And.intro hM1 (And.intro (by rw [ht1, hn1]; show isN t nn 5 10 (rd σ' 20 0 (ix (nI τ))); rw [r20, c2]; exact hg) (fun σ2 he2 => ?_)))
        have := hS σ2 (he.trans (he2.mono (by decide)))
        rw [← hv] at this
        have e9 : EV (tM σ') s (ix (rd σ' 20 0 (ix (nI τ)))) = ghF t [] g s := by rw [ht1, r20, c2]; rfl
        rw [← e9] at this
        have o9 : EV (tM σ') s (ix (rd σ' 20 0 (ix (nI τ)))) = 0 ∨ EV (tM σ') s (ix (rd σ' 20 0 (ix (nI τ)))) = 1 := by rw [e9]; exact EV01 hwf s hg
        exact And.intro o9 this
      | cons x K =>
        obtain ⟨c1, τ', hl, c2, c3⟩ := hTG
        have hx := hK x (List.mem_cons_self ..)
        refine And.intro (fun (h : rd σ' 19 0 (ix (nI τ)) < 0) => absurd h (by rw [r19, c1]; exact Int32.not_lt.mpr ((rng_iff (n := nn) (by omega)).mpr hx.1).1)) (fun _ => ?_)
        have v0 : vp_in 0 64 := vp_in_nI (N := 64) (Nat.zero_lt_succ 63) (by decide)
        refine And.intro hvp (And.intro v0 ?_)
        have hh6 := (hwf.2 _ (vp_lt hx.1)).2.1.2
        have hp : 2 ^ (hN t (ix x) + 1) ≤ 2 ^ 7 := Nat.pow_le_pow_right (by decide) (by omega)
        refine ⟨.inr ([x], τ, K, s), rfl, ⟨rfl, rfl, rfl, rfl, trivial⟩, rfl, ⟨he.wr (by decide), hτ, ⟨τ', hl, c2, c3⟩, ?_, ⟨hx, by show _ + 0 ≤ 6; omega, trivial⟩, fun y hy => hK y (List.mem_cons_of_mem _ hy), hs, hv⟩, ?_⟩
        · refine ⟨?_, trivial⟩
          show rd (wr σ' 33 0 0 (rd σ' 19 0 (ix (nI τ)))) 33 0 0 = x
          rw [rd_wr, if_pos ⟨rfl, rfl, rfl⟩, r19, c1]
        · show 1000 * K.length + ((2 ^ (hN t (ix x) + 1) - 1) + 0) + 1 < 1000 * (K.length + 1)
          omega
    | .inr ([], τ, K, s), hI =>
      obtain ⟨hτ, ⟨τ', hl, c2, c3⟩, -, -, hK, hs, hv⟩ := hI
      have hcl : ix (nI τ) = τ := nI_clamp (by omega)
      have hvp : vp_in (nI τ) 400 := vp_in_nI (by omega) (by decide)
      have r20 : rd σ' 20 0 (ix (nI τ)) = nI τ' := by rw [hcl, ← c2]; exact he.1 _ _ _ (by decide)
      refine And.intro (fun _ => ?_) (fun (h : ¬ nI 0 ≤ 0) => absurd (by decide) h)
      refine And.intro hvp ?_
      exact ⟨.inl (τ', K, s), rfl, ⟨rfl, rfl, by show some (some (aI (rd σ' 20 0 (ix (nI τ))))) = some (some (aI (nI τ'))); rw [r20], trivial⟩, rfl, ⟨he, by omega, c3, hK, hs, hv⟩, by show 1000 * K.length < 1000 * K.length + 0 + 1; omega⟩
    | .inr (y :: S, τ, K, s), hI =>
      obtain ⟨hτ, hbe, ⟨hy, hSK⟩, ⟨hz, hzh, hoS⟩, hK, hs, hv⟩ := hI
      have hlt := vp_lt hz.1
      have hw := hwf.2 _ hlt
      have hz1 := hw.2.1.1
      have hz60 := vp_mono hz.1 h60
      have e1 : nI (S.length + 1) + (-1) = nI S.length := pk_m1 _
      have hcl : ix (nI (S.length + 1) + (-1)) = S.length := by rw [e1]; exact nI_clamp (by omega)
      have hvp : vp_in (nI (S.length + 1) + (-1)) 64 := by rw [e1]; exact vp_in_nI (by omega) (by decide)
      have hrd : (rd σ' 33 0 (ix (nI (S.length + 1) + (-1)))) = y := by rw [hcl]; exact hy
      have hv1 : vp_in (rd σ' 33 0 (ix (nI (S.length + 1) + (-1)))) 60 := by rw [hrd]; exact hz60
      have row : ∀ (σ2 : Mem), tM σ2 = t → ∀ j, j < 5 → ∀ k, rd σ2 (12 + j) 0 k = t j k := fun σ2 h2 j hj k => by
        have := congrFun (congrFun h2 j) k
        unfold tM at this
        rw [if_pos hj] at this
        exact this
      have rK : ∀ j, j < 5 → rd σ' (12 + j) 0 (ix (rd σ' 33 0 (ix (nI (S.length + 1) + (-1))))) = t j (ix y) := fun j hj => by rw [hrd]; exact row _ ht1 j hj _
      have ew : wS t (y :: S) = (2 ^ (hN t (ix y) + 1) - 1) + wS t S := rfl
      obtain ⟨p2a, p2b⟩ := pw2 (hN t (ix y))
      obtain ⟨⟨hk0, hk15⟩, -, -, -, -, h12, -, -, h13, h14, h15⟩ := hw
      have hv : ghF t (y :: (S ++ K)) g s = R := hv
      have back : ∀ (S1 : List Int32) (s2 s3 v5 v6 : Int32) (σ2 : Mem), s3 = s2 → v5 = nI S1.length → eqx [18, 33] σ' σ2 → SK σ2 S1 → okS t nn S1 → rng s2 → ghF t (S1 ++ K) g s2 = R → wS t S1 < wS t (y :: S) → cutC rcPc rcL (rcI t nn T g R σ) (rcM t) (fun q => q < rcM t (.inr (y :: S, τ, K, s)) σ') 31 [some (aR 11 0), none, none, some (aI s3), some (aI (nI τ)), some (aI v5), some (aI v6)] [] σ2 := by
        intro S1 s2 s3 v5 v6 σ2 h3 h5 he2 hk1 ho1 hs2 hv2 hw2
        subst h5; subst h3
        exact ⟨.inr (S1, τ, K, s3), rfl, ⟨rfl, rfl, rfl, rfl, trivial⟩, rfl, ⟨he.trans he2, hτ, hbe, hk1, ho1, hK, hs2, hv2⟩, by show 1000 * K.length + wS t S1 + 1 < 1000 * K.length + wS t (y :: S) + 1; omega⟩
      refine And.intro (fun (h : nI (S.length + 1) ≤ 0) => absurd h (nI_nle (by omega) (by omega))) (fun _ => ?_)
      refine And.intro hvp (And.intro hv1 ?_)
      refine And.intro (fun (hn15 : ¬ rd σ' 12 0 (ix (rd σ' 33 0 (ix (nI (S.length + 1) + (-1))))) = 15) => ?_) (fun (e : rd σ' 12 0 (ix (rd σ' 33 0 (ix (nI (S.length + 1) + (-1))))) = 15) => ?_)
      rotate_left
      · have e : t 0 (ix y) = 15 := (rK 0 (by decide)).symm.trans e
        obtain ⟨-, cb, -⟩ := h15 e
        refine And.intro hv1 (And.intro hM1 (And.intro (by rw [ht1, hn1]; show isN t nn 5 10 (rd σ' 14 0 (ix (rd σ' 33 0 (ix (nI (S.length + 1) + (-1)))))); rw [rK 2 (by decide)]; exact cb.isN (by omega)) (fun σ2 he2 => ?_)))
        have := hS σ2 (he.trans (he2.mono (by decide)))
        rw [← hv, ghF_15 hwf hz e] at this
        have e9 : EV (tM σ') s (ix (rd σ' 14 0 (ix (rd σ' 33 0 (ix (nI (S.length + 1) + (-1))))))) = EV t s (ix (t 2 (ix y))) := by rw [ht1, rK 2 (by decide)]
        rw [← e9] at this
        have o9 : EV (tM σ') s (ix (rd σ' 14 0 (ix (rd σ' 33 0 (ix (nI (S.length + 1) + (-1))))))) = 0 ∨ EV (tM σ') s (ix (rd σ' 14 0 (ix (rd σ' 33 0 (ix (nI (S.length + 1) + (-1))))))) = 1 := by rw [e9]; exact EV01 hwf s (cb.isN (n := nn) (by omega))
        exact And.intro o9 this
      have hn15 : ¬ t 0 (ix y) = 15 := fun z => hn15 ((rK 0 (by decide)).trans z)
      refine And.intro hv1 ?_
      refine And.intro (fun (hn12 : ¬ rd σ' 12 0 (ix (rd σ' 33 0 (ix (nI (S.length + 1) + (-1))))) = 12) => ?_) (fun (e : rd σ' 12 0 (ix (rd σ' 33 0 (ix (nI (S.length + 1) + (-1))))) = 12) => ?_)
      rotate_left
      · have e : t 0 (ix y) = 12 := (rK 0 (by decide)).symm.trans e
        refine And.intro hM1 (And.intro (by rw [ht1, hn1]; show isN t nn 12 12 (rd σ' 33 0 (ix (nI (S.length + 1) + (-1)))); rw [hrd]; exact ⟨hz.1, by rw [e]; decide, by rw [e]; decide⟩) (fun σ2 he2 => ?_))
        obtain ⟨q1, q2⟩ := ghF_12 (g := g) (L := S ++ K) hwf hz hs e
        have e9 : chg s (tM σ' 1 (ix (rd σ' 33 0 (ix (nI (S.length + 1) + (-1)))))) (EV (tM σ') s (ix (tM σ' 2 (ix (rd σ' 33 0 (ix (nI (S.length + 1) + (-1)))))))) = chg s (t 1 (ix y)) (EV t s (ix (t 2 (ix y)))) := by rw [ht1, hrd]
        exact back S _ _ _ _ _ e9 e1 (he2.mono (by decide)) (SK_eq (fun k => he2.1 33 0 k (by decide)) hSK) hoS q2 (q1.symm.trans hv) (by rw [ew]; omega)
      have hn12 : ¬ t 0 (ix y) = 12 := fun z => hn12 ((rK 0 (by decide)).trans z)
      refine And.intro hv1 ?_
      refine And.intro (fun (hn14 : ¬ rd σ' 12 0 (ix (rd σ' 33 0 (ix (nI (S.length + 1) + (-1))))) = 14) => ?_) (fun (e : rd σ' 12 0 (ix (rd σ' 33 0 (ix (nI (S.length + 1) + (-1))))) = 14) => ?_)
      rotate_left
      · have e : t 0 (ix y) = 14 := (rK 0 (by decide)).symm.trans e
        obtain ⟨ca, cb, cc3⟩ := h14 e
        have hb := cb.isN (n := nn) (by omega)
        have hc := cc3.isN (n := nn) (by omega)
        have pb := pw cb.2.2.2
        have pc := pw cc3.2.2.2
        have lb := cb.2.2.2
        have lc := cc3.2.2.2
        have q1 := ghF_14 (s := s) (g := g) (L := S ++ K) hwf hz e
        refine And.intro hv1 (And.intro hM1 (And.intro (by rw [ht1, hn1]; show isN t nn 5 10 (rd σ' 13 0 (ix (rd σ' 33 0 (ix (nI (S.length + 1) + (-1)))))); rw [rK 1 (by decide)]; exact ca.isN (by omega)) (fun σ2 he2 => ?_)))
        obtain ⟨hM2, ht2, hn2⟩ := MI_eqx he2 (by decide) hM1
        rw [ht1] at ht2
        have hSK2 := SK_eq (fun k => he2.1 33 0 k (by decide)) hSK
        have e9 : EV (tM σ') s (ix (rd σ' 13 0 (ix (rd σ' 33 0 (ix (nI (S.length + 1) + (-1))))))) = EV t s (ix (t 1 (ix y))) := by rw [ht1, rK 1 (by decide)]
        have e2 : nI (S.length + 1) + (-1) + 1 = nI (S.length + 1) := by rw [e1, nI_1]
        refine And.intro (fun (h3 : EV (tM σ') s (ix (rd σ' 13 0 (ix (rd σ' 33 0 (ix (nI (S.length + 1) + (-1))))))) = 0) => ?_) (fun (h3 : ¬ EV (tM σ') s (ix (rd σ' 13 0 (ix (rd σ' 33 0 (ix (nI (S.length + 1) + (-1))))))) = 0) => ?_)
        · rw [e9] at h3
          rw [if_pos h3] at q1
          refine And.intro hv1 (And.intro hvp ?_)
          have ec : rd σ2 15 0 (ix (rd σ' 33 0 (ix (nI (S.length + 1) + (-1))))) = t 3 (ix y) := by rw [hrd]; exact row _ ht2 3 (by decide) _
          refine back (t 3 (ix y) :: S) s s _ _ _ rfl e2 ((he2.mono (by decide)).wr (by decide)) ?_ ⟨hc, by omega, hoS⟩ hs (q1.symm.trans hv) (by show (2 ^ (hN t (ix (t 3 (ix y))) + 1) - 1) + wS t S < _; rw [ew]; omega)
          show SK (wr σ2 33 0 (ix (nI (S.length + 1) + (-1))) (rd σ2 15 0 (ix (rd σ' 33 0 (ix (nI (S.length + 1) + (-1))))))) _
          rw [ec, hcl]
          exact SK_push hSK2
        · rw [e9] at h3
          rw [if_neg h3] at q1
          refine And.intro hv1 (And.intro hvp ?_)
          have ec : rd σ2 14 0 (ix (rd σ' 33 0 (ix (nI (S.length + 1) + (-1))))) = t 2 (ix y) := by rw [hrd]; exact row _ ht2 2 (by decide) _
          refine back (t 2 (ix y) :: S) s s _ _ _ rfl e2 ((he2.mono (by decide)).wr (by decide)) ?_ ⟨hb, by omega, hoS⟩ hs (q1.symm.trans hv) (by show (2 ^ (hN t (ix (t 2 (ix y))) + 1) - 1) + wS t S < _; rw [ew]; omega)
          show SK (wr σ2 33 0 (ix (nI (S.length + 1) + (-1))) (rd σ2 14 0 (ix (rd σ' 33 0 (ix (nI (S.length + 1) + (-1))))))) _
          rw [ec, hcl]
          exact SK_push hSK2
      have hn14 : ¬ t 0 (ix y) = 14 := fun z => hn14 ((rK 0 (by decide)).trans z)
      refine And.intro hv1 ?_
      refine And.intro (fun (hn13 : ¬ rd σ' 12 0 (ix (rd σ' 33 0 (ix (nI (S.length + 1) + (-1))))) = 13) => ?_) (fun (e : rd σ' 12 0 (ix (rd σ' 33 0 (ix (nI (S.length + 1) + (-1))))) = 13) => ?_)
      · have hn13 : ¬ t 0 (ix y) = 13 := fun z => hn13 ((rK 0 (by decide)).trans z)
        exact back S s s _ _ _ rfl e1 (eqx.refl _ _) hSK hoS hs ((ghF_n hs hn12 hn13 hn14 hn15).symm.trans hv) (by rw [ew]; omega)
      · have e : t 0 (ix y) = 13 := (rK 0 (by decide)).symm.trans e
        obtain ⟨ca, cb⟩ := h13 e
        have ha := ca.isN (n := nn) (by omega)
        have hb := cb.isN (n := nn) (by omega)
        have pa := pw ca.2.2.2
        have pb := pw cb.2.2.2
        have la := ca.2.2.2
        have lb := cb.2.2.2
        have e2 : nI (S.length + 1) + (-1) + 1 = nI (S.length + 1) := by rw [e1, nI_1]
        have e3 : nI (S.length + 1) + (-1) + 2 = nI (S.length + 2) := by rw [e1, show (2 : Int32) = nI 2 from rfl, nI_add]
        refine And.intro hv1 (And.intro hvp (And.intro hv1 (And.intro (by show vp_in (nI (S.length + 1) + (-1) + 1) 64; rw [e2]; exact vp_in_nI (by omega) (by decide)) ?_)))
        refine back (t 1 (ix y) :: t 2 (ix y) :: S) s s _ _ _ rfl e3 (((eqx.refl _ _).wr (by decide)).wr (by decide)) ?_ ⟨ha, by simp only [List.length_cons]; omega, hb, by omega, hoS⟩ hs ((ghF_13 hwf hz e).symm.trans hv) (by show (2 ^ (hN t (ix (t 1 (ix y))) + 1) - 1) + ((2 ^ (hN t (ix (t 2 (ix y))) + 1) - 1) + wS t S) < _; rw [ew]; omega)
        show SK (wr (wr σ' 33 0 (ix (nI (S.length + 1) + (-1))) (rd σ' 14 0 (ix (rd σ' 33 0 (ix (nI (S.length + 1) + (-1))))))) 33 0 (ix (nI (S.length + 1) + (-1) + 1)) (rd σ' 13 0 (ix (rd σ' 33 0 (ix (nI (S.length + 1) + (-1))))))) _
        rw [rK 1 (by decide), rK 2 (by decide), e2, hcl, show ix (nI (S.length + 1)) = S.length + 1 from nI_clamp (by omega)]
        exact SK_push (K := t 2 (ix y) :: S) (SK_push hSK)
