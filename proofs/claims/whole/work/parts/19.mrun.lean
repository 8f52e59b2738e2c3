theorem c_ends (l : Launch) : ∀ d, Con l yX3_ends cX3_ends 4 (some .boolean) 2 (20 + 2 * d) (S_ends d)
  | 0 => Con.none (by
    intro av σ Φ hS
    match av, hS with
    | [Sum.inr (Sum.inr (Sum.inr q)), Sum.inl x], hS =>
      obtain ⟨rfl, L, hC, hx, hd, -⟩ := thisM_out hS
      have := (hC.2.2 _ (vp_lt hx.1)).2.1.1
      omega)
  | d + 1 => c_ends_s l d (c_ends l d)
/-- the answer of a run: a store, or none where the fuel is gone -/
def RR (t : Tbl) (x s : Int32) (f : Nat) (res : Option Int32) : Prop := (∃ n, rmS t n [x] s f = some res) ∧ ∀ s', res = some s' → rng s'
def S_storeBehind : SpecT := fun av σ Φ => match av with
  | [Sum.inr (Sum.inr (Sum.inr q)), Sum.inl x, Sum.inl s, Sum.inl f] => thisM q 7 (CI σ ∧ isN (tC σ) (nC σ) 11 15 x ∧ rng s ∧ ∃ fn, f = nI fn ∧ fn ≤ 500 ∧ ∀ res σ', eqx [7] σ σ' → RR (tC σ) x s fn res → Φ (some (aI (res.getD (-1)))) σ')
  | _ => False
set_option maxRecDepth 100000 in
theorem c_storeBehind (l : Launch) : Con l yX3_storeBehind cX3_storeBehind 4 (some .int) 4 33 S_storeBehind := by
  refine Con.of (by decide) (by decide) ?_
  intro p e s s0 a0 m args below meth c D ad cA A av σ Φ hlen hS hr X
  match av, hS with
  | [Sum.inr (Sum.inr (Sum.inr q)), Sum.inl x, Sum.inl s, Sum.inl f], hS =>
    obtain ⟨rfl, hS⟩ := thisM_out hS
    refine wp_sound (ps := []) (C := fun _ _ _ _ => False) (tk_X3_storeBehind X hr (c_ends l 6) (by omega)) (fun _ _ _ _ h => h.elim) 400 _ _ _ _ ?_
    obtain ⟨hC, hx, hs, fn, rfl, hf, hS⟩ := hS
    have he0 : eqx [7] σ (wr (wr σ 7 0 1 s) 7 0 2 (nI fn)) := ((eqx.refl _ _).wr (by decide)).wr (by decide)
    obtain ⟨hC0, ht0, hn0⟩ := CI_eqx he0 (by decide) hC
    refine ⟨fn, hC0, by rw [ht0, hn0]; exact hx, by rw [ht0]; exact (hC.2.2 _ (vp_lt hx.1)).2.1.2, ⟨hs, rfl, hf⟩, fun r σ' L' he hR hlt hO => ?_⟩
    replace hO : RO (tC σ) x s fn r (rd σ' 7 0 1) L' := by rw [ht0] at hO; exact hO
    rcases hO with ⟨rfl, hL, m9, hp, hm⟩ | ⟨rfl, m9, hm⟩
    · refine And.intro (fun h => absurd h (by decide)) (fun _ => ?_)
      exact hS (some (rd σ' 7 0 1)) σ' (he0.trans he) ⟨⟨1 + m9, hm [] 1⟩, fun s' e => by cases e; exact hR.1⟩
    · refine And.intro (fun _ => ?_) (fun h => absurd rfl h)
      exact hS none σ' (he0.trans he) ⟨⟨1 + m9, hm [] 1⟩, fun s' e => by cases e⟩
/-- all but the groups gs and the fields fs of the reference's object is as it was -/
def eqf (gs fs : List Nat) (σ σ' : Mem) : Prop := (∀ g i k, g ∉ gs → (g = 11 → k ∉ fs) → rd σ' g i k = rd σ g i k) ∧ σ'.2 = σ.2
theorem eqf.refl (gs fs : List Nat) (σ : Mem) : eqf gs fs σ σ := ⟨fun _ _ _ _ _ => rfl, rfl⟩
theorem eqf.trans {gs fs : List Nat} {σ σ' σ'' : Mem} (h1 : eqf gs fs σ σ') (h2 : eqf gs fs σ' σ'') : eqf gs fs σ σ'' := ⟨fun g i k hg hf => (h2.1 g i k hg hf).trans (h1.1 g i k hg hf), h2.2.trans h1.2⟩
theorem eqf.mono {gs hs fs es : List Nat} {σ σ' : Mem} (h : eqf gs fs σ σ') (hh : ∀ g ∈ gs, g ∈ hs) (hf : ∀ k ∈ fs, k ∈ es) : eqf hs es σ σ' := ⟨fun g i k hg hk => h.1 g i k (fun z => hg (hh g z)) (fun e z => hk e (hf k z)), h.2⟩
theorem eqx.f {gs hs fs : List Nat} {σ σ' : Mem} (h : eqx gs σ σ') (hh : ∀ g ∈ gs, g ∈ hs) : eqf hs fs σ σ' := ⟨fun g i k hg _ => h.1 g i k (fun z => hg (hh g z)), h.2⟩
theorem eqf.pg {gs fs : List Nat} {σ σ' : Mem} (h : eqf gs fs σ σ') {g i k : Nat} {v : Int32} (hg : g ∈ gs) : eqf gs fs σ (wr σ' g i k v) := ⟨fun g' i' k' hg' hk => by
  have hne : ¬ (g' = g ∧ i' = i ∧ k' = k) := fun z => hg' (by rw [z.1]; exact hg)
  rw [rd_wr, if_neg hne]
  exact h.1 g' i' k' hg' hk, h.2⟩
theorem eqf.pf {gs fs : List Nat} {σ σ' : Mem} (h : eqf gs fs σ σ') {i k : Nat} {v : Int32} (hk : k ∈ fs) : eqf gs fs σ (wr σ' 11 i k v) := ⟨fun g' i' k' hg' hk' => by
  have hne : ¬ (g' = 11 ∧ i' = i ∧ k' = k) := fun z => hk' z.1 (by rw [z.2.2]; exact hk)
  rw [rd_wr, if_neg hne]
  exact h.1 g' i' k' hg' hk', h.2⟩
theorem eqf.rl {gs fs : List Nat} {σ σ' : Mem} (h : eqf gs fs σ σ') (g k : Nat) : rl σ' g k = rl σ g k := by show σ'.2.1 g k = σ.2.1 g k; rw [h.2]
theorem MI_eqf {gs fs : List Nat} {σ σ' : Mem} (h : eqf gs fs σ σ') (hg : ∀ g ∈ gs, g < 11 ∨ 17 < g) (hf : 1 ∉ fs) (hM : MI σ) : MI σ' ∧ tM σ' = tM σ ∧ nM σ' = nM σ := by
  have ht : tM σ' = tM σ := by
    funext j k
    unfold tM
    split
    next hj => exact h.1 _ _ _ (fun z => by have := hg _ z; omega) (fun z => by omega)
    next => rfl
  have e : rd σ' 11 0 1 = rd σ 11 0 1 := h.1 11 0 1 (fun z => by have := hg 11 z; omega) (fun _ => hf)
  have hn : nM σ' = nM σ := by unfold nM; rw [e]
  have hl : rl σ' 17 = rl σ 17 := by funext k; exact h.rl 17 k
  exact ⟨⟨⟨by rw [e, hn]; exact hM.1.1, by rw [hn]; exact hM.1.2⟩, by rw [ht, hn]; exact hM.2.1, by rw [ht, hn, hl]; exact hM.2.2⟩, ht, hn⟩
theorem MI_eqx {gs : List Nat} {σ σ' : Mem} (h : eqx gs σ σ') (hg : ∀ g ∈ gs, g < 11 ∨ 17 < g) (hM : MI σ) : MI σ' ∧ tM σ' = tM σ ∧ nM σ' = nM σ := MI_eqf (fs := []) (h.f (fun g h => h)) hg (by decide) hM
/-- the reference's stack -/
def SK (σ : Mem) : List Int32 → Prop
  | [] => True
  | y :: K => rd σ 33 0 K.length = y ∧ SK σ K
theorem SK_eq {σ σ' : Mem} (h : ∀ k, rd σ' 33 0 k = rd σ 33 0 k) : ∀ {K : List Int32}, SK σ K → SK σ' K
  | [], _ => trivial
  | _ :: _, hk => ⟨(h _).trans hk.1, SK_eq h hk.2⟩
theorem SK_wr {σ : Mem} {p : Nat} {v : Int32} : ∀ {K : List Int32}, K.length ≤ p → SK σ K → SK (wr σ 33 0 p v) K
  | [], _, _ => trivial
  | _ :: K, hp, hk => ⟨by
      rw [rd_wr, if_neg (fun z => by have := z.2.2; simp only [List.length_cons] at hp; omega)]
      exact hk.1, SK_wr (by simp only [List.length_cons] at hp; omega) hk.2⟩
theorem SK_push {σ : Mem} {K : List Int32} {v : Int32} (h : SK σ K) : SK (wr σ 33 0 K.length v) (v :: K) := ⟨by rw [rd_wr, if_pos ⟨rfl, rfl, rfl⟩], SK_wr (Nat.le_refl _) h⟩
def itm (t : Tbl) (n0 : Nat) (y : Int32) (p : Nat) : Prop := ∃ z, (y = z ∨ (y = 100 + z ∧ t 0 (ix z) = 15)) ∧ isN t n0 11 15 z ∧ hN t (ix z) + p ≤ 6
def okK (t : Tbl) (n0 : Nat) : List Int32 → Prop
  | [] => True
  | y :: K => itm t n0 y K.length ∧ okK t n0 K
/-- what is done with command z -/
def dsp (t : Tbl) (n : Nat) (z : Int32) (K : List Int32) (s : Int32) (L : Nat) : Option (Option Int32) :=
  if t 0 (ix z) = 12 then rmS t n K (chg s (t 1 (ix z)) (EV t s (ix (t 2 (ix z))))) L
  else if t 0 (ix z) = 13 then rmS t n (t 1 (ix z) :: t 2 (ix z) :: K) s L
  else if t 0 (ix z) = 14 then rmS t n ((if EV t s (ix (t 1 (ix z))) = 0 then t 3 (ix z) else t 2 (ix z)) :: K) s L
  else if t 0 (ix z) = 15 ∧ ¬ EV t s (ix (t 1 (ix z))) = 0 then rmS t n (t 3 (ix z) :: (100 + z) :: K) s L
  else rmS t n K s L
theorem rmS_dsp {t : Tbl} {n : Nat} {x s : Int32} {K : List Int32} {L : Nat} : rmS t (n + 1) (x :: K) s L = if x < 100 ∧ L = 0 then some none else dsp t n (m100 x) K s (if x < 100 then L - 1 else L) := rfl
abbrev RB : Type := (List Int32 × Int32 × Nat × Nat) ⊕ (Int32 × List Int32 × Int32 × Nat × Nat)
def rnPc : RB → Nat
  | .inl _ => 57
  | .inr _ => 129
def rnL (fn : Nat) : RB → LV
  | .inl (K, s1, L, _) => [some (aR 11 0), none, none, some (aI (nI fn)), some (aI s1), some (aI (nI (fn - L))), some (aI (nI K.length)), none, none]
  | .inr (z, K, s1, L, _) => [some (aR 11 0), none, none, some (aI (nI fn)), some (aI s1), some (aI (nI (fn - L))), some (aI (nI K.length)), some (aI z), none]
def rnI (t : Tbl) (nn fn : Nat) (res : Option Int32) (σ : Mem) (b : RB) (σ' : Mem) : Prop := match b with
  | .inl (K, s1, L, n) => okK t nn K ∧ SK σ' K ∧ L ≤ fn ∧ rng s1 ∧ rmS t n K s1 L = some res ∧ eqf [18, 33] [0] σ σ' ∧ rd σ' 11 0 0 = 0
  | .inr (z, K, s1, L, n) => isN t nn 11 15 z ∧ hN t (ix z) + K.length ≤ 6 ∧ okK t nn K ∧ SK σ' K ∧ L ≤ fn ∧ rng s1 ∧ dsp t n z K s1 L = some res ∧ eqf [18, 33] [0] σ σ' ∧ rd σ' 11 0 0 = 0
def rnM (b : RB) (_ : Mem) : Nat := match b with
  | .inl (_, _, _, n) => 2 * n
  | .inr (_, _, _, _, n) => 2 * n + 1
def S_runM : SpecT := fun av σ Φ => match av with
  | [Sum.inr (Sum.inr (Sum.inr q)), Sum.inl x, Sum.inl s, Sum.inl f] => thisM q 11 (MI σ ∧ (¬ (isN (tM σ) (nM σ) 11 15 x ∧ rng s ∧ 1 ≤ f ∧ f ≤ 500) → ∀ σ', rd σ' 11 0 0 = 1 → eqf [18, 33] [0] σ σ' → Φ (some (aI 0)) σ') ∧ (isN (tM σ) (nM σ) 11 15 x ∧ rng s ∧ 1 ≤ f ∧ f ≤ 500 → ∃ fn res, f = nI fn ∧ fn ≤ 500 ∧ RR (tM σ) x s fn res ∧ ∀ σ', rd σ' 11 0 0 = (if res = none then 2 else 0) → eqf [18, 33] [0] σ σ' → Φ (some (aI (res.getD 0))) σ'))
  | _ => False
set_option maxRecDepth 100000 in
theorem c_runM (l : Launch) : Con l yX5_run cX5_run 9 (some .int) 4 5 S_runM := by
  refine Con.of (by decide) (by decide) ?_
  intro p e s s0 a0 m args below meth c D ad cA A av σ Φ hlen hS hr X
  match av, hS with
  | [Sum.inr (Sum.inr (Sum.inr q)), Sum.inl x, Sum.inl s, Sum.inl f], hS =>
    obtain ⟨rfl, hS⟩ := thisM_out hS
    obtain ⟨hM, hS1, hS2⟩ := hS
    have he0 : eqf [18, 33] [0] σ (wr σ 11 0 0 0) := (eqf.refl _ _ _).pf (by decide)
    obtain ⟨hM0, ht0, hn0⟩ := MI_eqf he0 (by decide) (by decide) hM
    obtain ⟨t, ht⟩ : ∃ t, t = tM σ := ⟨_, rfl⟩
    obtain ⟨nn, hnn⟩ : ∃ n, n = nM σ := ⟨_, rfl⟩
    have h60 : nn ≤ 60 := by rw [hnn]; exact hM.1.2
    have hwf : WF t nn := by rw [ht, hnn]; exact hM.2.1
    by_cases hok : isN (tM σ) (nM σ) 11 15 x ∧ rng s ∧ 1 ≤ f ∧ f ≤ 500
    rotate_left
    · -- refused
      have hS := hS1 hok
      refine wp_sound (ps := []) (C := fun _ _ _ _ => False) (tk_X5_run X hr (c_isCommand l) (by omega) (c_in l) (by omega) (c_refuse l) (by omega) (c_changed l) (by omega) (c_isTrue l) (by omega)) (fun _ _ _ _ h => h.elim) 400 _ _ _ _ ?_
      have hr1 : Φ (some (aI 0)) (wr (wr σ 11 0 0 0) 11 0 0 1) := hS _ rfl (he0.pf (by decide))
      refine And.intro hM0.1 ?_
      refine And.intro (fun _ => hr1) (fun (h1 : ¬ b01 (isN (tM (wr σ 11 0 0 0)) (nM (wr σ 11 0 0 0)) 11 15 x) = 0) => ?_)
      refine And.intro (fun _ => hr1) (fun h2 => ?_)
      refine And.intro (fun h3 => ?_) (fun _ => hr1)
      have h1 := b01_n h1
      rw [ht0, hn0] at h1
      exact absurd ⟨h1, b01_n h2, b01_n h3⟩ hok
    obtain ⟨fn, res, hf, hfn, ⟨⟨n0, hrun⟩, hrg⟩, hP9⟩ := hS2 hok
    obtain ⟨hx, hs, hf1, hf2⟩ := hok
    subst hf
    rw [← ht] at hrun
    rw [← ht, ← hnn] at hx
    refine wp_meth (β := RB) (ps := [57, 129]) (N := 100) (N0 := 100) rnPc (rnL fn) (rnI t nn fn res σ) rnM (tk_X5_run X hr (c_isCommand l) (by omega) (c_in l) (by omega) (c_refuse l) (by omega) (c_changed l) (by omega) (c_isTrue l) (by omega)) ?_ ?_
    · intro b σ' hI
      match b, hI with
      | .inl ([], s1, L, n), hI =>
        obtain ⟨-, -, -, hs1, hr, he, hth⟩ := hI
        refine And.intro (fun _ => ?_) (fun (h : ¬ nI 0 ≤ 0) => absurd (by decide) h)
        cases n with
        | zero => simp [rmS] at hr
        | succ n =>
          simp only [rmS, Option.some.injEq] at hr
          subst hr
          exact hP9 σ' (by rw [hth]; rfl) he
      | .inl (y :: K, s1, L, n), hI =>
        obtain ⟨⟨⟨z, hyz, hz, hzh⟩, hoK⟩, ⟨hy, hSK⟩, hL, hs1, hr, he, hth⟩ := hI
        have hz1 := (hwf.2 _ (vp_lt hz.1)).2.1.1
        have hz60 := vp_mono hz.1 h60
        have e1 : nI (K.length + 1) + (-1) = nI K.length := pk_m1 _
        have hcl : ix (nI (K.length + 1) + (-1)) = K.length := by rw [e1]; exact nI_clamp (by omega)
        have hvp : vp_in (nI (K.length + 1) + (-1)) 64 := by rw [e1]; exact vp_in_nI (by omega) (by decide)
        have hrd : rd σ' 33 0 (ix (nI (K.length + 1) + (-1))) = y := by rw [hcl]; exact hy
        cases n with
        | zero => simp [rmS] at hr
        | succ n =>
          rw [rmS_dsp] at hr
          refine And.intro (fun (h : nI (K.length + 1) ≤ 0) => absurd h (nI_nle (by omega) (by omega))) (fun _ => ?_)
          refine And.intro hvp (And.intro (show ¬ (100 : Int32) = 0 by decide) (And.intro hvp ?_))
          have hm : m100 y = z := by
            rcases hyz with rfl | ⟨rfl, -⟩
            · exact (m100_n hz60).1
            · exact (m100_r hz60).1
          rw [hm] at hr
          have goon : ∀ (L1 : Nat) (v5 v8 : Int32), v5 = nI (fn - L1) → L1 ≤ fn → dsp t n z K s1 L1 = some res → cutC rnPc (rnL fn) (rnI t nn fn res σ) rnM (fun q => q < 2 * (n + 1)) 129 [some (aR 11 0), none, none, some (aI (nI fn)), some (aI s1), some (aI v5), some (aI (nI (K.length + 1) + (-1))), some (aI (m100 (rd σ' 33 0 (ix (nI (K.length + 1) + (-1)))))), some (aI v8)] [] σ' := by
            intro L1 v5 v8 hv5 hL1 hdsp
            subst hv5
            exact ⟨.inr (z, K, s1, L1, n), rfl, ⟨rfl, rfl, rfl, rfl, by rw [e1]; rfl, by rw [hrd, hm]; rfl, trivial⟩, rfl, ⟨hz, hzh, hoK, hSK, hL1, hs1, hdsp, he, hth⟩, by show 2 * n + 1 < 2 * (n + 1); omega⟩
          rcases hyz with e | ⟨e, -⟩
          · subst e
            have hlo := (m100_n hz60).2
            refine And.intro (fun (h : 100 ≤ rd σ' 33 0 (ix (nI (K.length + 1) + (-1)))) => absurd hlo (Int32.not_lt.mpr (by rw [hrd] at h; exact h))) (fun _ => ?_)
            refine And.intro (fun (h : (1 : Int32) = 0) => absurd h (by decide)) (fun _ => ?_)
            have hL5 : nI (fn - L) = nI fn ↔ L = 0 := by rw [nI_eq (by omega) (by omega)]; omega
            refine And.intro (fun (h : ¬ nI (fn - L) = nI fn) => ?_) (fun (h : nI (fn - L) = nI fn) => ?_)
            · refine And.intro (fun (h : (1 : Int32) = 0) => absurd h (by decide)) (fun _ => ?_)
              have hL0 : ¬ L = 0 := fun z => h (hL5.mpr z)
              rw [if_neg (fun z => hL0 z.2), if_pos hlo] at hr
              exact goon (L - 1) (nI (fn - L) + 1) 1 (by rw [nI_1, show fn - L + 1 = fn - (L - 1) by omega]) (by omega) hr
            · have hL0 : L = 0 := hL5.mp h
              rw [if_pos ⟨hlo, hL0⟩] at hr
              have hres : res = none := (Option.some.inj hr).symm
              have := hP9 (wr σ' 11 0 0 2) (by rw [hres]; rfl) (he.pf (by decide))
              rw [hres] at this
              exact this
          · subst e
            have hhi := (m100_r hz60).2
            refine And.intro (fun _ => ?_) (fun (h : ¬ 100 ≤ rd σ' 33 0 (ix (nI (K.length + 1) + (-1)))) => absurd (Int32.not_lt.mp hhi) (by rw [hrd] at h; exact h))
            refine And.intro (fun _ => ?_) (fun (h : ¬ (0 : Int32) = 0) => absurd rfl h)
            refine And.intro (fun _ => ?_) (fun (h : ¬ (0 : Int32) = 0) => absurd rfl h)
            rw [if_neg (fun z => hhi z.1), if_neg hhi] at hr
            exact goon L _ _ rfl hL hr
      | .inr (z, K, s1, L, n), hI =>
        obtain ⟨hz, hzh, hoK, hSK, hL, hs1, hr, he, hth⟩ := hI
        obtain ⟨hM1, ht1, hn1⟩ := MI_eqf he (by decide) (by decide) hM
        rw [← ht] at ht1
        rw [← hnn] at hn1
        have hz60 := vp_mono hz.1 h60
        have hzl := vp_lt hz.1
        have hw := hwf.2 _ hzl
        have hz1 := hw.2.1.1
        have hvK : ∀ d, d ≤ 1 → vp_in (nI (K.length + d)) 64 := fun d hd => vp_in_nI (by omega) (by decide)
        have hcK : ix (nI K.length) = K.length := nI_clamp (by omega)
        have hkd : tM σ' 0 (ix z) = t 0 (ix z) := by rw [ht1]
        have back : ∀ (K1 : List Int32) (s2 : Int32) (v7 : Int32) (σ2 : Mem) (v6 : Int32), v6 = nI K1.length → okK t nn K1 → SK σ2 K1 → rng s2 → rmS t n K1 s2 L = some res → eqf [18, 33] [0] σ' σ2 → rd σ2 11 0 0 = 0 → cutC rnPc (rnL fn) (rnI t nn fn res σ) rnM (fun q => q < 2 * n + 1) 57 [some (aR 11 0), none, none, some (aI (nI fn)), some (aI s2), some (aI (nI (fn - L))), some (aI v6), some (aI v7), none] [] σ2 := by
          intro K1 s2 v7 σ2 v6 hv6 ho1 hk1 hs2 hr1 he1 hth2
          subst hv6
          exact ⟨.inl (K1, s2, L, n), rfl, ⟨rfl, rfl, rfl, rfl, rfl, trivial⟩, rfl, ⟨ho1, hk1, hL, hs2, hr1, he.trans he1, hth2⟩, by show 2 * n < 2 * n + 1; omega⟩
        have hpu : ∀ (σ0 : Mem) (v : Int32), SK σ0 K → SK (wr σ0 33 0 (ix (nI K.length)) v) (v :: K) := fun σ0 v h => by rw [hcK]; exact SK_push h
        have hpu2 : ∀ (σ0 : Mem) (v w : Int32), SK σ0 (w :: K) → SK (wr σ0 33 0 (ix (nI K.length + 1)) v) (v :: w :: K) := fun σ0 v w h => by
          rw [nI_1, show ix (nI (K.length + 1)) = K.length + 1 from nI_clamp (by omega)]; exact SK_push (K := w :: K) h
        have hv1 : vp_in (nI K.length + 1) 64 := by rw [nI_1]; exact hvK 1 (by omega)
        obtain ⟨⟨hk0, hk15⟩, -, -, -, -, h12, -, -, h13, h14, h15⟩ := hw
        unfold dsp at hr
        refine And.intro hz60 ?_
        refine And.intro (fun (hne12 : ¬ tM σ' 0 (ix z) = 12) => ?_) (fun (e : tM σ' 0 (ix z) = 12) => ?_)
        rotate_left
        · -- a change
          rw [hkd] at e
          rw [if_pos e] at hr
          refine And.intro hM1 (And.intro (by rw [ht1, hn1]; exact ⟨hz.1, by rw [e]; decide, by rw [e]; decide⟩) (fun σ2 he2 => ?_))
          rw [ht1]
          exact back K _ z σ2 _ rfl hoK (SK_eq (fun k => he2.1 33 0 k (by decide)) hSK) (chg_rng hs1 (h12 e).1 (h12 e).2) hr (he2.f (by decide)) ((he2.1 11 0 0 (by decide)).trans hth)
        rw [hkd] at hne12
        rw [if_neg hne12] at hr
        refine And.intro hz60 ?_
        refine And.intro (fun (hne13 : ¬ tM σ' 0 (ix z) = 13) => ?_) (fun (e : tM σ' 0 (ix z) = 13) => ?_)
        rotate_left
        · -- then
          rw [hkd] at e
          rw [if_pos e] at hr
          obtain ⟨ca, cb⟩ := h13 e
          refine And.intro hz60 (And.intro (hvK 0 (by omega)) (And.intro hz60 (And.intro hv1 ?_)))
          have ea : rd σ' 13 0 (ix z) = t 1 (ix z) := congrFun (congrFun ht1 1) (ix z)
          have eb : rd σ' 14 0 (ix z) = t 2 (ix z) := congrFun (congrFun ht1 2) (ix z)
          refine back (t 1 (ix z) :: t 2 (ix z) :: K) s1 z _ _ (by rw [show (2 : Int32) = nI 2 from rfl, nI_add]; rfl) ⟨⟨_, Or.inl rfl, ca.isN (by omega), by have := ca.2.2.2; simp only [List.length_cons]; omega⟩, ⟨_, Or.inl rfl, cb.isN (by omega), by have := cb.2.2.2; omega⟩, hoK⟩ ?_ hs1 hr (((eqf.refl _ _ _).pg (by decide)).pg (by decide)) hth
          rw [← ea, ← eb]
          exact hpu2 _ _ _ (hpu _ _ hSK)
        rw [hkd] at hne13
        rw [if_neg hne13] at hr
        refine And.intro hz60 ?_
        refine And.intro (fun (hne14 : ¬ tM σ' 0 (ix z) = 14) => ?_) (fun (e : tM σ' 0 (ix z) = 14) => ?_)
        rotate_left
        · -- a choice
          rw [hkd] at e
          rw [if_pos e] at hr
          obtain ⟨ca, cb, cc3⟩ := h14 e
          have ea : rd σ' 13 0 (ix z) = t 1 (ix z) := congrFun (congrFun ht1 1) (ix z)
          refine And.intro hz60 (And.intro hM1 (And.intro (by rw [ht1, hn1]; show isN t nn 5 10 (rd σ' 13 0 (ix z)); rw [ea]; exact ca.isN (by omega)) (fun σ2 he2 => ?_)))
          have hSK2 := SK_eq (fun k => he2.1 33 0 k (by decide)) hSK
          have hth2 := (he2.1 11 0 0 (by decide)).trans hth
          have eb : rd σ2 14 0 (ix z) = t 2 (ix z) := (he2.1 14 0 _ (by decide)).trans (congrFun (congrFun ht1 2) (ix z))
          have ec : rd σ2 15 0 (ix z) = t 3 (ix z) := (he2.1 15 0 _ (by decide)).trans (congrFun (congrFun ht1 3) (ix z))
          refine And.intro (fun (h3 : EV (tM σ') s1 (ix (rd σ' 13 0 (ix z))) = 0) => ?_) (fun (h3 : ¬ EV (tM σ') s1 (ix (rd σ' 13 0 (ix z))) = 0) => ?_)
          · rw [ht1, ea] at h3
            rw [if_pos h3] at hr
            refine And.intro hz60 (And.intro (hvK 0 (by omega)) ?_)
            refine back (t 3 (ix z) :: K) s1 z _ _ (nI_1 _) ⟨⟨_, Or.inl rfl, cc3.isN (by omega), by have := cc3.2.2.2; omega⟩, hoK⟩ ?_ hs1 hr ((he2.f (by decide)).pg (by decide)) hth2
            rw [← ec]
            exact hpu _ _ hSK2
          · rw [ht1, ea] at h3
            rw [if_neg h3] at hr
            refine And.intro hz60 (And.intro (hvK 0 (by omega)) ?_)
            refine back (t 2 (ix z) :: K) s1 z _ _ (nI_1 _) ⟨⟨_, Or.inl rfl, cb.isN (by omega), by have := cb.2.2.2; omega⟩, hoK⟩ ?_ hs1 hr ((he2.f (by decide)).pg (by decide)) hth2
            rw [← eb]
            exact hpu _ _ hSK2
        rw [hkd] at hne14
        rw [if_neg hne14] at hr
        refine And.intro hz60 ?_
        refine And.intro (fun (hne15 : ¬ tM σ' 0 (ix z) = 15) => ?_) (fun (e : tM σ' 0 (ix z) = 15) => ?_)
        · rw [hkd] at hne15
          rw [if_neg (fun w => hne15 w.1)] at hr
          exact back K s1 z σ' _ rfl hoK hSK hs1 hr (eqf.refl _ _ _) hth
        rw [hkd] at e
        obtain ⟨ca, -, cc3⟩ := h15 e
        have ea : rd σ' 13 0 (ix z) = t 1 (ix z) := congrFun (congrFun ht1 1) (ix z)
        refine And.intro hz60 (And.intro hM1 (And.intro (by rw [ht1, hn1]; show isN t nn 5 10 (rd σ' 13 0 (ix z)); rw [ea]; exact ca.isN (by omega)) (fun σ2 he2 => ?_)))
        have hSK2 := SK_eq (fun k => he2.1 33 0 k (by decide)) hSK
        have hth2 := (he2.1 11 0 0 (by decide)).trans hth
        have ec : rd σ2 15 0 (ix z) = t 3 (ix z) := (he2.1 15 0 _ (by decide)).trans (congrFun (congrFun ht1 3) (ix z))
        refine And.intro (fun (h3 : EV (tM σ') s1 (ix (rd σ' 13 0 (ix z))) = 0) => ?_) (fun (h3 : ¬ EV (tM σ') s1 (ix (rd σ' 13 0 (ix z))) = 0) => ?_)
        · rw [ht1, ea] at h3
          rw [if_neg (fun w => w.2 h3)] at hr
          exact back K s1 z σ2 _ rfl hoK hSK2 hs1 hr (he2.f (by decide)) hth2
        · rw [ht1, ea] at h3
          rw [if_pos ⟨e, h3⟩] at hr
          refine And.intro (hvK 0 (by omega)) (And.intro hz60 (And.intro hv1 ?_))
          refine back (t 3 (ix z) :: (100 + z) :: K) s1 z _ _ (by rw [show (2 : Int32) = nI 2 from rfl, nI_add]; rfl) ⟨⟨_, Or.inl rfl, cc3.isN (by omega), by have := cc3.2.2.2; simp only [List.length_cons]; omega⟩, ⟨z, Or.inr ⟨rfl, e⟩, hz, hzh⟩, hoK⟩ ?_ hs1 hr (((he2.f (by decide)).pg (by decide)).pg (by decide)) hth2
          rw [← ec]
          exact hpu2 _ _ _ (hpu _ _ hSK2)
    · refine And.intro hM0.1 ?_
      have hx0 : isN (tM (wr σ 11 0 0 0)) (nM (wr σ 11 0 0 0)) 11 15 x := by rw [ht0, hn0, ← ht, ← hnn]; exact hx
      refine And.intro (fun h => absurd hx0 (b01_0 h)) (fun _ => ?_)
      refine And.intro (fun h => absurd hs (b01_0 h)) (fun _ => ?_)
      refine And.intro (fun _ => ?_) (fun h => absurd (And.intro hf1 hf2) (b01_0 h))
      refine And.intro (show vp_in 0 64 by exact vp_in_nI (n := 0) (by decide) (by decide)) ?_
      refine ⟨.inl ([x], s, fn, n0), rfl, ⟨rfl, rfl, rfl, by rw [Nat.sub_self]; rfl, rfl, trivial⟩, rfl, ⟨⟨⟨x, Or.inl rfl, hx, (hwf.2 _ (vp_lt hx.1)).2.1.2⟩, trivial⟩, ⟨rfl, trivial⟩, Nat.le_refl _, hs, hrun, he0.pg (by decide), rfl⟩, trivial⟩
