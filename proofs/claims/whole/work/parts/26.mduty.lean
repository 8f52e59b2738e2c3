/-! THE REFERENCE GATHERS DUTIES -/
theorem dutL_eq {t : Tbl} {n : Nat} (hw : WF t n) : ∀ (d d' : Nat) (x : Int32) (K : List Int32) (g : Int32), isN t n 11 15 x → hN t (ix x) ≤ d → hN t (ix x) ≤ d' → dutL t d x K g = dutL t d' x K g := by
  intro d
  induction d with
  | zero => intro d' x K g hx hd _; have := (hw.2 _ (vp_lt hx.1)).2.1.1; omega
  | succ d ih =>
    intro d' x K g hx hd hd'
    cases d' with
    | zero => have := (hw.2 _ (vp_lt hx.1)).2.1.1; omega
    | succ d' =>
      have hlt := vp_lt hx.1
      obtain ⟨-, -, -, -, -, -, -, -, h13, h14, h15⟩ := hw.2 _ hlt
      unfold dutL
      by_cases h1 : t 0 (ix x) = 13
      · obtain ⟨ca, cb⟩ := h13 h1
        have := ca.2.2.2
        have := cb.2.2.2
        rw [if_pos h1, if_pos h1, ih d' _ _ _ (ca.isN (by omega)) (by omega) (by omega), ih d' _ _ _ (cb.isN (by omega)) (by omega) (by omega)]
      · rw [if_neg h1, if_neg h1]
        by_cases h2 : t 0 (ix x) = 14
        · obtain ⟨-, cb, cc⟩ := h14 h2
          have := cc.2.2.2
          have := cb.2.2.2
          rw [if_pos h2, if_pos h2, ih d' _ _ _ (cc.isN (by omega)) (by omega) (by omega), ih d' _ _ _ (cb.isN (by omega)) (by omega) (by omega)]
        · rw [if_neg h2, if_neg h2]
          by_cases h3 : t 0 (ix x) = 15
          · obtain ⟨-, -, cc⟩ := h15 h3
            have := cc.2.2.2
            rw [if_pos h3, if_pos h3, ih d' _ _ _ (cc.isN (by omega)) (by omega) (by omega)]
          · rw [if_neg h3, if_neg h3]
/-- a target: the commands that lead to a goal, as a chain of places -/
def TG (σ : Mem) (gc gb : Nat) : List Int32 → Int32 → Nat → Prop
  | [], g, τ => rd σ gc 0 τ = -1 ∧ rd σ gb 0 τ = g
  | x :: K, g, τ => rd σ gc 0 τ = x ∧ ∃ τ', τ' < τ ∧ rd σ gb 0 τ = nI τ' ∧ TG σ gc gb K g τ'
theorem TG_eq {σ σ' : Mem} {gc gb gc' gb' T : Nat} (h : ∀ k, k < T → rd σ' gc' 0 k = rd σ gc 0 k ∧ rd σ' gb' 0 k = rd σ gb 0 k) : ∀ {K : List Int32} {g : Int32} {τ : Nat}, τ < T → TG σ gc gb K g τ → TG σ' gc' gb' K g τ
  | [], _, τ, hτ, ht => ⟨(h τ hτ).1.trans ht.1, (h τ hτ).2.trans ht.2⟩
  | _ :: _, _, τ, hτ, ⟨h1, τ', hl, h2, h3⟩ => ⟨(h τ hτ).1.trans h1, τ', hl, (h τ hτ).2.trans h2, TG_eq h (by omega) h3⟩
def MR (σ : Mem) (gp ga gt gc gb T i : Nat) (D : Duty) : Prop := rd σ gp 0 i = D.1 ∧ rd σ ga 0 i = D.2.1 ∧ ∃ τ, τ < T ∧ rd σ gt 0 i = nI τ ∧ TG σ gc gb D.2.2.1 D.2.2.2 τ
abbrev OI : Type := Int32 × List Int32 × Int32 × Nat
def OKs (t : Tbl) (nn : Nat) (σ : Mem) (T : Nat) : List OI → Prop
  | [] => True
  | q :: O => rd σ 29 0 O.length = q.1 ∧ rd σ 30 0 O.length = nI q.2.2.2 ∧ q.2.2.2 < T ∧ TG σ 27 28 q.2.1 q.2.2.1 q.2.2.2 ∧ isN t nn 11 15 q.1 ∧ OKs t nn σ T O
theorem OKs_eq {t : Tbl} {nn : Nat} {σ σ' : Mem} {T T' : Nat} (hT : T ≤ T') (h : ∀ k, k < T → rd σ' 27 0 k = rd σ 27 0 k ∧ rd σ' 28 0 k = rd σ 28 0 k) : ∀ {O : List OI}, (∀ k, k < O.length → rd σ' 29 0 k = rd σ 29 0 k ∧ rd σ' 30 0 k = rd σ 30 0 k) → OKs t nn σ T O → OKs t nn σ' T' O
  | [], _, _ => trivial
  | q :: O, hk, ⟨a, b, c, d, e, f⟩ => ⟨(hk _ (by simp only [List.length_cons]; omega)).1.trans a, (hk _ (by simp only [List.length_cons]; omega)).2.trans b, by omega, TG_eq h c d, e, OKs_eq hT h (fun k hl => hk k (by simp only [List.length_cons]; omega)) f⟩
def wO (t : Tbl) : List OI → Nat
  | [] => 0
  | q :: O => (2 ^ (hN t (ix q.1) + 1) - 1) + wO t O
def flatO (t : Tbl) : List OI → List Duty
  | [] => []
  | q :: O => dutL t 6 q.1 q.2.1 q.2.2.1 ++ flatO t O
theorem wO_len {t : Tbl} {nn : Nat} (hw : WF t nn) {σ : Mem} {T : Nat} : ∀ {O : List OI}, OKs t nn σ T O → 3 * O.length ≤ wO t O
  | [], _ => Nat.le_refl _
  | q :: O, h => by
    have h1 := (hw.2 _ (vp_lt h.2.2.2.2.1.1)).2.1.1
    have h2 := wO_len hw h.2.2.2.2.2
    have h3 : 2 ^ 2 ≤ 2 ^ (hN t (ix q.1) + 1) := Nat.pow_le_pow_right (by decide) (by omega)
    simp only [List.length_cons, wO]
    omega
theorem pw {a b : Nat} (h : a < b) : 2 ^ (a + 1) ≤ 2 ^ b := Nat.pow_le_pow_right (by decide) (by omega)
theorem pw2 (b : Nat) : 2 ^ (b + 1) = 2 * 2 ^ b ∧ 1 ≤ 2 ^ b := ⟨by rw [Nat.pow_succ]; omega, Nat.one_le_two_pow⟩
def ntM (σ : Mem) (c nx : Int32) : Mem := wr (wr (wr σ 27 0 (ix (rd σ 11 0 17)) c) 28 0 (ix (rd σ 11 0 17)) nx) 11 0 17 (rd σ 11 0 17 + 1)
def dtM (σ : Mem) (hw nd go : Int32) : Mem := wr (wr (wr (wr σ 24 0 (ix (rd σ 11 0 16)) hw) 25 0 (ix (rd σ 11 0 16)) nd) 26 0 (ix (rd σ 11 0 16)) go) 11 0 16 (rd σ 11 0 16 + 1)
def opM (σ : Mem) (dp c tt : Int32) : Mem := wr (wr σ 29 0 (ix dp) c) 30 0 (ix dp) tt
def S_newTarget : SpecT := fun av σ Φ => match av with
  | [Sum.inr (Sum.inr (Sum.inr q)), Sum.inl c, Sum.inl nx] => thisM q 11 (vp_in (rd σ 11 0 17) 400 ∧ Φ (some (aI (rd σ 11 0 17 + 1 - 1))) (ntM σ c nx))
  | _ => False
set_option maxRecDepth 100000 in
theorem c_newTarget (l : Launch) : Con l yX5_newTarget cX5_newTarget 3 (some .int) 3 0 S_newTarget := by
  refine Con.of (by decide) (by decide) ?_
  intro p e s s0 a0 m args below meth c D ad cA A av σ Φ hlen hS hr X
  match av, hS with
  | [Sum.inr (Sum.inr (Sum.inr q)), Sum.inl c0, Sum.inl nx], hS =>
    obtain ⟨rfl, hS⟩ := thisM_out hS
    refine wp_sound (ps := []) (C := fun _ _ _ _ => False) (tk_X5_newTarget X hr) (fun _ _ _ _ h => h.elim) 400 _ _ _ _ ?_
    exact And.intro hS.1 (And.intro hS.1 hS.2)
def S_dutyM : SpecT := fun av σ Φ => match av with
  | [Sum.inr (Sum.inr (Sum.inr q)), Sum.inl hw, Sum.inl nd, Sum.inl go] => thisM q 11 (vp_in (rd σ 11 0 16) 20 ∧ Φ none (dtM σ hw nd go))
  | _ => False
set_option maxRecDepth 100000 in
theorem c_dutyM (l : Launch) : Con l yX5_duty cX5_duty 4 none 4 0 S_dutyM := by
  refine Con.of (by decide) (by decide) ?_
  intro p e s s0 a0 m args below meth c D ad cA A av σ Φ hlen hS hr X
  match av, hS with
  | [Sum.inr (Sum.inr (Sum.inr q)), Sum.inl hw, Sum.inl nd, Sum.inl go], hS =>
    obtain ⟨rfl, hS⟩ := thisM_out hS
    refine wp_sound (ps := []) (C := fun _ _ _ _ => False) (tk_X5_duty X hr) (fun _ _ _ _ h => h.elim) 400 _ _ _ _ ?_
    have h20 : ¬ 20 ≤ rd σ 11 0 16 := by
      have := (vp_in_iff.mp hS.1).2
      intro z
      have z := Int32.le_iff_toInt_le.mp z
      have e : (20 : Int32).toInt = 20 := by decide
      omega
    exact And.intro (fun h => absurd h h20) (fun _ => And.intro hS.1 (And.intro hS.1 (And.intro hS.1 hS.2)))
def S_openM : SpecT := fun av σ Φ => match av with
  | [Sum.inr (Sum.inr (Sum.inr q)), Sum.inl dp, Sum.inl c, Sum.inl tt] => thisM q 11 (vp_in dp 100 ∧ Φ (some (aI (dp + 1))) (opM σ dp c tt))
  | _ => False
set_option maxRecDepth 100000 in
theorem c_openM (l : Launch) : Con l yX5_open cX5_open 4 (some .int) 4 0 S_openM := by
  refine Con.of (by decide) (by decide) ?_
  intro p e s s0 a0 m args below meth c D ad cA A av σ Φ hlen hS hr X
  match av, hS with
  | [Sum.inr (Sum.inr (Sum.inr q)), Sum.inl dp, Sum.inl c0, Sum.inl tt], hS =>
    obtain ⟨rfl, hS⟩ := thisM_out hS
    refine wp_sound (ps := []) (C := fun _ _ _ _ => False) (tk_X5_open X hr) (fun _ _ _ _ h => h.elim) 400 _ _ _ _ ?_
    exact And.intro hS.1 (And.intro hS.1 hS.2)
/-- the reference at work on new duties: those that are laid, those that are still to be gathered -/
def MC (t : Tbl) (nn : Nat) (σ0 σ : Mem) (T : Nat) (Ds : List Duty) (O : List OI) : Prop :=
  eqf [24, 25, 26, 27, 28, 29, 30] [16, 17] σ0 σ ∧ rd σ 11 0 17 = nI T ∧ rd σ 11 0 16 = nI Ds.length ∧ (∀ (i : Nat) (D : Duty), Ds[i]? = some D → MR σ 24 25 26 27 28 T i D) ∧ OKs t nn σ T O
theorem eqf_nt {σ : Mem} {c nx : Int32} : eqf [24, 25, 26, 27, 28, 29, 30] [16, 17] σ (ntM σ c nx) := (((eqf.refl _ _ _).pg (by decide)).pg (by decide)).pf (by decide)
theorem eqf_dt {σ : Mem} {a b c : Int32} : eqf [24, 25, 26, 27, 28, 29, 30] [16, 17] σ (dtM σ a b c) := ((((eqf.refl _ _ _).pg (by decide)).pg (by decide)).pg (by decide)).pf (by decide)
theorem eqf_op {σ : Mem} {a b c : Int32} : eqf [24, 25, 26, 27, 28, 29, 30] [16, 17] σ (opM σ a b c) := ((eqf.refl _ _ _).pg (by decide)).pg (by decide)
/-- a new target -/
theorem nt_ok {σ : Mem} {T : Nat} {c nx : Int32} (hT : rd σ 11 0 17 = nI T) (h4 : T < 400) : rd (ntM σ c nx) 11 0 17 = nI (T + 1) ∧ rd (ntM σ c nx) 27 0 T = c ∧ rd (ntM σ c nx) 28 0 T = nx ∧ (∀ k, k < T → rd (ntM σ c nx) 27 0 k = rd σ 27 0 k ∧ rd (ntM σ c nx) 28 0 k = rd σ 28 0 k) ∧ (∀ g k, ¬ g = 27 → ¬ g = 28 → (g = 11 → ¬ k = 17) → rd (ntM σ c nx) g 0 k = rd σ g 0 k) ∧ rd σ 11 0 17 + 1 - 1 = nI T ∧ vp_in (rd σ 11 0 17) 400 := by
  have hc : ix (nI T) = T := nI_clamp (by omega)
  unfold ntM
  rw [hT, hc]
  refine ⟨by rw [nI_1]; rfl, by rw [rd_wr, if_neg (by omega), rd_wr, if_neg (by omega), rd_wr, if_pos ⟨rfl, rfl, rfl⟩], ?_, fun k hk => ⟨?_, ?_⟩, fun g k h1 h2 h3 => ?_, by rw [nI_1, nI_pred], vp_in_nI h4 (by decide)⟩
  · rw [rd_wr, if_neg (by omega), rd_wr, if_pos ⟨rfl, rfl, rfl⟩]
  · rw [rd_wr, if_neg (by omega), rd_wr, if_neg (by omega), rd_wr, if_neg (by omega)]
  · rw [rd_wr, if_neg (by omega), rd_wr, if_neg (by omega), rd_wr, if_neg (by omega)]
  · rw [rd_wr, if_neg (fun z => h3 z.1 z.2.2), rd_wr, if_neg (fun z => h2 z.1), rd_wr, if_neg (fun z => h1 z.1)]
theorem dt_ok {σ : Mem} {n : Nat} {a b c : Int32} (hn : rd σ 11 0 16 = nI n) (h4 : n < 20) : rd (dtM σ a b c) 11 0 16 = nI (n + 1) ∧ rd (dtM σ a b c) 24 0 n = a ∧ rd (dtM σ a b c) 25 0 n = b ∧ rd (dtM σ a b c) 26 0 n = c ∧ (∀ g k, (g = 24 ∨ g = 25 ∨ g = 26 → k < n) → (g = 11 → ¬ k = 16) → rd (dtM σ a b c) g 0 k = rd σ g 0 k) ∧ vp_in (rd σ 11 0 16) 20 := by
  have hc : ix (nI n) = n := nI_clamp (by omega)
  unfold dtM
  rw [hn, hc]
  refine ⟨by rw [nI_1]; rfl, by rw [rd_wr, if_neg (by omega), rd_wr, if_neg (by omega), rd_wr, if_neg (by omega), rd_wr, if_pos ⟨rfl, rfl, rfl⟩], ?_, ?_, fun g k h1 h3 => ?_, vp_in_nI h4 (by decide)⟩
  · rw [rd_wr, if_neg (by omega), rd_wr, if_neg (by omega), rd_wr, if_pos ⟨rfl, rfl, rfl⟩]
  · rw [rd_wr, if_neg (by omega), rd_wr, if_pos ⟨rfl, rfl, rfl⟩]
  · rw [rd_wr, if_neg (fun z => h3 z.1 z.2.2), rd_wr, if_neg (fun z => by have := h1 (Or.inr (Or.inr z.1)); omega), rd_wr, if_neg (fun z => by have := h1 (Or.inr (Or.inl z.1)); omega), rd_wr, if_neg (fun z => by have := h1 (Or.inl z.1); omega)]
theorem op_ok {σ : Mem} {n : Nat} {c tt : Int32} (h4 : n < 100) : rd (opM σ (nI n) c tt) 29 0 n = c ∧ rd (opM σ (nI n) c tt) 30 0 n = tt ∧ (∀ g k, (g = 29 ∨ g = 30 → k < n) → rd (opM σ (nI n) c tt) g 0 k = rd σ g 0 k) ∧ vp_in (nI n) 100 := by
  have hc : ix (nI n) = n := nI_clamp (by omega)
  unfold opM
  rw [hc]
  refine ⟨?_, ?_, fun g k h1 => ?_, vp_in_nI h4 (by decide)⟩
  · rw [rd_wr, if_neg (by omega), rd_wr, if_pos ⟨rfl, rfl, rfl⟩]
  · rw [rd_wr, if_pos ⟨rfl, rfl, rfl⟩]
  · rw [rd_wr, if_neg (fun z => by have := h1 (Or.inr z.1); omega), rd_wr, if_neg (fun z => by have := h1 (Or.inl z.1); omega)]
/-- a target more -/
theorem MD_nt {t : Tbl} {nn : Nat} {σ0 σ : Mem} {T : Nat} {Ds : List Duty} {O : List OI} {c nx : Int32} (h : MC t nn σ0 σ T Ds O) (h4 : T < 400) :
    MC t nn σ0 (ntM σ c nx) (T + 1) Ds O := by
  obtain ⟨h1, h2, h3, h5, h6⟩ := h
  obtain ⟨a1, a2, a3, a4, a5, a6, a7⟩ := nt_ok (c := c) (nx := nx) h2 h4
  refine ⟨h1.trans eqf_nt, a1, (a5 11 16 (by decide) (by decide) (fun _ => by decide)).trans h3, fun i D hi => ?_, OKs_eq (by omega) a4 (fun k _ => ⟨a5 29 k (by decide) (by decide) (fun z => absurd z (by decide)), a5 30 k (by decide) (by decide) (fun z => absurd z (by decide))⟩) h6⟩
  obtain ⟨b1, b2, τ, b3, b4, b5⟩ := h5 i D hi
  exact ⟨(a5 24 i (by decide) (by decide) (fun z => absurd z (by decide))).trans b1, (a5 25 i (by decide) (by decide) (fun z => absurd z (by decide))).trans b2, τ, by omega, (a5 26 i (by decide) (by decide) (fun z => absurd z (by decide))).trans b4, TG_eq a4 b3 b5⟩
/-- a duty more -/
theorem MD_dt {t : Tbl} {nn : Nat} {σ0 σ : Mem} {T : Nat} {Ds : List Duty} {O : List OI} {D : Duty} {τ : Nat} {a b c : Int32} (h : MC t nn σ0 σ T Ds O) (ha : a = D.1) (hb : b = D.2.1) (hc : c = nI τ) (h4 : Ds.length < 20) (hτ : τ < T) (hTG : TG σ 27 28 D.2.2.1 D.2.2.2 τ) :
    MC t nn σ0 (dtM σ a b c) T (Ds ++ [D]) O := by
  subst ha; subst hb; subst hc
  obtain ⟨h1, h2, h3, h5, h6⟩ := h
  obtain ⟨a1, a2, a3, a4, a5, a6⟩ := dt_ok (a := D.1) (b := D.2.1) (c := nI τ) h3 h4
  have ag : ∀ k, k < T → rd (dtM σ D.1 D.2.1 (nI τ)) 27 0 k = rd σ 27 0 k ∧ rd (dtM σ D.1 D.2.1 (nI τ)) 28 0 k = rd σ 28 0 k := fun k _ => ⟨a5 27 k (by omega) (by omega), a5 28 k (by omega) (by omega)⟩
  refine ⟨h1.trans eqf_dt, (a5 11 17 (by omega) (by omega)).trans h2, by rw [List.length_append]; exact a1, fun i D' hi => ?_, OKs_eq (Nat.le_refl _) ag (fun k _ => ⟨a5 29 k (by omega) (by omega), a5 30 k (by omega) (by omega)⟩) h6⟩
  by_cases hl : i < Ds.length
  · rw [List.getElem?_append_left hl] at hi
    obtain ⟨b1, b2, τ', b3, b4, b5⟩ := h5 i D' hi
    exact ⟨(a5 24 i (by omega) (by omega)).trans b1, (a5 25 i (by omega) (by omega)).trans b2, τ', b3, (a5 26 i (by omega) (by omega)).trans b4, TG_eq ag b3 b5⟩
  · have hlt := (List.getElem?_eq_some_iff.mp hi).1
    simp only [List.length_append, List.length_cons, List.length_nil] at hlt
    have : i = Ds.length := by omega
    subst this
    simp at hi
    subst hi
    exact ⟨a2, a3, τ, hτ, a4, TG_eq ag hτ hTG⟩
/-- a command more to be gathered -/
theorem MD_op {t : Tbl} {nn : Nat} {σ0 σ : Mem} {T : Nat} {Ds : List Duty} {O : List OI} {x : Int32} {K : List Int32} {g : Int32} {τ : Nat} {dp xx tt : Int32} (h : MC t nn σ0 σ T Ds O) (hdp : dp = nI O.length) (hxx : xx = x) (htt : tt = nI τ) (h4 : O.length < 100) (hτ : τ < T) (hTG : TG σ 27 28 K g τ) (hx : isN t nn 11 15 x) :
    MC t nn σ0 (opM σ dp xx tt) T Ds ((x, K, g, τ) :: O) := by
  have hxx := hxx.symm
  subst hdp; subst hxx; subst htt
  obtain ⟨h1, h2, h3, h5, h6⟩ := h
  obtain ⟨a1, a2, a3, a4⟩ := op_ok (σ := σ) (c := x) (tt := nI τ) h4
  have ag : ∀ k, k < T → rd (opM σ (nI O.length) x (nI τ)) 27 0 k = rd σ 27 0 k ∧ rd (opM σ (nI O.length) x (nI τ)) 28 0 k = rd σ 28 0 k := fun k _ => ⟨a3 27 k (by omega), a3 28 k (by omega)⟩
  refine ⟨h1.trans eqf_op, (a3 11 17 (by omega)).trans h2, (a3 11 16 (by omega)).trans h3, fun i D' hi => ?_, a1, a2, hτ, TG_eq ag hτ hTG, hx, OKs_eq (Nat.le_refl _) ag (fun k hk => ⟨a3 29 k (fun _ => hk), a3 30 k (fun _ => hk)⟩) h6⟩
  obtain ⟨b1, b2, τ', b3, b4, b5⟩ := h5 i D' hi
  exact ⟨(a3 24 i (by omega)).trans b1, (a3 25 i (by omega)).trans b2, τ', b3, (a3 26 i (by omega)).trans b4, TG_eq ag b3 b5⟩
