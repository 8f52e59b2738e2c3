/-! GATHERING DUTIES -/
def dutL (t : Tbl) : Nat → Int32 → List Int32 → Int32 → List Duty
  | 0, _, _, _ => []
  | d + 1, x, K, g =>
    if t 0 (ix x) = 13 then dutL t d (t 1 (ix x)) (t 2 (ix x) :: K) g ++ dutL t d (t 2 (ix x)) K g
    else if t 0 (ix x) = 14 then dutL t d (t 2 (ix x)) K g ++ dutL t d (t 3 (ix x)) K g
    else if t 0 (ix x) = 15 then (1, x, [t 3 (ix x)], t 2 (ix x)) :: (2, x, K, g) :: dutL t d (t 3 (ix x)) [] (t 2 (ix x))
    else []
def dn (t : Tbl) : Nat → Int32 → Nat
  | 0, _ => 0
  | d + 1, x =>
    if t 0 (ix x) = 13 then dn t d (t 1 (ix x)) + dn t d (t 2 (ix x))
    else if t 0 (ix x) = 14 then dn t d (t 2 (ix x)) + dn t d (t 3 (ix x))
    else if t 0 (ix x) = 15 then 2 + dn t d (t 3 (ix x))
    else 0
theorem dutL_len (t : Tbl) : ∀ (d : Nat) (x : Int32) (K : List Int32) (g : Int32), (dutL t d x K g).length = dn t d x
  | 0, _, _, _ => rfl
  | d + 1, x, K, g => by
    unfold dutL dn
    by_cases h1 : t 0 (ix x) = 13
    · rw [if_pos h1, if_pos h1, List.length_append, dutL_len t d, dutL_len t d]
    · rw [if_neg h1, if_neg h1]
      by_cases h2 : t 0 (ix x) = 14
      · rw [if_pos h2, if_pos h2, List.length_append, dutL_len t d, dutL_len t d]
      · rw [if_neg h2, if_neg h2]
        by_cases h3 : t 0 (ix x) = 15
        · rw [if_pos h3, if_pos h3, List.length_cons, List.length_cons, dutL_len t d]; omega
        · rw [if_neg h3, if_neg h3]; rfl
theorem dn_le (t : Tbl) : ∀ (d : Nat) (x : Int32), dn t d x + 2 ≤ 2 ^ (d + 1)
  | 0, _ => by simp [dn]
  | d + 1, x => by
    have h := dn_le t d
    have hp : 2 ^ (d + 1 + 1) = 2 * 2 ^ (d + 1) := by rw [Nat.pow_succ]; omega
    have hq : 2 ≤ 2 ^ (d + 1) := by have := h x; omega
    unfold dn
    rw [hp]
    split
    · have := h (t 1 (ix x)); have := h (t 2 (ix x)); omega
    · split
      · have := h (t 2 (ix x)); have := h (t 3 (ix x)); omega
      · split
        · have := h (t 3 (ix x)); omega
        · omega
/-- of the class's duties alone the rows from n on, what stands behind from top on, and their number may have changed -/
def eqG (n top : Nat) (σ σ' : Mem) : Prop := (∀ g i k, ¬ g = 8 → ¬ ((g = 36 ∨ g = 37) ∧ n ≤ i) → ¬ (g = 10 ∧ top ≤ k) → rd σ' g i k = rd σ g i k) ∧ σ'.2 = σ.2
theorem eqG.refl (n top : Nat) (σ : Mem) : eqG n top σ σ := ⟨fun _ _ _ _ _ _ => rfl, rfl⟩
theorem eqG.trans {n top n' top' m0 p0 : Nat} {σ σ' σ'' : Mem} (h1 : eqG n top σ σ') (h2 : eqG n' top' σ' σ'') (a : m0 ≤ n) (b : m0 ≤ n') (c : p0 ≤ top) (d : p0 ≤ top') : eqG m0 p0 σ σ'' :=
  ⟨fun g i k q1 q2 q3 => (h2.1 g i k q1 (fun z => q2 ⟨z.1, by omega⟩) (fun z => q3 ⟨z.1, by omega⟩)).trans (h1.1 g i k q1 (fun z => q2 ⟨z.1, by omega⟩) (fun z => q3 ⟨z.1, by omega⟩)), h2.2.trans h1.2⟩
theorem eqG.beh {n top k : Nat} {σ σ' : Mem} (h : eqG n top σ σ') {v : Int32} (hk : top ≤ k) : eqG n top σ (wr σ' 10 0 k v) := ⟨fun g i k' q1 q2 q3 => by
  have hne : ¬ (g = 10 ∧ i = 0 ∧ k' = k) := fun z => q3 ⟨z.1, by omega⟩
  rw [rd_wr, if_neg hne]
  exact h.1 g i k' q1 q2 q3, h.2⟩
theorem eqG.siz {n top k : Nat} {σ σ' : Mem} (h : eqG n top σ σ') {v : Int32} : eqG n top σ (wr σ' 8 0 k v) := ⟨fun g i k' q1 q2 q3 => by
  have hne : ¬ (g = 8 ∧ i = 0 ∧ k' = k) := fun z => q1 z.1
  rw [rd_wr, if_neg hne]
  exact h.1 g i k' q1 q2 q3, h.2⟩
theorem eqG.row {n top k i0 : Nat} {σ σ' : Mem} (h : eqG n top σ σ') {v : Int32} (hi : n ≤ i0) : eqG n top σ (wr σ' 36 i0 k v) := ⟨fun g i k' q1 q2 q3 => by
  have hne : ¬ (g = 36 ∧ i = i0 ∧ k' = k) := fun z => q2 ⟨Or.inl z.1, by omega⟩
  rw [rd_wr, if_neg hne]
  exact h.1 g i k' q1 q2 q3, h.2⟩
theorem eqG.cpy {n top i0 sp dp m0 : Nat} {σ σ' : Mem} (h : eqG n top σ σ') (hi : n ≤ i0) : eqG n top σ (cpm σ' 10 0 37 i0 sp dp m0) := ⟨fun g i k' q1 q2 q3 => by
  have hne : ¬ (g = 37 ∧ i = i0 ∧ dp ≤ k' ∧ k' < dp + m0) := fun z => q2 ⟨Or.inr z.1, by omega⟩
  rw [rd_cpm, if_neg hne]
  exact h.1 g i k' q1 q2 q3, h.2⟩
theorem CI_eqG {n top : Nat} {σ σ' : Mem} (h : eqG n top σ σ') (hC : CI σ) : CI σ' ∧ tC σ' = tC σ ∧ nC σ' = nC σ := by
  have ht : tC σ' = tC σ := by
    funext j k
    unfold tC
    split
    next hj => exact h.1 _ _ _ (by omega) (by omega) (by omega)
    next => rfl
  have e : rd σ' 1 0 5 = rd σ 1 0 5 := h.1 1 0 5 (by decide) (by omega) (by omega)
  have hn : nC σ' = nC σ := by unfold nC; rw [e]
  exact ⟨⟨⟨by rw [e, hn]; exact hC.1.1, by rw [hn]; exact hC.1.2⟩, by rw [ht, hn]; exact hC.2⟩, ht, hn⟩
theorem PL_eq {σ σ' : Mem} {i : Nat} (h : ∀ k, rd σ' 37 i k = rd σ 37 i k) : ∀ {K : List Int32}, PL σ i K → PL σ' i K
  | [], _ => trivial
  | _ :: _, hk => ⟨(h _).trans hk.1, PL_eq h hk.2⟩
theorem CR_eq {t : Tbl} {σ σ' : Mem} {i : Nat} {D : Duty} (h1 : ∀ k, rd σ' 36 i k = rd σ 36 i k) (h2 : ∀ k, rd σ' 37 i k = rd σ 37 i k) (h : CR t σ i D) : CR t σ' i D := by
  obtain ⟨a, b, c, d, e⟩ := h
  exact ⟨fun z => by rw [h1, h1]; exact a z, fun z => by rw [h1, h1, h1]; exact b z, by rw [h1]; exact c, by rw [h1]; exact d, PL_eq h2 e⟩
theorem DSt_add {top : Nat} {σ σ' : Mem} {Ds : List Duty} {D : Duty} (hD : DSt σ Ds) (he : eqG Ds.length top σ σ') (hsz : rd σ' 8 0 3 = nI (Ds.length + 1)) (h16 : Ds.length < 16) (hcr : CR (tC σ) σ' Ds.length D) (hv : vD (tC σ) (nC σ) D) : DSt σ' (Ds ++ [D]) := by
  obtain ⟨hC, ht, hn⟩ := CI_eqG he hD.1
  refine ⟨hC, by rw [List.length_append]; exact hsz, by rw [List.length_append]; simp only [List.length_cons, List.length_nil]; omega, fun i D' hi => ?_⟩
  rw [ht, hn]
  by_cases hl : i < Ds.length
  · rw [List.getElem?_append_left hl] at hi
    obtain ⟨q1, q2⟩ := hD.2.2.2 i D' hi
    exact ⟨CR_eq (fun k => he.1 36 i k (by decide) (by omega) (by omega)) (fun k => he.1 37 i k (by decide) (by omega) (by omega)) q1, q2⟩
  · have hlt := (List.getElem?_eq_some_iff.mp hi).1
    simp only [List.length_append, List.length_cons, List.length_nil] at hlt
    have : i = Ds.length := by omega
    subst this
    simp at hi
    subst hi
    exact ⟨hcr, hv⟩
/-- the commands that come behind, from place bot on, nearest last -/
def BK (σ : Mem) (bot : Nat) : List Int32 → Prop
  | [] => True
  | x :: K => rd σ 10 0 (bot + K.length) = x ∧ BK σ bot K
theorem BK_eq {σ σ' : Mem} {bot : Nat} : ∀ {K : List Int32}, (∀ k, k < bot + K.length → rd σ' 10 0 k = rd σ 10 0 k) → BK σ bot K → BK σ' bot K
  | [], _, _ => trivial
  | _ :: K, h, hk => ⟨(h _ (by simp only [List.length_cons]; omega)).trans hk.1, BK_eq (fun k hk' => h k (by simp only [List.length_cons]; omega)) hk.2⟩
theorem BK_PL {σ σ' : Mem} {bot i : Nat} : ∀ {K : List Int32}, (∀ k, k < K.length → rd σ' 37 i k = rd σ 10 0 (bot + k)) → BK σ bot K → PL σ' i K
  | [], _, _ => trivial
  | _ :: K, h, hk => ⟨(h _ (by simp only [List.length_cons]; omega)).trans hk.1, BK_PL (fun k hk' => h k (by simp only [List.length_cons]; omega)) hk.2⟩
def S_howManyOf (d : Nat) : SpecT := fun av σ Φ => match av with
  | [Sum.inr (Sum.inr (Sum.inr q)), Sum.inl x] => thisM q 8 (CI σ ∧ isN (tC σ) (nC σ) 11 15 x ∧ hN (tC σ) (ix x) ≤ d ∧ Φ (some (aI (nI (dn (tC σ) d x)))) σ)
  | _ => False
set_option maxRecDepth 100000 in
theorem c_howManyOf_s (l : Launch) (d : Nat) (ih : Con l yX0_howManyOf cX0_howManyOf 4 (some .int) 2 d (S_howManyOf d)) : Con l yX0_howManyOf cX0_howManyOf 4 (some .int) 2 (d + 1) (S_howManyOf (d + 1)) := by
  refine Con.of (by decide) (by decide) ?_
  intro p e s s0 a0 m args below meth c D ad cA A av σ Φ hlen hS hr X
  match av, hS with
  | [Sum.inr (Sum.inr (Sum.inr q)), Sum.inl x], hS =>
    obtain ⟨rfl, hS⟩ := thisM_out hS
    refine wp_sound (ps := []) (C := fun _ _ _ _ => False) (tk_X0_howManyOf X hr (ih) (by omega)) (fun _ _ _ _ h => h.elim) 400 _ _ _ _ ?_
    obtain ⟨hC, hx, hd, hS⟩ := hS
    have hlt := vp_lt hx.1
    have hv := vp_mono hx.1 hC.1.2
    have hw := hC.2.2 _ hlt
    have h6 := hw.2.1.2
    have hh1 := hw.2.1.1
    obtain ⟨⟨hk0, hk15⟩, -, -, -, -, -, -, -, h13, h14, h15⟩ := hw
    refine And.intro hv (And.intro hv (And.intro hv ?_))
    unfold dn at hS
    rcases i32_cases hk0 hk15 with e | e | e | e | e | e | e | e | e | e | e | e | e | e | e | e
    all_goals (try (exact absurd hx.2.1 (by rw [e]; decide)))
    · refine And.intro (fun (h : tC σ 0 (ix x) = 13) => absurd (e.symm.trans h) (by decide)) (fun _ => ?_)
      refine And.intro (fun (h : tC σ 0 (ix x) = 14) => absurd (e.symm.trans h) (by decide)) (fun _ => ?_)
      refine And.intro (fun (h : tC σ 0 (ix x) = 15) => absurd (e.symm.trans h) (by decide)) (fun _ => ?_)
      rw [if_neg (by rw [e]; decide), if_neg (by rw [e]; decide), if_neg (by rw [e]; decide)] at hS
      exact hS
    · refine And.intro (fun (h : tC σ 0 (ix x) = 13) => absurd (e.symm.trans h) (by decide)) (fun _ => ?_)
      refine And.intro (fun (h : tC σ 0 (ix x) = 14) => absurd (e.symm.trans h) (by decide)) (fun _ => ?_)
      refine And.intro (fun (h : tC σ 0 (ix x) = 15) => absurd (e.symm.trans h) (by decide)) (fun _ => ?_)
      rw [if_neg (by rw [e]; decide), if_neg (by rw [e]; decide), if_neg (by rw [e]; decide)] at hS
      exact hS
    · refine And.intro (fun _ => ?_) (fun (h : ¬ tC σ 0 (ix x) = 13) => absurd e h)
      rw [if_pos e, ← nI_add] at hS
      obtain ⟨ca, cb⟩ := h13 e
      have da : hN (tC σ) (ix (tC σ 1 (ix x))) ≤ d := by have := ca.2.2.2; omega
      have db : hN (tC σ) (ix (tC σ 2 (ix x))) ≤ d := by have := cb.2.2.2; omega
      exact And.intro hv (And.intro hC (And.intro (ca.isN (by omega)) (And.intro da (And.intro hC (And.intro (cb.isN (by omega)) (And.intro db hS))))))
    · refine And.intro (fun (h : tC σ 0 (ix x) = 13) => absurd (e.symm.trans h) (by decide)) (fun _ => ?_)
      refine And.intro (fun _ => ?_) (fun (h : ¬ tC σ 0 (ix x) = 14) => absurd e h)
      rw [if_neg (by rw [e]; decide), if_pos e, ← nI_add] at hS
      obtain ⟨-, cb, cc3⟩ := h14 e
      have db : hN (tC σ) (ix (tC σ 2 (ix x))) ≤ d := by have := cb.2.2.2; omega
      have dc : hN (tC σ) (ix (tC σ 3 (ix x))) ≤ d := by have := cc3.2.2.2; omega
      exact And.intro hC (And.intro (cb.isN (by omega)) (And.intro db (And.intro hC (And.intro (cc3.isN (by omega)) (And.intro dc hS)))))
    · refine And.intro (fun (h : tC σ 0 (ix x) = 13) => absurd (e.symm.trans h) (by decide)) (fun _ => ?_)
      refine And.intro (fun (h : tC σ 0 (ix x) = 14) => absurd (e.symm.trans h) (by decide)) (fun _ => ?_)
      refine And.intro (fun _ => ?_) (fun (h : ¬ tC σ 0 (ix x) = 15) => absurd e h)
      rw [if_neg (by rw [e]; decide), if_neg (by rw [e]; decide), if_pos e, ← nI_add] at hS
      obtain ⟨ca, cb, cc3⟩ := h15 e
      have dc : hN (tC σ) (ix (tC σ 3 (ix x))) ≤ d := by have := cc3.2.2.2; omega
      exact And.intro hC (And.intro (cc3.isN (by omega)) (And.intro dc hS))
theorem c_howManyOf (l : Launch) : ∀ d, Con l yX0_howManyOf cX0_howManyOf 4 (some .int) 2 d (S_howManyOf d)
  | 0 => Con.none (by
    intro av σ Φ hS
    match av, hS with
    | [Sum.inr (Sum.inr (Sum.inr q)), Sum.inl x], hS =>
      obtain ⟨rfl, hC, hx, hd, -⟩ := thisM_out hS
      have := (hC.2.2 _ (vp_lt hx.1)).2.1.1
      omega)
  | d + 1 => c_howManyOf_s l d (c_howManyOf l d)
def S_addD : SpecT := fun av σ Φ => match av with
  | [Sum.inr (Sum.inr (Sum.inr q)), Sum.inl a0, Sum.inl gd, Sum.inl w, Sum.inl b0, Sum.inl t0, Sum.inl g] => thisM q 8 (∃ (n bot : Nat) (K : List Int32), n < 16 ∧ rd σ 8 0 3 = nI n ∧ (w = 0 ∨ w = 1) ∧ b0 = nI bot ∧ t0 = nI (bot + K.length) ∧ bot + K.length ≤ 6 ∧ BK σ bot K ∧ ∀ σ', eqG n 6 σ σ' → rd σ' 8 0 3 = nI (n + 1) → rd σ' 36 n 0 = a0 → rd σ' 36 n 1 = gd → rd σ' 36 n 2 = w → rd σ' 36 n 4 = nI K.length → rd σ' 36 n 5 = g → PL σ' n K → Φ none σ')
  | _ => False
set_option maxRecDepth 100000 in
theorem c_addD (l : Launch) : Con l yX0_add cX0_add 8 none 7 2 S_addD := by
  refine Con.of (by decide) (by decide) ?_
  intro p e s s0 a0 m args below meth c D ad cA A av σ Φ hlen hS hr X
  match av, hS with
  | [Sum.inr (Sum.inr (Sum.inr q)), Sum.inl a0, Sum.inl gd, Sum.inl w, Sum.inl b0, Sum.inl t0, Sum.inl g], hS =>
    obtain ⟨rfl, hS⟩ := thisM_out hS
    refine wp_sound (ps := []) (C := fun _ _ _ _ => False) (tk_X0_add X hr (by omega) (by decide)) (fun _ _ _ _ h => h.elim) 400 _ _ _ _ ?_
    obtain ⟨n, bot, K, hn, hsz, hw01, rfl, rfl, h6, hBK, hS⟩ := hS
    have hv : vp_in (rd σ 8 0 3) 16 := by rw [hsz]; exact vp_in_nI hn (by decide)
    have hc : ix (rd σ 8 0 3) = n := by rw [hsz]; exact nI_clamp (by omega)
    have hl : ix (rd σ 8 0 3) < 16 := by rw [hc]; exact hn
    have esub : nI (bot + K.length) - nI bot = nI K.length := by rw [pk_sub (by omega)]; congr 1; omega
    have cb : ix (nI bot) = bot := nI_clamp (by omega)
    have cl9 : ix (nI (bot + K.length) - nI bot) = K.length := by rw [esub]; exact nI_clamp (by omega)
    refine And.intro hv ?_
    refine And.intro hl (And.intro hl (And.intro hl (And.intro hw01 (And.intro hl ?_))))
    refine And.intro hl ?_
    refine And.intro hl (And.intro (show ¬ nI bot < 0 from nI_pos (by omega)) (And.intro (show ¬ (0 : Int32) < 0 by decide) (And.intro (show ¬ nI (bot + K.length) - nI bot < 0 by rw [esub]; exact nI_pos (by omega)) (And.intro (show ix (nI bot) + ix (nI (bot + K.length) - nI bot) ≤ 6 by rw [cb, cl9]; exact h6) (And.intro (show ix 0 + ix (nI (bot + K.length) - nI bot) ≤ 6 by rw [cl9]; show 0 + K.length ≤ 6; omega) ?_)))))
    refine And.intro hl ?_
    refine hS _ ?_ ?_ ?_ ?_ ?_ ?_ ?_ ?_
    · refine eqG.siz (eqG.row (eqG.cpy (eqG.row (eqG.row (eqG.row (eqG.row (eqG.refl _ _ _) (Nat.le_of_eq hc.symm)) (Nat.le_of_eq hc.symm)) (Nat.le_of_eq hc.symm)) (Nat.le_of_eq hc.symm)) (Nat.le_of_eq hc.symm)) (Nat.le_of_eq hc.symm))
    · show rd σ 8 0 3 + 1 = nI (n + 1)
      rw [hsz, nI_1]
    · rw [← hc]
      simp [rd_wr, rd_cpm]
    · rw [← hc]
      simp [rd_wr, rd_cpm]
    · rw [← hc]
      simp [rd_wr, rd_cpm]
    · rw [← hc]
      simp [rd_wr, rd_cpm, esub]
    · rw [← hc]
      simp [rd_wr, rd_cpm]
    · refine BK_PL (σ := σ) (bot := bot) (fun k hk => ?_) hBK
      have hk2 : k < ix 0 + ix (nI (bot + K.length) - nI bot) := by rw [cl9]; show k < 0 + K.length; omega
      have e9 : ix (nI bot) + (k - ix 0) = bot + k := by rw [cb]; rfl
      rw [← hc]
      refine (rd_wr _ _ _ _ _ _ _ _).trans ((if_neg (fun z => absurd z.1 (by decide))).trans ?_)
      refine (rd_wr _ _ _ _ _ _ _ _).trans ((if_neg (fun z => absurd z.1 (by decide))).trans ?_)
      refine (rd_cpm _ _ _ _ _ _ _ _ _ _ _).trans ((if_pos ⟨rfl, rfl, Nat.zero_le _, hk2⟩).trans ?_)
      rw [← e9]
      rfl
def S_gather (d : Nat) : SpecT := fun av σ Φ => match av with
  | [Sum.inr (Sum.inr (Sum.inr q)), Sum.inl x, Sum.inl b0, Sum.inl t0, Sum.inl g] => thisM q 8 (∃ (Ds : List Duty) (bot : Nat) (K : List Int32), DSt σ Ds ∧ isN (tC σ) (nC σ) 11 15 x ∧ hN (tC σ) (ix x) ≤ d ∧ vK (tC σ) (nC σ) K ∧ isN (tC σ) (nC σ) 5 10 g ∧ b0 = nI bot ∧ t0 = nI (bot + K.length) ∧ BK σ bot K ∧ hN (tC σ) (ix x) + (bot + K.length) ≤ 6 ∧ Ds.length + dn (tC σ) d x ≤ 16 ∧ ∀ σ', eqG Ds.length (bot + K.length) σ σ' → DSt σ' (Ds ++ dutL (tC σ) d x K g) → Φ none σ')
  | _ => False
set_option maxRecDepth 100000 in
theorem c_gather_s (l : Launch) (d : Nat) (ih : Con l yX0_gather cX0_gather 8 none 5 (10 + d) (S_gather d)) : Con l yX0_gather cX0_gather 8 none 5 (10 + (d + 1)) (S_gather (d + 1)) := by
  refine Con.of (by decide) (by decide) ?_
  intro p e s s0 a0 m args below meth c D ad cA A av σ Φ hlen hS hr X
  match av, hS with
  | [Sum.inr (Sum.inr (Sum.inr q)), Sum.inl x, Sum.inl b0, Sum.inl t0, Sum.inl g], hS =>
    obtain ⟨rfl, hS⟩ := thisM_out hS
    refine wp_sound (ps := []) (C := fun _ _ _ _ => False) (tk_X0_gather X hr (ih) (by omega) (c_addD l) (by omega)) (fun _ _ _ _ h => h.elim) 400 _ _ _ _ ?_
    obtain ⟨Ds, bot, K, hDS, hx, hd, hvK, hg, rfl, rfl, hBK, hpos, h16, hS⟩ := hS
    have hC := hDS.1
    have hlt := vp_lt hx.1
    have hv := vp_mono hx.1 hC.1.2
    have hw := hC.2.2 _ hlt
    have h6 := hw.2.1.2
    have hh1 := hw.2.1.1
    obtain ⟨⟨hk0, hk15⟩, -, -, -, -, -, -, -, h13, h14, h15⟩ := hw
    have hct : ix (nI (bot + K.length)) = bot + K.length := nI_clamp (by omega)
    have hvt : vp_in (nI (bot + K.length)) 6 := vp_in_nI (by omega) (by decide)
    refine And.intro hv (And.intro hv (And.intro hv (And.intro hv ?_)))
    unfold dn at h16
    unfold dutL at hS
    rcases i32_cases hk0 hk15 with e | e | e | e | e | e | e | e | e | e | e | e | e | e | e | e
    all_goals (try (exact absurd hx.2.1 (by rw [e]; decide)))
    · refine And.intro (fun (h : tC σ 0 (ix x) = 13) => absurd (e.symm.trans h) (by decide)) (fun _ => ?_)
      refine And.intro (fun (h : tC σ 0 (ix x) = 14) => absurd (e.symm.trans h) (by decide)) (fun _ => ?_)
      refine And.intro (fun (h : tC σ 0 (ix x) = 15) => absurd (e.symm.trans h) (by decide)) (fun _ => ?_)
      rw [if_neg (by rw [e]; decide), if_neg (by rw [e]; decide), if_neg (by rw [e]; decide), List.append_nil] at hS
      exact hS σ (eqG.refl _ _ _) hDS
    · refine And.intro (fun (h : tC σ 0 (ix x) = 13) => absurd (e.symm.trans h) (by decide)) (fun _ => ?_)
      refine And.intro (fun (h : tC σ 0 (ix x) = 14) => absurd (e.symm.trans h) (by decide)) (fun _ => ?_)
      refine And.intro (fun (h : tC σ 0 (ix x) = 15) => absurd (e.symm.trans h) (by decide)) (fun _ => ?_)
      rw [if_neg (by rw [e]; decide), if_neg (by rw [e]; decide), if_neg (by rw [e]; decide), List.append_nil] at hS
      exact hS σ (eqG.refl _ _ _) hDS
    · refine And.intro (fun _ => ?_) (fun (h : ¬ tC σ 0 (ix x) = 13) => absurd e h)
      rw [if_pos e] at hS h16
      obtain ⟨ca, cb⟩ := h13 e
      have da : hN (tC σ) (ix (tC σ 1 (ix x))) ≤ d := by have := ca.2.2.2; omega
      have db : hN (tC σ) (ix (tC σ 2 (ix x))) ≤ d := by have := cb.2.2.2; omega
      have pa : hN (tC σ) (ix (tC σ 1 (ix x))) + (bot + (K.length + 1)) ≤ 6 := by have := ca.2.2.2; omega
      have pb : hN (tC σ) (ix (tC σ 2 (ix x))) + (bot + K.length) ≤ 6 := by have := cb.2.2.2; omega
      have na : Ds.length + dn (tC σ) d (tC σ 1 (ix x)) ≤ 16 := by omega
      have nb : Ds.length + dn (tC σ) d (tC σ 1 (ix x)) + dn (tC σ) d (tC σ 2 (ix x)) ≤ 16 := by omega
      refine And.intro hvt ?_
      generalize hσ1 : wr σ 10 (tix 10 0) (nI (bot + K.length)).toNatClampNeg (rd σ 4 (tix 4 (tix 1 0)) x.toNatClampNeg) = σ1
      have e0 : σ1 = wr σ 10 0 (ix (nI (bot + K.length))) (tC σ 2 (ix x)) := hσ1.symm
      have e1 := e0
      rw [hct] at e1
      have he1 : eqG Ds.length (bot + K.length) σ σ1 := by rw [e1]; exact (eqG.refl _ _ _).beh (Nat.le_refl _)
      obtain ⟨hC1, ht1, hn1⟩ := CI_eqG he1 hC
      have hDS1 : DSt σ1 Ds := ⟨hC1, by rw [e1]; exact hDS.2.1, hDS.2.2.1, fun i D hi => by
        have hil := (List.getElem?_eq_some_iff.mp hi).1
        obtain ⟨q1, q2⟩ := hDS.2.2.2 i D hi
        rw [ht1, hn1]
        exact ⟨CR_eq (fun k => he1.1 36 i k (by decide) (by omega) (by omega)) (fun k => he1.1 37 i k (by decide) (by omega) (by omega)) q1, q2⟩⟩
      have hBK1 : BK σ1 bot (tC σ 2 (ix x) :: K) := ⟨by rw [e1, rd_wr, if_pos ⟨rfl, rfl, rfl⟩], BK_eq (fun k hk => by rw [e1, rd_wr, if_neg (fun z => by have := z.2.2; omega)]) hBK⟩
      refine ⟨Ds, bot, tC σ 2 (ix x) :: K, hDS1, by rw [ht1, hn1]; exact ca.isN (by omega), by rw [ht1]; exact da, by rw [ht1, hn1]; exact fun y hy => (List.mem_cons.mp hy).elim (fun z => by rw [z]; exact cb.isN (by omega)) (hvK y), by rw [ht1, hn1]; exact hg, rfl, by rw [nI_1]; rfl, hBK1, by rw [ht1]; exact pa, by rw [ht1]; exact na, fun σ2 he2 hDS2 => ?_⟩
      rw [ht1] at hDS2
      obtain ⟨hC2, ht2, hn2⟩ := CI_eqG (he1.trans he2 (Nat.le_refl _) (Nat.le_refl _) (Nat.le_refl _) (by simp only [List.length_cons]; omega)) hC
      refine ⟨_, bot, K, hDS2, by rw [ht2, hn2]; exact cb.isN (by omega), by rw [ht2]; exact db, by rw [ht2, hn2]; exact hvK, by rw [ht2, hn2]; exact hg, rfl, rfl, BK_eq (fun k hk => he2.1 10 0 k (by decide) (by omega) (by simp only [List.length_cons]; omega)) hBK1.2, by rw [ht2]; exact pb, by rw [ht2, List.length_append, dutL_len]; exact nb, fun σ3 he3 hDS3 => ?_⟩
      rw [ht2, List.append_assoc] at hDS3
      refine hS σ3 ?_ hDS3
      exact (he1.trans he2 (Nat.le_refl _) (Nat.le_refl _) (Nat.le_refl _) (by simp only [List.length_cons]; omega) : eqG Ds.length (bot + K.length) σ σ2).trans he3 (Nat.le_refl _) (by rw [List.length_append]; omega) (Nat.le_refl _) (Nat.le_refl _)
    · refine And.intro (fun (h : tC σ 0 (ix x) = 13) => absurd (e.symm.trans h) (by decide)) (fun _ => ?_)
      refine And.intro (fun _ => ?_) (fun (h : ¬ tC σ 0 (ix x) = 14) => absurd e h)
      rw [if_neg (by rw [e]; decide), if_pos e] at hS h16
      obtain ⟨-, cb, cc3⟩ := h14 e
      have db : hN (tC σ) (ix (tC σ 2 (ix x))) ≤ d := by have := cb.2.2.2; omega
      have dc : hN (tC σ) (ix (tC σ 3 (ix x))) ≤ d := by have := cc3.2.2.2; omega
      have pb : hN (tC σ) (ix (tC σ 2 (ix x))) + (bot + K.length) ≤ 6 := by have := cb.2.2.2; omega
      have pc : hN (tC σ) (ix (tC σ 3 (ix x))) + (bot + K.length) ≤ 6 := by have := cc3.2.2.2; omega
      have nb : Ds.length + dn (tC σ) d (tC σ 2 (ix x)) ≤ 16 := by omega
      have nc : Ds.length + dn (tC σ) d (tC σ 2 (ix x)) + dn (tC σ) d (tC σ 3 (ix x)) ≤ 16 := by omega
      refine ⟨Ds, bot, K, hDS, cb.isN (by omega), db, hvK, hg, rfl, rfl, hBK, pb, nb, fun σ2 he2 hDS2 => ?_⟩
      obtain ⟨hC2, ht2, hn2⟩ := CI_eqG he2 hC
      refine ⟨_, bot, K, hDS2, by rw [ht2, hn2]; exact cc3.isN (by omega), by rw [ht2]; exact dc, by rw [ht2, hn2]; exact hvK, by rw [ht2, hn2]; exact hg, rfl, rfl, BK_eq (fun k hk => he2.1 10 0 k (by decide) (by omega) (by omega)) hBK, by rw [ht2]; exact pc, by rw [ht2, List.length_append, dutL_len]; exact nc, fun σ3 he3 hDS3 => ?_⟩
      rw [ht2, List.append_assoc] at hDS3
      exact hS σ3 (he2.trans he3 (Nat.le_refl _) (by rw [List.length_append]; omega) (Nat.le_refl _) (Nat.le_refl _)) hDS3
    · refine And.intro (fun (h : tC σ 0 (ix x) = 13) => absurd (e.symm.trans h) (by decide)) (fun _ => ?_)
      refine And.intro (fun (h : tC σ 0 (ix x) = 14) => absurd (e.symm.trans h) (by decide)) (fun _ => ?_)
      refine And.intro (fun _ => ?_) (fun (h : ¬ tC σ 0 (ix x) = 15) => absurd e h)
      rw [if_neg (by rw [e]; decide), if_neg (by rw [e]; decide), if_pos e] at hS h16
      obtain ⟨ca, cb, cc3⟩ := h15 e
      have dc : hN (tC σ) (ix (tC σ 3 (ix x))) ≤ d := by have := cc3.2.2.2; omega
      refine And.intro hvt ?_
      generalize hσ1 : wr σ 10 (tix 10 0) (nI (bot + K.length)).toNatClampNeg (rd σ 5 (tix 5 (tix 1 0)) x.toNatClampNeg) = σ1
      have e0 : σ1 = wr σ 10 0 (ix (nI (bot + K.length))) (tC σ 3 (ix x)) := hσ1.symm
      have e1 := e0
      rw [hct] at e1
      have he1 : eqG Ds.length (bot + K.length) σ σ1 := by rw [e1]; exact (eqG.refl _ _ _).beh (Nat.le_refl _)
      obtain ⟨hC1, ht1, hn1⟩ := CI_eqG he1 hC
      have hDS1 : DSt σ1 Ds := ⟨hC1, by rw [e1]; exact hDS.2.1, hDS.2.2.1, fun i D hi => by
        have hil := (List.getElem?_eq_some_iff.mp hi).1
        obtain ⟨q1, q2⟩ := hDS.2.2.2 i D hi
        rw [ht1, hn1]
        exact ⟨CR_eq (fun k => he1.1 36 i k (by decide) (by omega) (by omega)) (fun k => he1.1 37 i k (by decide) (by omega) (by omega)) q1, q2⟩⟩
      have hBK1 : BK σ1 bot K := BK_eq (fun k hk => by rw [e1, rd_wr, if_neg (fun z => by have := z.2.2; omega)]) hBK
      have hBKc : BK σ1 (bot + K.length) [tC σ 3 (ix x)] := ⟨by rw [e1, rd_wr, if_pos ⟨rfl, rfl, rfl⟩], trivial⟩
      refine ⟨Ds.length, bot + K.length, [tC σ 3 (ix x)], by omega, hDS1.2.1, Or.inr rfl, rfl, by rw [nI_1]; rfl, by simp only [List.length_cons, List.length_nil]; omega, hBKc, fun σ2 he2 s1 s2 s3 s4 s5 s6 s7 => ?_⟩
      have hxx : isN (tC σ) (nC σ) 15 15 x := ⟨hx.1, by rw [e]; decide, by rw [e]; decide⟩
      have hvD1 : vD (tC σ) (nC σ) (1, x, [tC σ 3 (ix x)], tC σ 2 (ix x)) := ⟨Or.inr ⟨Or.inl rfl, hxx⟩, fun y hy => by rw [List.mem_singleton] at hy; rw [hy]; exact cc3.isN (by omega), cb.isN (by omega), by show 1 ≤ 6; omega⟩
      have hDS2 : DSt σ2 (Ds ++ [(1, x, [tC σ 3 (ix x)], tC σ 2 (ix x))]) := DSt_add hDS1 he2 s1 (by omega) (by rw [ht1]; exact ⟨fun z => absurd z (by decide : ¬ (1 : Int32) = 0), fun _ => ⟨s2, s3, s4⟩, s5, s6, s7⟩) (by rw [ht1, hn1]; exact hvD1)
      have he12 : eqG Ds.length (bot + K.length) σ σ2 := he1.trans he2 (Nat.le_refl _) (Nat.le_refl _) (Nat.le_refl _) (by omega)
      obtain ⟨hC2, ht2, hn2⟩ := CI_eqG he12 hC
      have hBK2 : BK σ2 bot K := BK_eq (fun k hk => he2.1 10 0 k (by decide) (by omega) (by omega)) hBK1
      refine ⟨Ds.length + 1, bot, K, by omega, s1, Or.inl rfl, rfl, rfl, by omega, hBK2, fun σ3 he3 r1 r2 r3 r4 r5 r6 r7 => ?_⟩
      have hvD2 : vD (tC σ) (nC σ) (2, x, K, g) := ⟨Or.inr ⟨Or.inr rfl, hxx⟩, hvK, hg, by show K.length ≤ 6; omega⟩
      have hDS3 : DSt σ3 ((Ds ++ [(1, x, [tC σ 3 (ix x)], tC σ 2 (ix x))]) ++ [(2, x, K, g)]) := DSt_add hDS2 (by rw [List.length_append]; exact he3) (by rw [List.length_append]; exact r1) (by rw [List.length_append]; simp only [List.length_cons, List.length_nil]; omega) (by rw [List.length_append, ht2]; exact ⟨fun z => absurd z (by decide : ¬ (2 : Int32) = 0), fun _ => ⟨r2, r3, r4⟩, r5, r6, r7⟩) (by rw [ht2, hn2]; exact hvD2)
      have he13 : eqG Ds.length (bot + K.length) σ σ3 := he12.trans he3 (Nat.le_refl _) (by omega) (Nat.le_refl _) (by omega)
      obtain ⟨hC3, ht3, hn3⟩ := CI_eqG he13 hC
      have hhc := cc3.2.2.2
      refine ⟨_, bot + K.length, [], hDS3, by rw [ht3, hn3]; exact cc3.isN (by omega), by rw [ht3]; exact dc, fun y hy => absurd hy List.not_mem_nil, by rw [ht3, hn3]; exact cb.isN (by omega), rfl, rfl, trivial, by rw [ht3]; show hN (tC σ) (ix (tC σ 3 (ix x))) + (bot + K.length + 0) ≤ 6; omega, by rw [ht3]; simp only [List.length_append, List.length_cons, List.length_nil]; show Ds.length + (0 + 1) + (0 + 1) + dn (tC σ) d (tC σ 3 (ix x)) ≤ 16; omega, fun σ4 he4 hDS4 => ?_⟩
      rw [ht3, List.append_assoc, List.append_assoc] at hDS4
      exact hS σ4 (he13.trans he4 (Nat.le_refl _) (by simp only [List.length_append]; omega) (Nat.le_refl _) (by simp only [List.length_nil]; omega)) hDS4
theorem c_gather (l : Launch) : ∀ d, Con l yX0_gather cX0_gather 8 none 5 (10 + d) (S_gather d)
  | 0 => Con.none (by
    intro av σ Φ hS
    match av, hS with
    | [Sum.inr (Sum.inr (Sum.inr q)), Sum.inl x, Sum.inl b0, Sum.inl t0, Sum.inl g], hS =>
      obtain ⟨rfl, Ds, bot, K, hDS, hx, hd, -⟩ := thisM_out hS
      have := (hDS.1.2.2 _ (vp_lt hx.1)).2.1.1
      omega)
  | d + 1 => c_gather_s l d (c_gather l d)
def S_replaceBy : SpecT := fun av σ Φ => match av with
  | [Sum.inr (Sum.inr (Sum.inr q)), Sum.inl p0, Sum.inl x, Sum.inl q0] => thisM q 8 (CI σ ∧ isN (tC σ) (nC σ) 5 10 p0 ∧ isN (tC σ) (nC σ) 11 15 x ∧ isN (tC σ) (nC σ) 5 10 q0 ∧ 1 + dn (tC σ) 6 x ≤ 16 ∧ ∀ σ', eqG 0 0 σ σ' → DSt σ' ((0, p0, [x], q0) :: dutL (tC σ) 6 x [] q0) → Φ none σ')
  | _ => False
set_option maxRecDepth 100000 in
theorem c_replaceBy (l : Launch) : Con l yX0_replaceBy cX0_replaceBy 4 none 4 17 S_replaceBy := by
  refine Con.of (by decide) (by decide) ?_
  intro p e s s0 a0 m args below meth c D ad cA A av σ Φ hlen hS hr X
  match av, hS with
  | [Sum.inr (Sum.inr (Sum.inr q)), Sum.inl p0, Sum.inl x, Sum.inl q0], hS =>
    obtain ⟨rfl, hS⟩ := thisM_out hS
    refine wp_sound (ps := []) (C := fun _ _ _ _ => False) (tk_X0_replaceBy X hr (c_addD l) (by omega) (c_gather l 6) (by omega)) (fun _ _ _ _ h => h.elim) 400 _ _ _ _ ?_
    obtain ⟨hC, hp, hx, hq, h16, hS⟩ := hS
    refine And.intro (show vp_in 0 6 from vp_in_nI (n := 0) (by decide) (by decide)) ?_
    obtain ⟨σ1, e1⟩ : ∃ z, z = wr (wr σ 8 0 3 0) 10 0 0 x := ⟨_, rfl⟩
    have he1 : eqG 0 0 σ σ1 := by rw [e1]; exact (eqG.siz (eqG.refl _ _ _)).beh (Nat.le_refl _)
    obtain ⟨hC1, ht1, hn1⟩ := CI_eqG he1 hC
    have hDS1 : DSt σ1 [] := ⟨hC1, by rw [e1]; rfl, by decide, fun i D hi => by simp at hi⟩
    have hBK1 : BK σ1 0 [x] := ⟨by rw [e1]; rfl, trivial⟩
    subst e1
    refine ⟨0, 0, [x], by omega, hDS1.2.1, Or.inl rfl, rfl, rfl, by show 0 + 1 ≤ 6; omega, hBK1, fun σ2 he2 s1 s2 s3 s4 s5 s6 s7 => ?_⟩
    have hvD0 : vD (tC σ) (nC σ) (0, p0, [x], q0) := ⟨Or.inl ⟨rfl, hp⟩, fun y hy => by rw [List.mem_singleton] at hy; rw [hy]; exact hx, hq, by show 1 ≤ 6; omega⟩
    have hDS2 : DSt σ2 ([] ++ [(0, p0, [x], q0)]) := DSt_add hDS1 he2 s1 (by show 0 < 16; omega) (by rw [ht1]; exact ⟨fun _ => ⟨s2, s3⟩, fun z => absurd rfl z, s5, s6, s7⟩) (by rw [ht1, hn1]; exact hvD0)
    have he12 : eqG 0 0 σ σ2 := he1.trans he2 (Nat.le_refl _) (Nat.le_refl _) (Nat.le_refl _) (by omega)
    obtain ⟨hC2, ht2, hn2⟩ := CI_eqG he12 hC
    refine ⟨_, 0, [], hDS2, by rw [ht2, hn2]; exact hx, by rw [ht2]; exact (hC.2.2 _ (vp_lt hx.1)).2.1.2, fun y hy => absurd hy List.not_mem_nil, by rw [ht2, hn2]; exact hq, rfl, rfl, trivial, by rw [ht2]; exact (hC.2.2 _ (vp_lt hx.1)).2.1.2, by rw [ht2]; exact h16, fun σ3 he3 hDS3 => ?_⟩
    rw [ht2] at hDS3
    exact hS σ3 (he12.trans he3 (Nat.le_refl _) (by omega) (Nat.le_refl _) (by omega)) hDS3
