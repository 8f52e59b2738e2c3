/-! TWO TABLES THAT AGREE BELOW n -/
def agr (t t' : Tbl) (n : Nat) : Prop := ∀ j k, k < n → t' j k = t j k
theorem agr.up {t : Tbl} {n : Nat} {kd a b c h : Int32} : agr t (upT t n kd a b c h) n := fun j k hk => upT_ne (by omega)
theorem evs_agr {t t' : Tbl} {n k : Nat} {s : Int32} {f : Nat → Int32} (h : agr t t' n) (hk : k < n) : evs t' s f k = evs t s f k := by
  unfold evs
  rw [h 0 k hk, h 1 k hk, h 2 k hk]
theorem evf_agr {t t' : Tbl} {n : Nat} (h : agr t t' n) (hw : WF t n) (s : Int32) : ∀ (d k : Nat), k < n → t 0 k ≤ 10 → evf t' s d k = evf t s d k := by
  intro d
  induction d with
  | zero => intro k _ _; rfl
  | succ d ih =>
    intro k hk h10
    show evs t' s (evf t' s d) k = evs t s (evf t s d) k
    rw [evs_agr h hk]
    refine evs_congr (hw.2 k hk) h10 (fun x lo hi hc hh => ?_)
    have hx := vp_lt hc.1
    exact ih (ix x) (by omega) (Int32.le_trans hc.2.2.1 hh)
theorem EV_agr {t t' : Tbl} {n : Nat} (h : agr t t' n) (hw : WF t n) (s : Int32) {x lo hi : Int32} (hx : isN t n lo hi x) (hh : hi ≤ 10) : EV t' s (ix x) = EV t s (ix x) := evf_agr h hw s 6 (ix x) (vp_lt hx.1) (Int32.le_trans hx.2.2 hh)
theorem folF_agr {t t' : Tbl} {n : Nat} (h : agr t t' n) (hw : WF t n) : ∀ (d : Nat) (x s : Int32), isN t n 11 15 x → folF t' d x s = folF t d x s := by
  intro d
  induction d with
  | zero => intro x s _; rfl
  | succ d ih =>
    intro x s hx
    have hlt := vp_lt hx.1
    have hw9 := hw.2 _ hlt
    obtain ⟨-, -, -, h7, -, -, -, -, h13, h14, h15⟩ := hw9
    unfold folF
    rw [h 0 _ hlt, h 1 _ hlt, h 2 _ hlt, h 3 _ hlt]
    by_cases e12 : t 0 (ix x) = 12
    · have c2 := (h7 (Or.inr (Or.inr e12))).isN (n := n) (by omega)
      rw [if_pos e12, if_pos e12, EV_agr h hw s c2 (by decide)]
    rw [if_neg e12, if_neg e12]
    by_cases e13 : t 0 (ix x) = 13
    · obtain ⟨ca, cb⟩ := h13 e13
      rw [if_pos e13, if_pos e13, ih _ s (ca.isN (by omega)), ih _ (folF t d (t 1 (ix x)) s) (cb.isN (by omega))]
    rw [if_neg e13, if_neg e13]
    by_cases e14 : t 0 (ix x) = 14
    · obtain ⟨ca, cb, cc⟩ := h14 e14
      rw [if_pos e14, if_pos e14, EV_agr h hw s (ca.isN (n := n) (by omega)) (by decide)]
      split
      · exact ih _ s (cc.isN (by omega))
      · exact ih _ s (cb.isN (by omega))
    rw [if_neg e14, if_neg e14]
    by_cases e15 : t 0 (ix x) = 15
    · obtain ⟨ca, cb, cc⟩ := h15 e15
      rw [if_pos e15, if_pos e15, EV_agr h hw s (cb.isN (n := n) (by omega)) (by decide)]
    rw [if_neg e15, if_neg e15]
theorem ghF_agr {t t' : Tbl} {n : Nat} (h : agr t t' n) (hw : WF t n) {g : Int32} (hg : isN t n 5 10 g) : ∀ (K : List Int32) (s : Int32), vK t n K → ghF t' K g s = ghF t K g s
  | [], s, _ => EV_agr h hw s hg (by decide)
  | x :: K, s, hK => by
    have hx := hK x (List.mem_cons_self ..)
    rw [ghF, ghF, folF_agr h hw 6 x s hx, ghF_agr h hw hg K _ (fun y hy => hK y (List.mem_cons_of_mem _ hy))]
theorem kpV_agr {t t' : Tbl} {n : Nat} (h : agr t t' n) (hw : WF t n) {D : Duty} (hD : vD t n D) (s : Int32) : kpV t' D s = kpV t D s := by
  obtain ⟨hd, hK, hg, -⟩ := hD
  unfold kpV
  by_cases h0 : D.1 = 0
  · have hp : isN t n 5 10 D.2.1 := by
      rcases hd with z | z
      · exact z.2
      · rcases z.1 with y | y <;> (rw [h0] at y; exact absurd y (by decide))
    rw [if_pos h0, if_pos h0, EV_agr h hw s hp (by decide), ghF_agr h hw hg _ _ hK]
  · have hp : isN t n 15 15 D.2.1 := by
      rcases hd with z | z
      · exact absurd z.1 h0
      · exact z.2
    have hlt := vp_lt hp.1
    have e15 : t 0 (ix D.2.1) = 15 := Int32.le_antisymm hp.2.2 hp.2.1
    obtain ⟨ca, cb, -⟩ := (hw.2 _ hlt).2.2.2.2.2.2.2.2.2.2 e15
    rw [if_neg h0, if_neg h0, h 1 _ hlt, h 2 _ hlt, EV_agr h hw s (cb.isN (n := n) (by omega)) (by decide), EV_agr h hw s (ca.isN (n := n) (by omega)) (by decide), ghF_agr h hw hg _ _ hK]
theorem isN_agr {t t' : Tbl} {n n' : Nat} (h : agr t t' n) (hn : n ≤ n') {lo hi x : Int32} (hx : isN t n lo hi x) : isN t' n' lo hi x := by
  have := vp_lt hx.1
  exact ⟨vp_mono hx.1 hn, by rw [h 0 _ this]; exact hx.2.1, by rw [h 0 _ this]; exact hx.2.2⟩
theorem vD_agr {t t' : Tbl} {n n' : Nat} (h : agr t t' n) (hn : n ≤ n') {D : Duty} (hD : vD t n D) : vD t' n' D := by
  obtain ⟨hd, hK, hg, hl⟩ := hD
  refine ⟨?_, fun x hx => isN_agr h hn (hK x hx), isN_agr h hn hg, hl⟩
  rcases hd with z | z
  · exact Or.inl ⟨z.1, isN_agr h hn z.2⟩
  · exact Or.inr ⟨z.1, isN_agr h hn z.2⟩
/-! BOTH SIDES -/
def INV (σ : Mem) (Ds : List Duty) : Prop := tC σ = tM σ ∧ nC σ = nM σ ∧ DSt σ Ds ∧ MD σ Ds
def eqn (P : Nat → Nat → Prop) (σ σ' : Mem) : Prop := (∀ g i k, ¬ P g k → rd σ' g i k = rd σ g i k) ∧ σ'.2.1 17 = σ.2.1 17
theorem tM_of {σ σ' : Mem} (h : ∀ g k, 12 ≤ g → g ≤ 16 → rd σ' g 0 k = rd σ g 0 k) : tM σ' = tM σ := by
  funext j k
  unfold tM
  split
  · exact h _ _ (by omega) (by omega)
  · rfl
theorem tC_of {σ σ' : Mem} (h : ∀ g k, 2 ≤ g → g ≤ 6 → rd σ' g 0 k = rd σ g 0 k) : tC σ' = tC σ := by
  funext j k
  unfold tC
  split
  · exact h _ _ (by omega) (by omega)
  · rfl
theorem PL_of {σ σ' : Mem} {i : Nat} (h : ∀ k, rd σ' 37 i k = rd σ 37 i k) {K : List Int32} (hK : PL σ i K) : PL σ' i K := PL_eq h hK
/-- the class's duties under a change elsewhere -/
theorem DSt_of {σ σ' : Mem} {Ds : List Duty} (h : ∀ g i k, g = 1 ∨ (2 ≤ g ∧ g ≤ 6) ∨ g = 8 ∨ g = 36 ∨ g = 37 → rd σ' g i k = rd σ g i k) (hD : DSt σ Ds) : DSt σ' Ds ∧ tC σ' = tC σ ∧ nC σ' = nC σ := by
  have ht : tC σ' = tC σ := tC_of (fun g k h1 h2 => h g 0 k (by omega))
  have e5 : rd σ' 1 0 5 = rd σ 1 0 5 := h 1 0 5 (by omega)
  have hn : nC σ' = nC σ := by unfold nC; rw [e5]
  obtain ⟨⟨⟨o1, o2⟩, hw⟩, h2, h3, h4⟩ := hD
  refine ⟨⟨⟨⟨by rw [e5, hn]; exact o1, by rw [hn]; exact o2⟩, by rw [ht, hn]; exact hw⟩, (h 8 0 3 (by omega)).trans h2, h3, fun i D hi => ?_⟩, ht, hn⟩
  obtain ⟨⟨c1, c2, c3, c4, c5⟩, v⟩ := h4 i D hi
  have r : ∀ k, rd σ' 36 i k = rd σ 36 i k := fun k => h 36 i k (by omega)
  rw [ht, hn]
  refine ⟨⟨?_, ?_, (r 4).trans c3, (r 5).trans c4, PL_of (fun k => h 37 i k (by omega)) c5⟩, v⟩
  · intro z; rw [r, r]; exact c1 z
  · intro z; rw [r, r, r]; exact c2 z
theorem MD_of {σ σ' : Mem} {Ds : List Duty} (h : ∀ g k, (19 ≤ g ∧ g ≤ 23) ∨ g = 31 ∨ g = 32 → rd σ' g 0 k = rd σ g 0 k) (h12 : rd σ' 11 0 12 = rd σ 11 0 12) (hM : MI σ') (ha : agr (tM σ) (tM σ') (nM σ)) (hn : nM σ ≤ nM σ') (hD : MD σ Ds) : MD σ' Ds := by
  obtain ⟨m1, m2, m3, T, hT, m4⟩ := hD
  refine ⟨hM, m2, h12.trans m3, T, hT, fun i D hi => ?_⟩
  obtain ⟨⟨b1, b2, τ, b3, b4, b5⟩, q2, q3⟩ := m4 i D hi
  refine ⟨⟨(h 21 i (by omega)).trans b1, (h 22 i (by omega)).trans b2, τ, b3, (h 23 i (by omega)).trans b4, TG_eq (fun k _ => ⟨h 19 k (by omega), h 20 k (by omega)⟩) b3 b5⟩, vD_agr ha hn q2, ?_⟩
  rcases q3 with e | ⟨e, eb⟩
  · exact Or.inl ((h 31 i (by omega)).trans e)
  · refine Or.inr ⟨(h 31 i (by omega)).trans e, fun s hs => ?_⟩
    rw [h 32 _ (by omega), kpV_agr ha m1.2.1 q2]
    exact eb s hs
theorem DSt_up {σ σ' : Mem} {Ds : List Duty} (h : ∀ g i k, g = 8 ∨ g = 36 ∨ g = 37 → rd σ' g i k = rd σ g i k) (hC : CI σ') (ha : agr (tC σ) (tC σ') (nC σ)) (hn : nC σ ≤ nC σ') (hD : DSt σ Ds) : DSt σ' Ds := by
  obtain ⟨hC0, h2, h3, h4⟩ := hD
  refine ⟨hC, (h 8 0 3 (by omega)).trans h2, h3, fun i D hi => ?_⟩
  obtain ⟨⟨c1, c2, c3, c4, c5⟩, v⟩ := h4 i D hi
  have r : ∀ k, rd σ' 36 i k = rd σ 36 i k := fun k => h 36 i k (by omega)
  refine ⟨⟨?_, ?_, (r 4).trans c3, (r 5).trans c4, PL_eq (fun k => h 37 i k (by omega)) c5⟩, vD_agr ha hn v⟩
  · intro z; rw [r, r]; exact c1 z
  · intro z
    have hp : isN (tC σ) (nC σ) 15 15 D.2.1 := by
      rcases v.1 with y | y
      · exact absurd y.1 z
      · exact y.2
    have hlt := vp_lt hp.1
    rw [r, r, r, ha 1 _ hlt, ha 2 _ hlt]
    exact c2 z
/-- the class with one node more -/
theorem addC_ok {σ : Mem} {Ds : List Duty} {kd a b c h : Int32} (hI : INV σ Ds) (hf : fitK (tC σ) (nC σ) kd a b c) (hlt : nC σ < 60) (hh : h = hgt (tC σ) kd a b c) (h6 : h ≤ 6) : DSt (addC σ kd a b c h) Ds ∧ MD (addC σ kd a b c h) Ds ∧ tM (addC σ kd a b c h) = tM σ ∧ nM (addC σ kd a b c h) = nM σ ∧ tC (addC σ kd a b c h) = upT (tM σ) (nM σ) kd a b c h ∧ nC (addC σ kd a b c h) = nM σ + 1 ∧ rd (addC σ kd a b c h) 11 0 1 = rd σ 1 0 5 := by
  obtain ⟨et, en, hD, hM⟩ := hI
  have o1 := hD.1.1.1
  have f : ∀ g i k, ¬ (1 ≤ g ∧ g ≤ 6) → rd (addC σ kd a b c h) g i k = rd σ g i k := by
    intro g i k hg
    unfold addC
    rw [rd_wr, if_neg (by omega), rd_wr, if_neg (by omega), rd_wr, if_neg (by omega), rd_wr, if_neg (by omega), rd_wr, if_neg (by omega), rd_wr, if_neg (by omega)]
  have e5 : rd (addC σ kd a b c h) 1 0 5 = nI (nC σ + 1) := by
    unfold addC
    rw [rd_wr, if_pos ⟨rfl, rfl, rfl⟩, o1, nI_1]
  have en1 : nC (addC σ kd a b c h) = nC σ + 1 := by show ix (rd (addC σ kd a b c h) 1 0 5) = _; rw [e5]; exact nI_clamp (by omega)
  have et1 : tC (addC σ kd a b c h) = upT (tC σ) (nC σ) kd a b c h := by
    funext j k
    unfold tC upT addC
    by_cases hk : k = nC σ
    · subst hk
      rw [if_pos rfl]
      match j with
      | 0 => simp [rd_wr]
      | 1 => simp [rd_wr]
      | 2 => simp [rd_wr]
      | 3 => simp [rd_wr]
      | 4 => simp [rd_wr]
      | j + 5 => rw [if_neg (by omega)]; rfl
    · rw [if_neg hk]
      split
      next hj =>
        rw [rd_wr, if_neg (by omega), rd_wr, if_neg (by omega), rd_wr, if_neg (by omega), rd_wr, if_neg (by omega), rd_wr, if_neg (by omega), rd_wr, if_neg (by omega)]
        show _ = (if j < 5 then _ else _)
        rw [if_pos hj]
      next hj =>
        show _ = (if j < 5 then _ else _)
        rw [if_neg hj]
  have hWF := WF_up hD.1.2 hlt hf hh h6
  have hC1 : CI (addC σ kd a b c h) := ⟨⟨by rw [e5, en1], by rw [en1]; omega⟩, by rw [et1, en1]; exact hWF⟩
  have tm : tM (addC σ kd a b c h) = tM σ := tM_of (fun g k h1 h2 => f g 0 k (by omega))
  have nm : nM (addC σ kd a b c h) = nM σ := by unfold nM; rw [f 11 0 1 (by omega)]
  have hM1 : MI (addC σ kd a b c h) := ⟨⟨by rw [f 11 0 1 (by omega), nm]; exact hM.1.1.1, by rw [nm]; exact hM.1.1.2⟩, by rw [tm, nm]; exact hM.1.2.1, by rw [tm, nm]; exact hM.1.2.2⟩
  refine ⟨DSt_up (fun g i k hg => f g i k (by omega)) hC1 (by rw [et1]; exact agr.up) (by omega) hD, MD_of (fun g k hg => f g 0 k (by omega)) (f 11 0 12 (by omega)) hM1 (by rw [tm]; exact fun _ _ _ => rfl) (by omega) hM, tm, nm, by rw [et1, et, en], by omega, ?_⟩
  rw [f 11 0 1 (by omega), hM.1.1.1, o1, en]
/-- the reference with one node more -/
theorem newM_ok {σ : Mem} {Ds : List Duty} {kd a b c h : Int32} (hM : MD σ Ds) (hf : fitK (tM σ) (nM σ) kd a b c) (hlt : nM σ < 60) (hh : h = hgt (tM σ) kd a b c) (h6 : h ≤ 6) : MD (newM σ kd a b c h) Ds ∧ tM (newM σ kd a b c h) = upT (tM σ) (nM σ) kd a b c h ∧ nM (newM σ kd a b c h) = nM σ + 1 ∧ (∀ g i k, ¬ (11 ≤ g ∧ g ≤ 16) → rd (newM σ kd a b c h) g i k = rd σ g i k) ∧ rd (newM σ kd a b c h) 11 0 0 = 0 := by
  have o1 := hM.1.1.1
  have rw1 : ∀ (σ : Mem) g k v g' i' k', rd (wrl σ g k v) g' i' k' = rd σ g' i' k' := fun _ _ _ _ _ _ _ => rfl
  have f : ∀ g i k, ¬ (11 ≤ g ∧ g ≤ 16) → rd (newM σ kd a b c h) g i k = rd σ g i k := by
    intro g i k hg
    unfold newM
    rw [rd_wr, if_neg (by omega), rw1, rd_wr, if_neg (by omega), rd_wr, if_neg (by omega), rd_wr, if_neg (by omega), rd_wr, if_neg (by omega), rd_wr, if_neg (by omega), rd_wr, if_neg (by omega)]
  have f11 : ∀ i k, ¬ k = 0 → ¬ k = 1 → rd (newM σ kd a b c h) 11 i k = rd σ 11 i k := by
    intro i k h1 h2
    unfold newM
    rw [rd_wr, if_neg (by omega), rw1, rd_wr, if_neg (by omega), rd_wr, if_neg (by omega), rd_wr, if_neg (by omega), rd_wr, if_neg (by omega), rd_wr, if_neg (by omega), rd_wr, if_neg (by omega)]
  have e1 : rd (newM σ kd a b c h) 11 0 1 = nI (nM σ + 1) := by
    unfold newM
    rw [rd_wr, if_pos ⟨rfl, rfl, rfl⟩, o1, nI_1]
  have en1 : nM (newM σ kd a b c h) = nM σ + 1 := by show ix (rd (newM σ kd a b c h) 11 0 1) = _; rw [e1]; exact nI_clamp (by omega)
  have et1 : tM (newM σ kd a b c h) = upT (tM σ) (nM σ) kd a b c h := by
    funext j k
    unfold tM upT newM
    rw [rd_wr, rw1]
    by_cases hk : k = nM σ
    · subst hk
      rw [if_pos rfl]
      match j with
      | 0 => simp [rd_wr]
      | 1 => simp [rd_wr]
      | 2 => simp [rd_wr]
      | 3 => simp [rd_wr]
      | 4 => simp [rd_wr]
      | j + 5 => rw [if_neg (by omega)]; rfl
    · rw [if_neg hk]
      split
      next hj =>
        rw [if_neg (by omega), rd_wr, if_neg (by omega), rd_wr, if_neg (by omega), rd_wr, if_neg (by omega), rd_wr, if_neg (by omega), rd_wr, if_neg (by omega), rd_wr, if_neg (by omega)]
        show _ = (if j < 5 then _ else _)
        rw [if_pos hj]
      next hj =>
        show _ = (if j < 5 then _ else _)
        rw [if_neg hj]
  have hWF := WF_up hM.1.2.1 hlt hf hh h6
  have hl1 : ∀ k, ¬ k = nM σ → rl (newM σ kd a b c h) 17 k = rl σ 17 k := by
    intro k hk
    show (if 17 = 17 ∧ k = nM σ then _ else rl σ 17 k) = _
    rw [if_neg (fun z => hk z.2)]
  have hl2 : rl (newM σ kd a b c h) 17 (nM σ) = bel (rl σ 17) (nM σ) kd a b := by
    show (if 17 = 17 ∧ nM σ = nM σ then _ else rl σ 17 _) = _
    rw [if_pos ⟨rfl, rfl⟩]
  have hB := BL_up (h := h) hM.1.2.1 hlt hf hM.1.2.2 hl1 hl2
  have hM1 : MI (newM σ kd a b c h) := ⟨⟨by rw [e1, en1], by rw [en1]; omega⟩, by rw [et1, en1]; exact hWF, by rw [et1, en1]; exact hB⟩
  exact ⟨MD_of (fun g k hg => f g 0 k (by omega)) (f11 0 12 (by decide) (by decide)) hM1 (by rw [et1]; exact agr.up) (by omega) hM, et1, en1, f, rfl⟩
