/-- a word is as the role asks -/
def ftW (t : Tbl) (n : Nat) (r x : Int32) : Prop :=
  if r = 0 then True
  else if r = 1 then (-100 ≤ x ∧ x ≤ 100)
  else if r = 2 then (-16 ≤ x ∧ x ≤ 16)
  else if r = 3 then (1 ≤ x ∧ x ≤ 16)
  else if r = 4 then (0 ≤ x ∧ x ≤ 2)
  else (vp_in x n ∧ srt (t 0 (ix x)) = r)
theorem ftW0 {t : Tbl} {n : Nat} {r x : Int32} (h : r = 0) : ftW t n r x ↔ True := by
  unfold ftW
  rw [if_pos h]
theorem ftW1 {t : Tbl} {n : Nat} {r x : Int32} (h : r = 1) : ftW t n r x ↔ (-100 ≤ x ∧ x ≤ 100) := by
  unfold ftW
  rw [if_neg (by rw [h]; decide), if_pos h]
theorem ftW2 {t : Tbl} {n : Nat} {r x : Int32} (h : r = 2) : ftW t n r x ↔ (-16 ≤ x ∧ x ≤ 16) := by
  unfold ftW
  rw [if_neg (by rw [h]; decide), if_neg (by rw [h]; decide), if_pos h]
theorem ftW3 {t : Tbl} {n : Nat} {r x : Int32} (h : r = 3) : ftW t n r x ↔ (1 ≤ x ∧ x ≤ 16) := by
  unfold ftW
  rw [if_neg (by rw [h]; decide), if_neg (by rw [h]; decide), if_neg (by rw [h]; decide), if_pos h]
theorem ftW4 {t : Tbl} {n : Nat} {r x : Int32} (h : r = 4) : ftW t n r x ↔ (0 ≤ x ∧ x ≤ 2) := by
  unfold ftW
  rw [if_neg (by rw [h]; decide), if_neg (by rw [h]; decide), if_neg (by rw [h]; decide), if_neg (by rw [h]; decide), if_pos h]
theorem ftWn {t : Tbl} {n : Nat} {r x : Int32} (h0 : ¬ r = 0) (h1 : ¬ r = 1) (h2 : ¬ r = 2) (h3 : ¬ r = 3) (h4 : ¬ r = 4) : ftW t n r x ↔ (vp_in x n ∧ srt (t 0 (ix x)) = r) := by
  unfold ftW
  rw [if_neg h0, if_neg h1, if_neg h2, if_neg h3, if_neg h4]
def S_fits : SpecT := fun av σ Φ => match av with
  | [Sum.inr (Sum.inr (Sum.inr q)), Sum.inl r, Sum.inl x] => thisM q 1 (oknC σ ∧ Φ (some (aI (b01 (ftW (tC σ) (nC σ) r x)))) σ)
  | _ => False
set_option maxRecDepth 100000 in
theorem c_fits (l : Launch) : Con l yX2_fits cX2_fits 3 (some .boolean) 3 2 S_fits := by
  refine Con.of (by decide) (by decide) ?_
  intro p e s s0 a0 m args below meth c D ad cA A av σ Φ hlen hS hr X
  match av, hS with
  | [Sum.inr (Sum.inr (Sum.inr q)), Sum.inl r, Sum.inl x], hS =>
    obtain ⟨rfl, hS⟩ := thisM_out hS
    refine wp_sound (ps := []) (C := fun _ _ _ _ => False) (tk_X2_fits X hr (c_has l) (by omega)) (fun _ _ _ _ h => h.elim) 400 _ _ _ _ ?_
    obtain ⟨hn, hS⟩ := hS
    refine And.intro (fun e0 => ?_) (fun e0 => ?_)
    · rw [b01_c (ftW0 e0)] at hS
      rw [b01_t trivial] at hS
      exact And.intro (Or.inr rfl) hS
    refine And.intro (fun e1 => ?_) (fun e1 => ?_)
    · rw [b01_c (ftW1 e1)] at hS
      refine And.intro (fun h1 => ?_) (fun h1 => ?_)
      · rw [b01_f (fun z => absurd h1 (Int32.not_lt.mpr z.1))] at hS; exact And.intro (Or.inl rfl) hS
      · refine And.intro (fun h2 => ?_) (fun h2 => ?_)
        · rw [b01_f (fun z => absurd h2 (Int32.not_lt.mpr z.2))] at hS; exact And.intro (Or.inl rfl) hS
        · rw [b01_t ⟨Int32.not_lt.mp h1, Int32.not_lt.mp h2⟩] at hS; exact And.intro (Or.inr rfl) hS
    refine And.intro (fun e2 => ?_) (fun e2 => ?_)
    · rw [b01_c (ftW2 e2)] at hS
      refine And.intro (fun h1 => ?_) (fun h1 => ?_)
      · rw [b01_f (fun z => absurd h1 (Int32.not_lt.mpr z.1))] at hS; exact And.intro (Or.inl rfl) hS
      · refine And.intro (fun h2 => ?_) (fun h2 => ?_)
        · rw [b01_f (fun z => absurd h2 (Int32.not_lt.mpr z.2))] at hS; exact And.intro (Or.inl rfl) hS
        · rw [b01_t ⟨Int32.not_lt.mp h1, Int32.not_lt.mp h2⟩] at hS; exact And.intro (Or.inr rfl) hS
    refine And.intro (fun e3 => ?_) (fun e3 => ?_)
    · rw [b01_c (ftW3 e3)] at hS
      refine And.intro (fun h1 => ?_) (fun h1 => ?_)
      · rw [b01_f (fun z => absurd h1 (Int32.not_lt.mpr z.1))] at hS; exact And.intro (Or.inl rfl) hS
      · refine And.intro (fun h2 => ?_) (fun h2 => ?_)
        · rw [b01_f (fun z => absurd h2 (Int32.not_lt.mpr z.2))] at hS; exact And.intro (Or.inl rfl) hS
        · rw [b01_t ⟨Int32.not_lt.mp h1, Int32.not_lt.mp h2⟩] at hS; exact And.intro (Or.inr rfl) hS
    refine And.intro (fun e4 => ?_) (fun e4 => ?_)
    · rw [b01_c (ftW4 e4)] at hS
      refine And.intro (fun h1 => ?_) (fun h1 => ?_)
      · rw [b01_f (fun z => absurd h1 (Int32.not_lt.mpr z.1))] at hS; exact And.intro (Or.inl rfl) hS
      · refine And.intro (fun h2 => ?_) (fun h2 => ?_)
        · rw [b01_f (fun z => absurd h2 (Int32.not_lt.mpr z.2))] at hS; exact And.intro (Or.inl rfl) hS
        · rw [b01_t ⟨Int32.not_lt.mp h1, Int32.not_lt.mp h2⟩] at hS; exact And.intro (Or.inr rfl) hS
    rw [b01_c (ftWn e0 e1 e2 e3 e4)] at hS
    exact And.intro hn (And.intro (b01_or _) hS)
theorem fit_tab {t : Tbl} {n : Nat} (hw : WF t n) {kd a b c : Int32} (hk : vp_in kd 16) : (ftW t n (wtf 0 (ix kd)) a ∧ ftW t n (wtf 1 (ix kd)) b ∧ ftW t n (wtf 2 (ix kd)) c) ↔ fitK t n kd a b c := by
  have z0 : ∀ x, ftW t n 0 x ↔ True := fun x => ftW0 rfl
  have z1 : ∀ x, ftW t n 1 x ↔ (-100 ≤ x ∧ x ≤ 100) := fun x => ftW1 rfl
  have z2 : ∀ x, ftW t n 2 x ↔ (-16 ≤ x ∧ x ≤ 16) := fun x => ftW2 rfl
  have z3 : ∀ x, ftW t n 3 x ↔ (1 ≤ x ∧ x ≤ 16) := fun x => ftW3 rfl
  have z4 : ∀ x, ftW t n 4 x ↔ (0 ≤ x ∧ x ≤ 2) := fun x => ftW4 rfl
  have z5 : ∀ x, ftW t n 5 x ↔ isN t n 0 4 x := fun x => (ftWn (by decide) (by decide) (by decide) (by decide) (by decide)).trans (has_iff hw x).1
  have z6 : ∀ x, ftW t n 6 x ↔ isN t n 5 10 x := fun x => (ftWn (by decide) (by decide) (by decide) (by decide) (by decide)).trans (has_iff hw x).2.1
  have z7 : ∀ x, ftW t n 7 x ↔ isN t n 11 15 x := fun x => (ftWn (by decide) (by decide) (by decide) (by decide) (by decide)).trans (has_iff hw x).2.2
  have hk2 := vp_in_iff.mp hk
  have h0 : 0 ≤ kd := Int32.le_iff_toInt_le.mpr (by have e0 : (0 : Int32).toInt = 0 := by decide
                                                    rw [e0]; exact hk2.1)
  have h15 : kd ≤ 15 := Int32.le_iff_toInt_le.mpr (by have e0 : (15 : Int32).toInt = 15 := by decide
                                                      rw [e0]; omega)
  rcases i32_cases h0 h15 with e | e | e | e | e | e | e | e | e | e | e | e | e | e | e | e
  · rw [fitK0 e, e, show wtf 0 (ix 0) = 1 by decide, show wtf 1 (ix 0) = 0 by decide, show wtf 2 (ix 0) = 0 by decide]
    simp only [z0, z1, z2, z3, z4, z5, z6, z7, and_true, true_and, and_assoc]
  · rw [fitK1 e, e, show wtf 0 (ix 1) = 4 by decide, show wtf 1 (ix 1) = 0 by decide, show wtf 2 (ix 1) = 0 by decide]
    simp only [z0, z1, z2, z3, z4, z5, z6, z7, and_true, true_and, and_assoc]
  · rw [fitK2 e, e, show wtf 0 (ix 2) = 5 by decide, show wtf 1 (ix 2) = 5 by decide, show wtf 2 (ix 2) = 0 by decide]
    simp only [z0, z1, z2, z3, z4, z5, z6, z7, and_true, true_and, and_assoc]
  · rw [fitK3 e, e, show wtf 0 (ix 3) = 5 by decide, show wtf 1 (ix 3) = 5 by decide, show wtf 2 (ix 3) = 0 by decide]
    simp only [z0, z1, z2, z3, z4, z5, z6, z7, and_true, true_and, and_assoc]
  · rw [fitK4 e, e, show wtf 0 (ix 4) = 2 by decide, show wtf 1 (ix 4) = 5 by decide, show wtf 2 (ix 4) = 0 by decide]
    simp only [z0, z1, z2, z3, z4, z5, z6, z7, and_true, true_and, and_assoc]
  · rw [fitK5 e, e, show wtf 0 (ix 5) = 5 by decide, show wtf 1 (ix 5) = 5 by decide, show wtf 2 (ix 5) = 0 by decide]
    simp only [z0, z1, z2, z3, z4, z5, z6, z7, and_true, true_and, and_assoc]
  · rw [fitK6 e, e, show wtf 0 (ix 6) = 5 by decide, show wtf 1 (ix 6) = 5 by decide, show wtf 2 (ix 6) = 0 by decide]
    simp only [z0, z1, z2, z3, z4, z5, z6, z7, and_true, true_and, and_assoc]
  · rw [fitK7 e, e, show wtf 0 (ix 7) = 3 by decide, show wtf 1 (ix 7) = 5 by decide, show wtf 2 (ix 7) = 0 by decide]
    simp only [z0, z1, z2, z3, z4, z5, z6, z7, and_true, true_and, and_assoc]
  · rw [fitK8 e, e, show wtf 0 (ix 8) = 6 by decide, show wtf 1 (ix 8) = 0 by decide, show wtf 2 (ix 8) = 0 by decide]
    simp only [z0, z1, z2, z3, z4, z5, z6, z7, and_true, true_and, and_assoc]
  · rw [fitK9 e, e, show wtf 0 (ix 9) = 6 by decide, show wtf 1 (ix 9) = 6 by decide, show wtf 2 (ix 9) = 0 by decide]
    simp only [z0, z1, z2, z3, z4, z5, z6, z7, and_true, true_and, and_assoc]
  · rw [fitK10 e, e, show wtf 0 (ix 10) = 6 by decide, show wtf 1 (ix 10) = 6 by decide, show wtf 2 (ix 10) = 0 by decide]
    simp only [z0, z1, z2, z3, z4, z5, z6, z7, and_true, true_and, and_assoc]
  · rw [fitK11 e, e, show wtf 0 (ix 11) = 0 by decide, show wtf 1 (ix 11) = 0 by decide, show wtf 2 (ix 11) = 0 by decide]
    simp only [z0, z1, z2, z3, z4, z5, z6, z7, and_true, true_and, and_assoc]
  · rw [fitK12 e, e, show wtf 0 (ix 12) = 4 by decide, show wtf 1 (ix 12) = 5 by decide, show wtf 2 (ix 12) = 0 by decide]
    simp only [z0, z1, z2, z3, z4, z5, z6, z7, and_true, true_and, and_assoc]
  · rw [fitK13 e, e, show wtf 0 (ix 13) = 7 by decide, show wtf 1 (ix 13) = 7 by decide, show wtf 2 (ix 13) = 0 by decide]
    simp only [z0, z1, z2, z3, z4, z5, z6, z7, and_true, true_and, and_assoc]
  · rw [fitK14 e, e, show wtf 0 (ix 14) = 6 by decide, show wtf 1 (ix 14) = 7 by decide, show wtf 2 (ix 14) = 7 by decide]
    simp only [z0, z1, z2, z3, z4, z5, z6, z7, and_true, true_and, and_assoc]
  · rw [fitK15 e, e, show wtf 0 (ix 15) = 6 by decide, show wtf 1 (ix 15) = 6 by decide, show wtf 2 (ix 15) = 7 by decide]
    simp only [z0, z1, z2, z3, z4, z5, z6, z7, and_true, true_and, and_assoc]
def S_haveWordsFor : SpecT := fun av σ Φ => match av with
  | [Sum.inr (Sum.inr (Sum.inr q)), Sum.inl kd, Sum.inl a, Sum.inl b, Sum.inl c] => thisM q 1 (CI σ ∧ vp_in kd 16 ∧ Φ (some (aI (b01 (fitK (tC σ) (nC σ) kd a b c)))) σ)
  | _ => False
set_option maxRecDepth 100000 in
theorem c_haveWordsFor (l : Launch) : Con l yX2_haveWordsFor cX2_haveWordsFor 5 (some .boolean) 5 3 S_haveWordsFor := by
  refine Con.of (by decide) (by decide) ?_
  intro p e s s0 a0 m args below meth c D ad cA A av σ Φ hlen hS hr X
  match av, hS with
  | [Sum.inr (Sum.inr (Sum.inr q)), Sum.inl kd, Sum.inl a, Sum.inl b, Sum.inl c], hS =>
    obtain ⟨rfl, hS⟩ := thisM_out hS
    refine wp_sound (ps := []) (C := fun _ _ _ _ => False) (tk_X2_haveWordsFor X hr (c_fits l) (by omega)) (fun _ _ _ _ h => h.elim) 400 _ _ _ _ ?_
    obtain ⟨hC, hk, hS⟩ := hS
    rw [← b01_c (fit_tab hC.2 hk)] at hS
    refine And.intro hk (And.intro hC.1 ?_)
    refine And.intro (fun (h1 : b01 (ftW (tC σ) (nC σ) (wtf 0 (ix kd)) a) = 0) => ?_) (fun (h1 : ¬ b01 (ftW (tC σ) (nC σ) (wtf 0 (ix kd)) a) = 0) => ?_)
    · rw [b01_f (fun z => b01_0 h1 z.1)] at hS; exact And.intro (Or.inl rfl) hS
    refine And.intro hk (And.intro hC.1 ?_)
    refine And.intro (fun (h2 : b01 (ftW (tC σ) (nC σ) (wtf 1 (ix kd)) b) = 0) => ?_) (fun (h2 : ¬ b01 (ftW (tC σ) (nC σ) (wtf 1 (ix kd)) b) = 0) => ?_)
    · rw [b01_f (fun z => b01_0 h2 z.2.1)] at hS; exact And.intro (Or.inl rfl) hS
    refine And.intro hk (And.intro hC.1 ?_)
    refine And.intro (fun (h3 : b01 (ftW (tC σ) (nC σ) (wtf 2 (ix kd)) c) = 0) => ?_) (fun (h3 : ¬ b01 (ftW (tC σ) (nC σ) (wtf 2 (ix kd)) c) = 0) => ?_)
    · rw [b01_f (fun z => b01_0 h3 z.2.2)] at hS; exact And.intro (Or.inl rfl) hS
    rw [b01_t ⟨b01_n h1, b01_n h2, b01_n h3⟩] at hS; exact And.intro (Or.inr rfl) hS
def hb (t : Tbl) (r x : Int32) : Int32 := if r < 5 then 0 else t 4 (ix x)
def mx (x y : Int32) : Int32 := if x < y then y else x
/-- the height of a node to be made -/
def hgt (t : Tbl) (kd a b c : Int32) : Int32 := 1 + mx (mx (hb t (wtf 0 (ix kd)) a) (hb t (wtf 1 (ix kd)) b)) (hb t (wtf 2 (ix kd)) c)
def S_heightBelow : SpecT := fun av σ Φ => match av with
  | [Sum.inr (Sum.inr (Sum.inr q)), Sum.inl r, Sum.inl x] => thisM q 1 ((¬ r < 5 → vp_in x 60) ∧ Φ (some (aI (hb (tC σ) r x))) σ)
  | _ => False
set_option maxRecDepth 100000 in
theorem c_heightBelow (l : Launch) : Con l yX2_heightBelow cX2_heightBelow 3 (some .int) 3 0 S_heightBelow := by
  refine Con.of (by decide) (by decide) ?_
  intro p e s s0 a0 m args below meth c D ad cA A av σ Φ hlen hS hr X
  match av, hS with
  | [Sum.inr (Sum.inr (Sum.inr q)), Sum.inl r, Sum.inl x], hS =>
    obtain ⟨rfl, hS⟩ := thisM_out hS
    refine wp_sound (ps := []) (C := fun _ _ _ _ => False) (tk_X2_heightBelow X hr) (fun _ _ _ _ h => h.elim) 400 _ _ _ _ ?_
    refine And.intro (fun h1 => ?_) (fun h1 => ?_)
    · have := hS.2; rw [hb, if_pos h1] at this; exact this
    · have := hS.2; rw [hb, if_neg h1] at this; exact And.intro (hS.1 h1) this
theorem ftW_vp {t : Tbl} {n : Nat} {r x : Int32} (h : ftW t n r x) (hr : ¬ r < 5) : vp_in x n := by
  have ne : ∀ j : Int32, j < 5 → ¬ r = j := fun j hj e => hr (by rw [e]; exact hj)
  exact ((ftWn (ne 0 (by decide)) (ne 1 (by decide)) (ne 2 (by decide)) (ne 3 (by decide)) (ne 4 (by decide))).mp h).1
def S_heightOf : SpecT := fun av σ Φ => match av with
  | [Sum.inr (Sum.inr (Sum.inr q)), Sum.inl kd, Sum.inl a, Sum.inl b, Sum.inl c] => thisM q 1 (CI σ ∧ vp_in kd 16 ∧ fitK (tC σ) (nC σ) kd a b c ∧ Φ (some (aI (hgt (tC σ) kd a b c))) σ)
  | _ => False
set_option maxRecDepth 100000 in
theorem c_heightOf (l : Launch) : Con l yX2_heightOf cX2_heightOf 6 (some .int) 5 1 S_heightOf := by
  refine Con.of (by decide) (by decide) ?_
  intro p e s s0 a0 m args below meth c D ad cA A av σ Φ hlen hS hr X
  match av, hS with
  | [Sum.inr (Sum.inr (Sum.inr q)), Sum.inl kd, Sum.inl a, Sum.inl b, Sum.inl c], hS =>
    obtain ⟨rfl, hS⟩ := thisM_out hS
    refine wp_sound (ps := []) (C := fun _ _ _ _ => False) (tk_X2_heightOf X hr (by omega) (c_heightBelow l) (by omega)) (fun _ _ _ _ h => h.elim) 400 _ _ _ _ ?_
    obtain ⟨hC, hk, hf, hS⟩ := hS
    obtain ⟨f1, f2, f3⟩ := (fit_tab hC.2 hk).mpr hf
    refine And.intro hk (And.intro (fun h => vp_mono (ftW_vp f1 h) hC.1.2) ?_)
    refine And.intro hk (And.intro (fun h => vp_mono (ftW_vp f2 h) hC.1.2) ?_)
    refine And.intro hk (And.intro (fun h => vp_mono (ftW_vp f3 h) hC.1.2) ?_)
    exact hS
/-- the class with one node more -/
def addC (σ : Mem) (kd a b c h : Int32) : Mem := wr (wr (wr (wr (wr (wr σ 2 0 (nC σ) kd) 3 0 (nC σ) a) 4 0 (nC σ) b) 5 0 (nC σ) c) 6 0 (nC σ) h) 1 0 5 (rd σ 1 0 5 + 1)
def S_addC : SpecT := fun av σ Φ => match av with
  | [Sum.inr (Sum.inr (Sum.inr q)), Sum.inl kd, Sum.inl a, Sum.inl b, Sum.inl c, Sum.inl h] => thisM q 1 (oknC σ ∧ nC σ < 60 ∧ Φ (some (aI (rd σ 1 0 5))) (addC σ kd a b c h))
  | _ => False
set_option maxRecDepth 100000 in
theorem c_addC (l : Launch) : Con l yX2_add cX2_add 7 (some .int) 6 0 S_addC := by
  refine Con.of (by decide) (by decide) ?_
  intro p e s s0 a0 m args below meth c D ad cA A av σ Φ hlen hS hr X
  match av, hS with
  | [Sum.inr (Sum.inr (Sum.inr q)), Sum.inl kd, Sum.inl a, Sum.inl b, Sum.inl c, Sum.inl h], hS =>
    obtain ⟨rfl, hS⟩ := thisM_out hS
    refine wp_sound (ps := []) (C := fun _ _ _ _ => False) (tk_X2_add X hr) (fun _ _ _ _ h => h.elim) 400 _ _ _ _ ?_
    obtain ⟨⟨hn, h60⟩, hlt, hS⟩ := hS
    have hv : vp_in (rd σ 1 0 5) 60 := by rw [hn]; exact vp_in_nI hlt (by decide)
    exact And.intro hv (And.intro hv (And.intro hv (And.intro hv (And.intro hv hS))))
