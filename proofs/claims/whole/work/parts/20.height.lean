theorem finK11 : ¬ finK 11 := by unfold finK; decide
theorem sinK11 : ¬ sinK 11 := by unfold sinK; decide
theorem finK12 : ¬ finK 12 := by unfold finK; decide
theorem sinK12 : sinK 12 := by unfold sinK; decide
theorem finK13 : finK 13 := by unfold finK; decide
theorem sinK13 : sinK 13 := by unfold sinK; decide
theorem finK14 : finK 14 := by unfold finK; decide
theorem sinK14 : sinK 14 := by unfold sinK; decide
theorem finK15 : finK 15 := by unfold finK; decide
theorem sinK15 : sinK 15 := by unfold sinK; decide
theorem fitK_cases {t : Tbl} {n : Nat} {kd a b c : Int32} (h : fitK t n kd a b c) : kd = 0 ∨ kd = 1 ∨ kd = 2 ∨ kd = 3 ∨ kd = 4 ∨ kd = 5 ∨ kd = 6 ∨ kd = 7 ∨ kd = 8 ∨ kd = 9 ∨ kd = 10 ∨ kd = 11 ∨ kd = 12 ∨ kd = 13 ∨ kd = 14 ∨ kd = 15 := by
  apply Classical.byContradiction
  intro hn
  simp only [not_or] at hn
  exact fitKd hn h
theorem fit_a {t : Tbl} {n : Nat} {kd a b c : Int32} (h : fitK t n kd a b c) (hf : finK kd) : vp_in a n := by
  rcases fitK_cases h with e | e | e | e | e | e | e | e | e | e | e | e | e | e | e | e
  · rw [e] at hf; exact absurd hf finK0
  · rw [e] at hf; exact absurd hf finK1
  · exact ((fitK2 e).mp h).1.1
  · exact ((fitK3 e).mp h).1.1
  · rw [e] at hf; exact absurd hf finK4
  · exact ((fitK5 e).mp h).1.1
  · exact ((fitK6 e).mp h).1.1
  · rw [e] at hf; exact absurd hf finK7
  · exact ((fitK8 e).mp h).1
  · exact ((fitK9 e).mp h).1.1
  · exact ((fitK10 e).mp h).1.1
  · rw [e] at hf; exact absurd hf finK11
  · rw [e] at hf; exact absurd hf finK12
  · exact ((fitK13 e).mp h).1.1
  · exact ((fitK14 e).mp h).1.1
  · exact ((fitK15 e).mp h).1.1
theorem fit_b {t : Tbl} {n : Nat} {kd a b c : Int32} (h : fitK t n kd a b c) (hf : sinK kd) : vp_in b n := by
  rcases fitK_cases h with e | e | e | e | e | e | e | e | e | e | e | e | e | e | e | e
  · rw [e] at hf; exact absurd hf sinK0
  · rw [e] at hf; exact absurd hf sinK1
  · exact ((fitK2 e).mp h).2.1
  · exact ((fitK3 e).mp h).2.1
  · exact ((fitK4 e).mp h).2.1
  · exact ((fitK5 e).mp h).2.1
  · exact ((fitK6 e).mp h).2.1
  · exact ((fitK7 e).mp h).2.1
  · rw [e] at hf; exact absurd hf sinK8
  · exact ((fitK9 e).mp h).2.1
  · exact ((fitK10 e).mp h).2.1
  · rw [e] at hf; exact absurd hf sinK11
  · exact ((fitK12 e).mp h).2.1
  · exact ((fitK13 e).mp h).2.1
  · exact ((fitK14 e).mp h).2.1.1
  · exact ((fitK15 e).mp h).2.1.1
theorem fit_c {t : Tbl} {n : Nat} {kd a b c : Int32} (h : fitK t n kd a b c) (hf : 13 < kd) : vp_in c n := by
  rcases fitK_cases h with e | e | e | e | e | e | e | e | e | e | e | e | e | e | e | e
  · rw [e] at hf; exact absurd hf (by decide)
  · rw [e] at hf; exact absurd hf (by decide)
  · rw [e] at hf; exact absurd hf (by decide)
  · rw [e] at hf; exact absurd hf (by decide)
  · rw [e] at hf; exact absurd hf (by decide)
  · rw [e] at hf; exact absurd hf (by decide)
  · rw [e] at hf; exact absurd hf (by decide)
  · rw [e] at hf; exact absurd hf (by decide)
  · rw [e] at hf; exact absurd hf (by decide)
  · rw [e] at hf; exact absurd hf (by decide)
  · rw [e] at hf; exact absurd hf (by decide)
  · rw [e] at hf; exact absurd hf (by decide)
  · rw [e] at hf; exact absurd hf (by decide)
  · rw [e] at hf; exact absurd hf (by decide)
  · exact ((fitK14 e).mp h).2.2.1
  · exact ((fitK15 e).mp h).2.2.1
noncomputable def cif {α : Type} (P : Prop) (x y : α) : α := @ite α P (Classical.propDecidable P) x y
theorem cif_t {α : Type} {P : Prop} {x y : α} (h : P) : cif P x y = x := by unfold cif; rw [if_pos h]
theorem cif_f {α : Type} {P : Prop} {x y : α} (h : ¬ P) : cif P x y = y := by unfold cif; rw [if_neg h]
noncomputable def hM1 (t : Tbl) (kd a : Int32) : Int32 := cif (finK kd) (hwV t 1 a) 1
noncomputable def hM2 (t : Tbl) (kd a b : Int32) : Int32 := cif (sinK kd) (hwV t (hM1 t kd a) b) (hM1 t kd a)
noncomputable def hM3 (t : Tbl) (kd a b c : Int32) : Int32 := cif (13 < kd) (hwV t (hM2 t kd a b) c) (hM2 t kd a b)
/-- the height of a node to be made is the same on both sides -/
theorem hM3_eq {t : Tbl} {n : Nat} (hw : WF t n) {kd a b c : Int32} (h : fitK t n kd a b c) : hM3 t kd a b c = hgt t kd a b c ∧ 1 ≤ ix (hgt t kd a b c) ∧ (hgt t kd a b c = nI (ix (hgt t kd a b c))) ∧ ix (hgt t kd a b c) ≤ 7 ∧
    (finK kd → hN t (ix a) < ix (hgt t kd a b c)) ∧ (sinK kd → hN t (ix b) < ix (hgt t kd a b c)) ∧ (13 < kd → hN t (ix c) < ix (hgt t kd a b c)) := by
  have hgN : ∀ {x : Int32}, vp_in x n → hN t (ix x) ≤ 6 ∧ t 4 (ix x) = nI (hN t (ix x)) := by
    intro x hx
    obtain ⟨q1, q2⟩ := (hw.2 _ (vp_lt hx)).2.1
    refine ⟨q2, ?_⟩
    have h9 : ¬ t 4 (ix x) < 0 := fun z => by
      have : ix (t 4 (ix x)) = 0 := by
        have := Int32.lt_iff_toInt_lt.mp z
        have e0 : (0 : Int32).toInt = 0 := by decide
        show (t 4 (ix x)).toInt.toNat = 0
        omega
      unfold hN at q1
      omega
    obtain ⟨j, hj, e⟩ := nI_of h9
    unfold hN
    rw [e, ix, nI_clamp hj]
  have k3 : ∀ x, x < 7 → ∀ y, y < 7 → ∀ z, z < 7 → (if nI z + 1 ≤ (if nI y + 1 ≤ (if nI x + 1 ≤ 1 then (1 : Int32) else nI x + 1) then (if nI x + 1 ≤ 1 then (1 : Int32) else nI x + 1) else nI y + 1) then (if nI y + 1 ≤ (if nI x + 1 ≤ 1 then (1 : Int32) else nI x + 1) then (if nI x + 1 ≤ 1 then (1 : Int32) else nI x + 1) else nI y + 1) else nI z + 1) = 1 + mx (mx (nI x) (nI y)) (nI z) := by decide +kernel
  have k2 : ∀ x, x < 7 → ∀ y, y < 7 → (if nI y + 1 ≤ (if nI x + 1 ≤ 1 then (1 : Int32) else nI x + 1) then (if nI x + 1 ≤ 1 then (1 : Int32) else nI x + 1) else nI y + 1) = 1 + mx (mx (nI x) (nI y)) 0 := by decide +kernel
  have k1a : ∀ x, x < 7 → (if nI x + 1 ≤ 1 then (1 : Int32) else nI x + 1) = 1 + mx (mx (nI x) 0) 0 := by decide +kernel
  have k1b : ∀ x, x < 7 → (if nI x + 1 ≤ 1 then (1 : Int32) else nI x + 1) = 1 + mx (mx 0 (nI x)) 0 := by decide +kernel
  have k0 : (1 : Int32) = 1 + mx (mx 0 0) 0 := by decide
  have r3 : ∀ x, x < 7 → ∀ y, y < 7 → ∀ z, z < 7 → 1 ≤ ix (1 + mx (mx (nI x) (nI y)) (nI z)) ∧ 1 + mx (mx (nI x) (nI y)) (nI z) = nI (ix (1 + mx (mx (nI x) (nI y)) (nI z))) ∧ ix (1 + mx (mx (nI x) (nI y)) (nI z)) ≤ 7 ∧ x < ix (1 + mx (mx (nI x) (nI y)) (nI z)) ∧ y < ix (1 + mx (mx (nI x) (nI y)) (nI z)) ∧ z < ix (1 + mx (mx (nI x) (nI y)) (nI z)) := by decide +kernel
  have z0 : nI 0 = 0 := rfl
  rcases fitK_cases h with e | e | e | e | e | e | e | e | e | e | e | e | e | e | e | e
  · have hw0 : wtf 0 (ix kd) = 1 := by rw [e]; decide
    have hw1 : wtf 1 (ix kd) = 0 := by rw [e]; decide
    have hw2 : wtf 2 (ix kd) = 0 := by rw [e]; decide
    have hf : ¬ finK kd := by rw [e]; exact finK0
    have hs : ¬ sinK kd := by rw [e]; exact sinK0
    have h3 : ¬ 13 < kd := by rw [e]; decide
    have eg : hgt t kd a b c = 1 + mx (mx (nI 0) (nI 0)) (nI 0) := by
      unfold hgt
      rw [hw0, hw1, hw2, show hb t 1 a = nI 0 by rw [hb, if_pos (by decide)]; rfl, show hb t 0 b = nI 0 by rw [hb, if_pos (by decide)]; rfl, show hb t 0 c = nI 0 by rw [hb, if_pos (by decide)]; rfl]
    have em : hM3 t kd a b c = 1 + mx (mx (nI 0) (nI 0)) (nI 0) := by
      unfold hM3 hM2 hM1
      rw [cif_f h3, cif_f hs, cif_f hf]
      rw [z0]; exact k0
    obtain ⟨p1, p2, p3, p4, p5, p6⟩ := r3 0 (by decide) 0 (by decide) 0 (by decide)
    rw [eg, em]
    exact ⟨rfl, p1, p2, p3, fun w => absurd w hf, fun w => absurd w hs, fun w => absurd w h3⟩
  · have hw0 : wtf 0 (ix kd) = 4 := by rw [e]; decide
    have hw1 : wtf 1 (ix kd) = 0 := by rw [e]; decide
    have hw2 : wtf 2 (ix kd) = 0 := by rw [e]; decide
    have hf : ¬ finK kd := by rw [e]; exact finK1
    have hs : ¬ sinK kd := by rw [e]; exact sinK1
    have h3 : ¬ 13 < kd := by rw [e]; decide
    have eg : hgt t kd a b c = 1 + mx (mx (nI 0) (nI 0)) (nI 0) := by
      unfold hgt
      rw [hw0, hw1, hw2, show hb t 4 a = nI 0 by rw [hb, if_pos (by decide)]; rfl, show hb t 0 b = nI 0 by rw [hb, if_pos (by decide)]; rfl, show hb t 0 c = nI 0 by rw [hb, if_pos (by decide)]; rfl]
    have em : hM3 t kd a b c = 1 + mx (mx (nI 0) (nI 0)) (nI 0) := by
      unfold hM3 hM2 hM1
      rw [cif_f h3, cif_f hs, cif_f hf]
      rw [z0]; exact k0
    obtain ⟨p1, p2, p3, p4, p5, p6⟩ := r3 0 (by decide) 0 (by decide) 0 (by decide)
    rw [eg, em]
    exact ⟨rfl, p1, p2, p3, fun w => absurd w hf, fun w => absurd w hs, fun w => absurd w h3⟩
  · have hw0 : wtf 0 (ix kd) = 5 := by rw [e]; decide
    have hw1 : wtf 1 (ix kd) = 5 := by rw [e]; decide
    have hw2 : wtf 2 (ix kd) = 0 := by rw [e]; decide
    have hf : finK kd := by rw [e]; exact finK2
    have hs : sinK kd := by rw [e]; exact sinK2
    have h3 : ¬ 13 < kd := by rw [e]; decide
    obtain ⟨la, ea⟩ := hgN (fit_a h hf)
    obtain ⟨lb, eb⟩ := hgN (fit_b h hs)
    have eg : hgt t kd a b c = 1 + mx (mx (nI (hN t (ix a))) (nI (hN t (ix b)))) (nI 0) := by
      unfold hgt
      rw [hw0, hw1, hw2, show hb t 5 a = nI (hN t (ix a)) by rw [hb, if_neg (by decide), ea], show hb t 5 b = nI (hN t (ix b)) by rw [hb, if_neg (by decide), eb], show hb t 0 c = nI 0 by rw [hb, if_pos (by decide)]; rfl]
    have em : hM3 t kd a b c = 1 + mx (mx (nI (hN t (ix a))) (nI (hN t (ix b)))) (nI 0) := by
      unfold hM3 hM2 hM1
      rw [cif_f h3, cif_t hs, cif_t hf]
      unfold hwV
      rw [ea, eb]
      rw [z0]; exact k2 _ (by omega) _ (by omega)
    obtain ⟨p1, p2, p3, p4, p5, p6⟩ := r3 (hN t (ix a)) (by omega) (hN t (ix b)) (by omega) 0 (by decide)
    rw [eg, em]
    exact ⟨rfl, p1, p2, p3, fun _ => p4, fun _ => p5, fun w => absurd w h3⟩
  · have hw0 : wtf 0 (ix kd) = 5 := by rw [e]; decide
    have hw1 : wtf 1 (ix kd) = 5 := by rw [e]; decide
    have hw2 : wtf 2 (ix kd) = 0 := by rw [e]; decide
    have hf : finK kd := by rw [e]; exact finK3
    have hs : sinK kd := by rw [e]; exact sinK3
    have h3 : ¬ 13 < kd := by rw [e]; decide
    obtain ⟨la, ea⟩ := hgN (fit_a h hf)
    obtain ⟨lb, eb⟩ := hgN (fit_b h hs)
    have eg : hgt t kd a b c = 1 + mx (mx (nI (hN t (ix a))) (nI (hN t (ix b)))) (nI 0) := by
      unfold hgt
      rw [hw0, hw1, hw2, show hb t 5 a = nI (hN t (ix a)) by rw [hb, if_neg (by decide), ea], show hb t 5 b = nI (hN t (ix b)) by rw [hb, if_neg (by decide), eb], show hb t 0 c = nI 0 by rw [hb, if_pos (by decide)]; rfl]
    have em : hM3 t kd a b c = 1 + mx (mx (nI (hN t (ix a))) (nI (hN t (ix b)))) (nI 0) := by
      unfold hM3 hM2 hM1
      rw [cif_f h3, cif_t hs, cif_t hf]
      unfold hwV
      rw [ea, eb]
      rw [z0]; exact k2 _ (by omega) _ (by omega)
    obtain ⟨p1, p2, p3, p4, p5, p6⟩ := r3 (hN t (ix a)) (by omega) (hN t (ix b)) (by omega) 0 (by decide)
    rw [eg, em]
    exact ⟨rfl, p1, p2, p3, fun _ => p4, fun _ => p5, fun w => absurd w h3⟩
  · have hw0 : wtf 0 (ix kd) = 2 := by rw [e]; decide
    have hw1 : wtf 1 (ix kd) = 5 := by rw [e]; decide
    have hw2 : wtf 2 (ix kd) = 0 := by rw [e]; decide
    have hf : ¬ finK kd := by rw [e]; exact finK4
    have hs : sinK kd := by rw [e]; exact sinK4
    have h3 : ¬ 13 < kd := by rw [e]; decide
    obtain ⟨lb, eb⟩ := hgN (fit_b h hs)
    have eg : hgt t kd a b c = 1 + mx (mx (nI 0) (nI (hN t (ix b)))) (nI 0) := by
      unfold hgt
      rw [hw0, hw1, hw2, show hb t 2 a = nI 0 by rw [hb, if_pos (by decide)]; rfl, show hb t 5 b = nI (hN t (ix b)) by rw [hb, if_neg (by decide), eb], show hb t 0 c = nI 0 by rw [hb, if_pos (by decide)]; rfl]
    have em : hM3 t kd a b c = 1 + mx (mx (nI 0) (nI (hN t (ix b)))) (nI 0) := by
      unfold hM3 hM2 hM1
      rw [cif_f h3, cif_t hs, cif_f hf]
      unfold hwV
      rw [eb]
      rw [z0]; exact k1b _ (by omega)
    obtain ⟨p1, p2, p3, p4, p5, p6⟩ := r3 0 (by decide) (hN t (ix b)) (by omega) 0 (by decide)
    rw [eg, em]
    exact ⟨rfl, p1, p2, p3, fun w => absurd w hf, fun _ => p5, fun w => absurd w h3⟩
  · have hw0 : wtf 0 (ix kd) = 5 := by rw [e]; decide
    have hw1 : wtf 1 (ix kd) = 5 := by rw [e]; decide
    have hw2 : wtf 2 (ix kd) = 0 := by rw [e]; decide
    have hf : finK kd := by rw [e]; exact finK5
    have hs : sinK kd := by rw [e]; exact sinK5
    have h3 : ¬ 13 < kd := by rw [e]; decide
    obtain ⟨la, ea⟩ := hgN (fit_a h hf)
    obtain ⟨lb, eb⟩ := hgN (fit_b h hs)
    have eg : hgt t kd a b c = 1 + mx (mx (nI (hN t (ix a))) (nI (hN t (ix b)))) (nI 0) := by
      unfold hgt
      rw [hw0, hw1, hw2, show hb t 5 a = nI (hN t (ix a)) by rw [hb, if_neg (by decide), ea], show hb t 5 b = nI (hN t (ix b)) by rw [hb, if_neg (by decide), eb], show hb t 0 c = nI 0 by rw [hb, if_pos (by decide)]; rfl]
    have em : hM3 t kd a b c = 1 + mx (mx (nI (hN t (ix a))) (nI (hN t (ix b)))) (nI 0) := by
      unfold hM3 hM2 hM1
      rw [cif_f h3, cif_t hs, cif_t hf]
      unfold hwV
      rw [ea, eb]
      rw [z0]; exact k2 _ (by omega) _ (by omega)
    obtain ⟨p1, p2, p3, p4, p5, p6⟩ := r3 (hN t (ix a)) (by omega) (hN t (ix b)) (by omega) 0 (by decide)
    rw [eg, em]
    exact ⟨rfl, p1, p2, p3, fun _ => p4, fun _ => p5, fun w => absurd w h3⟩
  · have hw0 : wtf 0 (ix kd) = 5 := by rw [e]; decide
    have hw1 : wtf 1 (ix kd) = 5 := by rw [e]; decide
    have hw2 : wtf 2 (ix kd) = 0 := by rw [e]; decide
    have hf : finK kd := by rw [e]; exact finK6
    have hs : sinK kd := by rw [e]; exact sinK6
    have h3 : ¬ 13 < kd := by rw [e]; decide
    obtain ⟨la, ea⟩ := hgN (fit_a h hf)
    obtain ⟨lb, eb⟩ := hgN (fit_b h hs)
    have eg : hgt t kd a b c = 1 + mx (mx (nI (hN t (ix a))) (nI (hN t (ix b)))) (nI 0) := by
      unfold hgt
      rw [hw0, hw1, hw2, show hb t 5 a = nI (hN t (ix a)) by rw [hb, if_neg (by decide), ea], show hb t 5 b = nI (hN t (ix b)) by rw [hb, if_neg (by decide), eb], show hb t 0 c = nI 0 by rw [hb, if_pos (by decide)]; rfl]
    have em : hM3 t kd a b c = 1 + mx (mx (nI (hN t (ix a))) (nI (hN t (ix b)))) (nI 0) := by
      unfold hM3 hM2 hM1
      rw [cif_f h3, cif_t hs, cif_t hf]
      unfold hwV
      rw [ea, eb]
      rw [z0]; exact k2 _ (by omega) _ (by omega)
    obtain ⟨p1, p2, p3, p4, p5, p6⟩ := r3 (hN t (ix a)) (by omega) (hN t (ix b)) (by omega) 0 (by decide)
    rw [eg, em]
    exact ⟨rfl, p1, p2, p3, fun _ => p4, fun _ => p5, fun w => absurd w h3⟩
  · have hw0 : wtf 0 (ix kd) = 3 := by rw [e]; decide
    have hw1 : wtf 1 (ix kd) = 5 := by rw [e]; decide
    have hw2 : wtf 2 (ix kd) = 0 := by rw [e]; decide
    have hf : ¬ finK kd := by rw [e]; exact finK7
    have hs : sinK kd := by rw [e]; exact sinK7
    have h3 : ¬ 13 < kd := by rw [e]; decide
    obtain ⟨lb, eb⟩ := hgN (fit_b h hs)
    have eg : hgt t kd a b c = 1 + mx (mx (nI 0) (nI (hN t (ix b)))) (nI 0) := by
      unfold hgt
      rw [hw0, hw1, hw2, show hb t 3 a = nI 0 by rw [hb, if_pos (by decide)]; rfl, show hb t 5 b = nI (hN t (ix b)) by rw [hb, if_neg (by decide), eb], show hb t 0 c = nI 0 by rw [hb, if_pos (by decide)]; rfl]
    have em : hM3 t kd a b c = 1 + mx (mx (nI 0) (nI (hN t (ix b)))) (nI 0) := by
      unfold hM3 hM2 hM1
      rw [cif_f h3, cif_t hs, cif_f hf]
      unfold hwV
      rw [eb]
      rw [z0]; exact k1b _ (by omega)
    obtain ⟨p1, p2, p3, p4, p5, p6⟩ := r3 0 (by decide) (hN t (ix b)) (by omega) 0 (by decide)
    rw [eg, em]
    exact ⟨rfl, p1, p2, p3, fun w => absurd w hf, fun _ => p5, fun w => absurd w h3⟩
  · have hw0 : wtf 0 (ix kd) = 6 := by rw [e]; decide
    have hw1 : wtf 1 (ix kd) = 0 := by rw [e]; decide
    have hw2 : wtf 2 (ix kd) = 0 := by rw [e]; decide
    have hf : finK kd := by rw [e]; exact finK8
    have hs : ¬ sinK kd := by rw [e]; exact sinK8
    have h3 : ¬ 13 < kd := by rw [e]; decide
    obtain ⟨la, ea⟩ := hgN (fit_a h hf)
    have eg : hgt t kd a b c = 1 + mx (mx (nI (hN t (ix a))) (nI 0)) (nI 0) := by
      unfold hgt
      rw [hw0, hw1, hw2, show hb t 6 a = nI (hN t (ix a)) by rw [hb, if_neg (by decide), ea], show hb t 0 b = nI 0 by rw [hb, if_pos (by decide)]; rfl, show hb t 0 c = nI 0 by rw [hb, if_pos (by decide)]; rfl]
    have em : hM3 t kd a b c = 1 + mx (mx (nI (hN t (ix a))) (nI 0)) (nI 0) := by
      unfold hM3 hM2 hM1
      rw [cif_f h3, cif_f hs, cif_t hf]
      unfold hwV
      rw [ea]
      rw [z0]; exact k1a _ (by omega)
    obtain ⟨p1, p2, p3, p4, p5, p6⟩ := r3 (hN t (ix a)) (by omega) 0 (by decide) 0 (by decide)
    rw [eg, em]
    exact ⟨rfl, p1, p2, p3, fun _ => p4, fun w => absurd w hs, fun w => absurd w h3⟩
  · have hw0 : wtf 0 (ix kd) = 6 := by rw [e]; decide
    have hw1 : wtf 1 (ix kd) = 6 := by rw [e]; decide
    have hw2 : wtf 2 (ix kd) = 0 := by rw [e]; decide
    have hf : finK kd := by rw [e]; exact finK9
    have hs : sinK kd := by rw [e]; exact sinK9
    have h3 : ¬ 13 < kd := by rw [e]; decide
    obtain ⟨la, ea⟩ := hgN (fit_a h hf)
    obtain ⟨lb, eb⟩ := hgN (fit_b h hs)
    have eg : hgt t kd a b c = 1 + mx (mx (nI (hN t (ix a))) (nI (hN t (ix b)))) (nI 0) := by
      unfold hgt
      rw [hw0, hw1, hw2, show hb t 6 a = nI (hN t (ix a)) by rw [hb, if_neg (by decide), ea], show hb t 6 b = nI (hN t (ix b)) by rw [hb, if_neg (by decide), eb], show hb t 0 c = nI 0 by rw [hb, if_pos (by decide)]; rfl]
    have em : hM3 t kd a b c = 1 + mx (mx (nI (hN t (ix a))) (nI (hN t (ix b)))) (nI 0) := by
      unfold hM3 hM2 hM1
      rw [cif_f h3, cif_t hs, cif_t hf]
      unfold hwV
      rw [ea, eb]
      rw [z0]; exact k2 _ (by omega) _ (by omega)
    obtain ⟨p1, p2, p3, p4, p5, p6⟩ := r3 (hN t (ix a)) (by omega) (hN t (ix b)) (by omega) 0 (by decide)
    rw [eg, em]
    exact ⟨rfl, p1, p2, p3, fun _ => p4, fun _ => p5, fun w => absurd w h3⟩
  · have hw0 : wtf 0 (ix kd) = 6 := by rw [e]; decide
    have hw1 : wtf 1 (ix kd) = 6 := by rw [e]; decide
    have hw2 : wtf 2 (ix kd) = 0 := by rw [e]; decide
    have hf : finK kd := by rw [e]; exact finK10
    have hs : sinK kd := by rw [e]; exact sinK10
    have h3 : ¬ 13 < kd := by rw [e]; decide
    obtain ⟨la, ea⟩ := hgN (fit_a h hf)
    obtain ⟨lb, eb⟩ := hgN (fit_b h hs)
    have eg : hgt t kd a b c = 1 + mx (mx (nI (hN t (ix a))) (nI (hN t (ix b)))) (nI 0) := by
      unfold hgt
      rw [hw0, hw1, hw2, show hb t 6 a = nI (hN t (ix a)) by rw [hb, if_neg (by decide), ea], show hb t 6 b = nI (hN t (ix b)) by rw [hb, if_neg (by decide), eb], show hb t 0 c = nI 0 by rw [hb, if_pos (by decide)]; rfl]
    have em : hM3 t kd a b c = 1 + mx (mx (nI (hN t (ix a))) (nI (hN t (ix b)))) (nI 0) := by
      unfold hM3 hM2 hM1
      rw [cif_f h3, cif_t hs, cif_t hf]
      unfold hwV
      rw [ea, eb]
      rw [z0]; exact k2 _ (by omega) _ (by omega)
    obtain ⟨p1, p2, p3, p4, p5, p6⟩ := r3 (hN t (ix a)) (by omega) (hN t (ix b)) (by omega) 0 (by decide)
    rw [eg, em]
    exact ⟨rfl, p1, p2, p3, fun _ => p4, fun _ => p5, fun w => absurd w h3⟩
  · have hw0 : wtf 0 (ix kd) = 0 := by rw [e]; decide
    have hw1 : wtf 1 (ix kd) = 0 := by rw [e]; decide
    have hw2 : wtf 2 (ix kd) = 0 := by rw [e]; decide
    have hf : ¬ finK kd := by rw [e]; exact finK11
    have hs : ¬ sinK kd := by rw [e]; exact sinK11
    have h3 : ¬ 13 < kd := by rw [e]; decide
    have eg : hgt t kd a b c = 1 + mx (mx (nI 0) (nI 0)) (nI 0) := by
      unfold hgt
      rw [hw0, hw1, hw2, show hb t 0 a = nI 0 by rw [hb, if_pos (by decide)]; rfl, show hb t 0 b = nI 0 by rw [hb, if_pos (by decide)]; rfl, show hb t 0 c = nI 0 by rw [hb, if_pos (by decide)]; rfl]
    have em : hM3 t kd a b c = 1 + mx (mx (nI 0) (nI 0)) (nI 0) := by
      unfold hM3 hM2 hM1
      rw [cif_f h3, cif_f hs, cif_f hf]
      rw [z0]; exact k0
    obtain ⟨p1, p2, p3, p4, p5, p6⟩ := r3 0 (by decide) 0 (by decide) 0 (by decide)
    rw [eg, em]
    exact ⟨rfl, p1, p2, p3, fun w => absurd w hf, fun w => absurd w hs, fun w => absurd w h3⟩
  · have hw0 : wtf 0 (ix kd) = 4 := by rw [e]; decide
    have hw1 : wtf 1 (ix kd) = 5 := by rw [e]; decide
    have hw2 : wtf 2 (ix kd) = 0 := by rw [e]; decide
    have hf : ¬ finK kd := by rw [e]; exact finK12
    have hs : sinK kd := by rw [e]; exact sinK12
    have h3 : ¬ 13 < kd := by rw [e]; decide
    obtain ⟨lb, eb⟩ := hgN (fit_b h hs)
    have eg : hgt t kd a b c = 1 + mx (mx (nI 0) (nI (hN t (ix b)))) (nI 0) := by
      unfold hgt
      rw [hw0, hw1, hw2, show hb t 4 a = nI 0 by rw [hb, if_pos (by decide)]; rfl, show hb t 5 b = nI (hN t (ix b)) by rw [hb, if_neg (by decide), eb], show hb t 0 c = nI 0 by rw [hb, if_pos (by decide)]; rfl]
    have em : hM3 t kd a b c = 1 + mx (mx (nI 0) (nI (hN t (ix b)))) (nI 0) := by
      unfold hM3 hM2 hM1
      rw [cif_f h3, cif_t hs, cif_f hf]
      unfold hwV
      rw [eb]
      rw [z0]; exact k1b _ (by omega)
    obtain ⟨p1, p2, p3, p4, p5, p6⟩ := r3 0 (by decide) (hN t (ix b)) (by omega) 0 (by decide)
    rw [eg, em]
    exact ⟨rfl, p1, p2, p3, fun w => absurd w hf, fun _ => p5, fun w => absurd w h3⟩
  · have hw0 : wtf 0 (ix kd) = 7 := by rw [e]; decide
    have hw1 : wtf 1 (ix kd) = 7 := by rw [e]; decide
    have hw2 : wtf 2 (ix kd) = 0 := by rw [e]; decide
    have hf : finK kd := by rw [e]; exact finK13
    have hs : sinK kd := by rw [e]; exact sinK13
    have h3 : ¬ 13 < kd := by rw [e]; decide
    obtain ⟨la, ea⟩ := hgN (fit_a h hf)
    obtain ⟨lb, eb⟩ := hgN (fit_b h hs)
    have eg : hgt t kd a b c = 1 + mx (mx (nI (hN t (ix a))) (nI (hN t (ix b)))) (nI 0) := by
      unfold hgt
      rw [hw0, hw1, hw2, show hb t 7 a = nI (hN t (ix a)) by rw [hb, if_neg (by decide), ea], show hb t 7 b = nI (hN t (ix b)) by rw [hb, if_neg (by decide), eb], show hb t 0 c = nI 0 by rw [hb, if_pos (by decide)]; rfl]
    have em : hM3 t kd a b c = 1 + mx (mx (nI (hN t (ix a))) (nI (hN t (ix b)))) (nI 0) := by
      unfold hM3 hM2 hM1
      rw [cif_f h3, cif_t hs, cif_t hf]
      unfold hwV
      rw [ea, eb]
      rw [z0]; exact k2 _ (by omega) _ (by omega)
    obtain ⟨p1, p2, p3, p4, p5, p6⟩ := r3 (hN t (ix a)) (by omega) (hN t (ix b)) (by omega) 0 (by decide)
    rw [eg, em]
    exact ⟨rfl, p1, p2, p3, fun _ => p4, fun _ => p5, fun w => absurd w h3⟩
  · have hw0 : wtf 0 (ix kd) = 6 := by rw [e]; decide
    have hw1 : wtf 1 (ix kd) = 7 := by rw [e]; decide
    have hw2 : wtf 2 (ix kd) = 7 := by rw [e]; decide
    have hf : finK kd := by rw [e]; exact finK14
    have hs : sinK kd := by rw [e]; exact sinK14
    have h3 : 13 < kd := by rw [e]; decide
    obtain ⟨la, ea⟩ := hgN (fit_a h hf)
    obtain ⟨lb, eb⟩ := hgN (fit_b h hs)
    obtain ⟨lc, ec⟩ := hgN (fit_c h h3)
    have eg : hgt t kd a b c = 1 + mx (mx (nI (hN t (ix a))) (nI (hN t (ix b)))) (nI (hN t (ix c))) := by
      unfold hgt
      rw [hw0, hw1, hw2, show hb t 6 a = nI (hN t (ix a)) by rw [hb, if_neg (by decide), ea], show hb t 7 b = nI (hN t (ix b)) by rw [hb, if_neg (by decide), eb], show hb t 7 c = nI (hN t (ix c)) by rw [hb, if_neg (by decide), ec]]
    have em : hM3 t kd a b c = 1 + mx (mx (nI (hN t (ix a))) (nI (hN t (ix b)))) (nI (hN t (ix c))) := by
      unfold hM3 hM2 hM1
      rw [cif_t h3, cif_t hs, cif_t hf]
      unfold hwV
      rw [ea, eb, ec]
      exact k3 _ (by omega) _ (by omega) _ (by omega)
    obtain ⟨p1, p2, p3, p4, p5, p6⟩ := r3 (hN t (ix a)) (by omega) (hN t (ix b)) (by omega) (hN t (ix c)) (by omega)
    rw [eg, em]
    exact ⟨rfl, p1, p2, p3, fun _ => p4, fun _ => p5, fun _ => p6⟩
  · have hw0 : wtf 0 (ix kd) = 6 := by rw [e]; decide
    have hw1 : wtf 1 (ix kd) = 6 := by rw [e]; decide
    have hw2 : wtf 2 (ix kd) = 7 := by rw [e]; decide
    have hf : finK kd := by rw [e]; exact finK15
    have hs : sinK kd := by rw [e]; exact sinK15
    have h3 : 13 < kd := by rw [e]; decide
    obtain ⟨la, ea⟩ := hgN (fit_a h hf)
    obtain ⟨lb, eb⟩ := hgN (fit_b h hs)
    obtain ⟨lc, ec⟩ := hgN (fit_c h h3)
    have eg : hgt t kd a b c = 1 + mx (mx (nI (hN t (ix a))) (nI (hN t (ix b)))) (nI (hN t (ix c))) := by
      unfold hgt
      rw [hw0, hw1, hw2, show hb t 6 a = nI (hN t (ix a)) by rw [hb, if_neg (by decide), ea], show hb t 6 b = nI (hN t (ix b)) by rw [hb, if_neg (by decide), eb], show hb t 7 c = nI (hN t (ix c)) by rw [hb, if_neg (by decide), ec]]
    have em : hM3 t kd a b c = 1 + mx (mx (nI (hN t (ix a))) (nI (hN t (ix b)))) (nI (hN t (ix c))) := by
      unfold hM3 hM2 hM1
      rw [cif_t h3, cif_t hs, cif_t hf]
      unfold hwV
      rw [ea, eb, ec]
      exact k3 _ (by omega) _ (by omega) _ (by omega)
    obtain ⟨p1, p2, p3, p4, p5, p6⟩ := r3 (hN t (ix a)) (by omega) (hN t (ix b)) (by omega) (hN t (ix c)) (by omega)
    rw [eg, em]
    exact ⟨rfl, p1, p2, p3, fun _ => p4, fun _ => p5, fun _ => p6⟩
