/-! THE WORLD AT THE LAW'S LOOP -/
def sg0 : Mem := (fun g _ k => cond (Nat.beq g 36 && (Nat.beq k 0 || Nat.beq k 1 || Nat.beq k 5)) (-1) 0, fun _ _ => 0, fun _ _ => 0)
def mdW (cA : Nat → ClassId) (h q0 q1 q2 q3 q4 q5 q6 q7 q8 q9 q10 q11 q12 q13 q14 q15 q16 q17 q18 q19 q20 q21 : Nat) : va_W := [(h, .inr (5, [.int 0, .int 0, .ref q0, .ref q1, .ref q2, .ref q3, .ref q4, .ref q5, .ref q6, .int 0, .ref q7, .ref q8, .int 0, .ref q9, .ref q10, .ref q11, .int 0, .int 0, .ref q12, .ref q13, .ref q14, .ref q15, .ref q16, .ref q17, .ref q18, .ref q19, .ref q20, .ref q21])), (q0, .inl (cA 0, (60, .inl (fun _ => 0)))), (q1, .inl (cA 0, (60, .inl (fun _ => 0)))), (q2, .inl (cA 0, (60, .inl (fun _ => 0)))), (q3, .inl (cA 0, (60, .inl (fun _ => 0)))), (q4, .inl (cA 0, (60, .inl (fun _ => 0)))), (q5, .inl (cA 1, (60, .inr (.inl (fun _ => 0))))), (q6, .inl (cA 0, (60, .inl (fun _ => 0)))), (q7, .inl (cA 0, (400, .inl (fun _ => 0)))), (q8, .inl (cA 0, (400, .inl (fun _ => 0)))), (q9, .inl (cA 0, (20, .inl (fun _ => 0)))), (q10, .inl (cA 0, (20, .inl (fun _ => 0)))), (q11, .inl (cA 0, (20, .inl (fun _ => 0)))), (q12, .inl (cA 0, (20, .inl (fun _ => 0)))), (q13, .inl (cA 0, (20, .inl (fun _ => 0)))), (q14, .inl (cA 0, (20, .inl (fun _ => 0)))), (q15, .inl (cA 0, (400, .inl (fun _ => 0)))), (q16, .inl (cA 0, (400, .inl (fun _ => 0)))), (q17, .inl (cA 0, (100, .inl (fun _ => 0)))), (q18, .inl (cA 0, (100, .inl (fun _ => 0)))), (q19, .inl (cA 2, (16, .inl (fun _ => 0)))), (q20, .inl (cA 0, (2048, .inl (fun _ => 0)))), (q21, .inl (cA 0, (64, .inl (fun _ => 0))))]
def adW (as : List Nat) (Ls : List (Nat × Nat)) (a1 : Nat → Nat → Nat) (b : Nat) : Nat → Nat → Nat := fun g i => cond (Nat.blt g 36) (as.getD g 0) (cond (Nat.beq g 36) (((Ls[i]?).map Prod.fst).getD 0) (cond (Nat.beq g 37) (((Ls[i]?).map Prod.snd).getD 0) (cond (Nat.beq g 43) b (a1 g i))))
def ouW (cA : Nat → ClassId) (lo dou : Nat) : va_W := [(lo, .inl (cA 1, (1, .inr (.inl (fun _ => 0))))), (dou, .inl (cA 3, (1, .inr (.inr (.inr (.inl (fun _ => 0)))))))]
theorem D_set {A : Nat → Prop} {ws : va_W} {k a : Nat} {e e' : va_E} (hD : va_D A ws) (hk : ws[k]? = some (a, e)) : va_D A (ws.set k (a, e')) := by
  have hlt := (List.getElem?_eq_some_iff.mp hk).1
  have back : ∀ (j : Nat) (q : Nat × va_E), (ws.set k (a, e'))[j]? = some q → ∃ q', ws[j]? = some q' ∧ q'.1 = q.1 := by
    intro j q hq
    by_cases hj : j = k
    · subst hj
      rw [List.getElem?_set_self hlt] at hq
      cases hq
      exact ⟨_, hk, rfl⟩
    · rw [List.getElem?_set_ne (Ne.symm hj)] at hq
      exact ⟨q, hq, rfl⟩
  refine ⟨fun i j p q hi hj he => ?_, fun j q hj => ?_⟩
  · obtain ⟨p', h1, h2⟩ := back i p hi
    obtain ⟨q', h3, h4⟩ := back j q hj
    exact hD.1 i j p' q' h1 h3 (by rw [h2, h4, he])
  · obtain ⟨q', h1, h2⟩ := back j q hj
    rw [← h2]
    exact hD.2 j q' h1
theorem P_fun {D : va_G} {A : Nat → Prop} {ws : va_W} {H : Heap} {k a : Nat} {cB : ClassId} {f f' : Nat → Option Nat} (hP : va_P D vwCl ws H) (hD : va_D A ws) (hk : ws[k]? = some (a, .inl (cB, 16, .inr (.inr (.inr (.inr f)))))) (hf : ∀ j, j < 16 → f j = f' j) : va_P D vwCl (ws.set k (a, .inl (cB, 16, .inr (.inr (.inr (.inr f')))))) H := by
  refine va_P.set hP hD hk ?_ (fun _ _ => rfl)
  have h := hP k _ hk
  have e : vp_cell cB (16, .inr (.inr (.inr (.inr f)))) = vp_cell cB (16, .inr (.inr (.inr (.inr f')))) := by
    rw [vp_cell_q, vp_cell_q]
    unfold arrV
    congr 1
    congr 1
    funext j
    show va_rf (f j.val) = va_rf (f' j.val)
    rw [hf j.val j.isLt]
  show H[a]? = some (vp_cell cB (16, .inr (.inr (.inr (.inr f')))))
  rw [← e]
  exact h
set_option maxHeartbeats 4000000 in
set_option maxRecDepth 100000 in
theorem wld0 {D : va_G} {A : Nat → Prop} {cA : Nat → ClassId} {H : Heap} {a1 : Nat → Nat → Nat} {b : Nat} {h n b0 b1 b2 b3 b4 r d rr bh mo q0 q1 q2 q3 q4 q5 q6 q7 q8 q9 q10 q11 q12 q13 q14 q15 q16 q17 q18 q19 q20 q21 lo dou : Nat} {Ls : List (Nat × Nat)} (h16 : Ls.length = 16)
    (hP : va_P D vwCl ((dkW cA h n r d b0 b1 b2 b3 b4 ++ (bsW cA d n rr bh (fL Ls) ++ dlW cA Ls)) ++ (mdW cA mo q0 q1 q2 q3 q4 q5 q6 q7 q8 q9 q10 q11 q12 q13 q14 q15 q16 q17 q18 q19 q20 q21 ++ ouW cA lo dou)) H) (hD : va_D A ((dkW cA h n r d b0 b1 b2 b3 b4 ++ (bsW cA d n rr bh (fL Ls) ++ dlW cA Ls)) ++ (mdW cA mo q0 q1 q2 q3 q4 q5 q6 q7 q8 q9 q10 q11 q12 q13 q14 q15 q16 q17 q18 q19 q20 q21 ++ ouW cA lo dou))) :
    va_P D vwCl (wld (adW [h, n, b0, b1, b2, b3, b4, r, d, rr, bh, mo, q0, q1, q2, q3, q4, q5, q6, q7, q8, q9, q10, q11, q12, q13, q14, q15, q16, q17, q18, q19, q20, q21, lo, dou] Ls a1 b) cA sg0) H ∧ va_D A (wld (adW [h, n, b0, b1, b2, b3, b4, r, d, rr, bh, mo, q0, q1, q2, q3, q4, q5, q6, q7, q8, q9, q10, q11, q12, q13, q14, q15, q16, q17, q18, q19, q20, q21, lo, dou] Ls a1 b) cA sg0) := by
  match Ls, h16 with
  | [x0, x1, x2, x3, x4, x5, x6, x7, x8, x9, x10, x11, x12, x13, x14, x15], _ =>
    have hk : ((dkW cA h n r d b0 b1 b2 b3 b4 ++ (bsW cA d n rr bh (fL [x0, x1, x2, x3, x4, x5, x6, x7, x8, x9, x10, x11, x12, x13, x14, x15]) ++ dlW cA [x0, x1, x2, x3, x4, x5, x6, x7, x8, x9, x10, x11, x12, x13, x14, x15])) ++ (mdW cA mo q0 q1 q2 q3 q4 q5 q6 q7 q8 q9 q10 q11 q12 q13 q14 q15 q16 q17 q18 q19 q20 q21 ++ ouW cA lo dou))[9]? = some (rr, .inl (cA 4, 16, .inr (.inr (.inr (.inr (fL [x0, x1, x2, x3, x4, x5, x6, x7, x8, x9, x10, x11, x12, x13, x14, x15])))))) := rfl
    have hP2 := P_fun (f' := fun k => some (adW [h, n, b0, b1, b2, b3, b4, r, d, rr, bh, mo, q0, q1, q2, q3, q4, q5, q6, q7, q8, q9, q10, q11, q12, q13, q14, q15, q16, q17, q18, q19, q20, q21, lo, dou] [x0, x1, x2, x3, x4, x5, x6, x7, x8, x9, x10, x11, x12, x13, x14, x15] a1 b 36 k)) hP hD hk (fun j hj => by
      show (([x0, x1, x2, x3, x4, x5, x6, x7, x8, x9, x10, x11, x12, x13, x14, x15] : List (Nat × Nat))[j]?).map Prod.fst = some (((([x0, x1, x2, x3, x4, x5, x6, x7, x8, x9, x10, x11, x12, x13, x14, x15] : List (Nat × Nat))[j]?).map Prod.fst).getD 0)
      rw [List.getElem?_eq_getElem (by exact hj)]
      rfl)
    have hD2 := D_set (e' := .inl (cA 4, 16, .inr (.inr (.inr (.inr (fun k => some (adW [h, n, b0, b1, b2, b3, b4, r, d, rr, bh, mo, q0, q1, q2, q3, q4, q5, q6, q7, q8, q9, q10, q11, q12, q13, q14, q15, q16, q17, q18, q19, q20, q21, lo, dou] [x0, x1, x2, x3, x4, x5, x6, x7, x8, x9, x10, x11, x12, x13, x14, x15] a1 b 36 k))))))) hD hk
    exact ⟨hP2.sub [0, 1, 2, 3, 4, 5, 6, 7, 8, 9, 10, 43, 44, 45, 46, 47, 48, 49, 50, 51, 52, 53, 54, 55, 56, 57, 58, 59, 60, 61, 62, 63, 64, 65, 66, 67, 11, 13, 15, 17, 19, 21, 23, 25, 27, 29, 31, 33, 35, 37, 39, 41, 12, 14, 16, 18, 20, 22, 24, 26, 28, 30, 32, 34, 36, 38, 40, 42] rfl, hD2.sub [0, 1, 2, 3, 4, 5, 6, 7, 8, 9, 10, 43, 44, 45, 46, 47, 48, 49, 50, 51, 52, 53, 54, 55, 56, 57, 58, 59, 60, 61, 62, 63, 64, 65, 66, 67, 11, 13, 15, 17, 19, 21, 23, 25, 27, 29, 31, 33, 35, 37, 39, 41, 12, 14, 16, 18, 20, 22, 24, 26, 28, 30, 32, 34, 36, 38, 40, 42] (by decide) rfl⟩
theorem INV0 : INV sg0 [] := by
  have hM : MI sg0 := ⟨⟨rfl, by decide⟩, ⟨by decide, fun k hk => absurd hk (Nat.not_lt_zero _)⟩, fun k hk => absurd hk (Nat.not_lt_zero _)⟩
  refine ⟨?_, rfl, ⟨⟨⟨rfl, by decide⟩, ⟨by decide, fun k hk => absurd hk (Nat.not_lt_zero _)⟩⟩, rfl, Nat.zero_le _, fun i D h => by simp at h⟩, hM, Nat.zero_le _, rfl, 0, Nat.zero_le _, fun i D h => by simp at h⟩
  funext j k
  unfold tC tM
  by_cases hj : j < 5
  · rw [if_pos hj, if_pos hj]
    match j, hj with
    | 0, _ => rfl
    | 1, _ => rfl
    | 2, _ => rfl
    | 3, _ => rfl
    | 4, _ => rfl
  · rw [if_neg hj, if_neg hj]
