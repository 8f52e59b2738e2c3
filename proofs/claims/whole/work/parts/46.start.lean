set_option maxRecDepth 100000 in
theorem nw_L_8 : Cond.classLink RL 8 RX4 ∈ lw_tbl ∧ Cond.instantiable RX4 3 ∈ lw_tbl ∧ Cond.initialized RX4 ∈ lw_tbl := ⟨List.mem_of_getElem? (i := 43) rfl, List.mem_of_getElem? (i := 44) rfl, List.mem_of_getElem? (i := 30) rfl⟩
set_option maxRecDepth 100000 in
theorem nw_L_50 : Cond.classLink RL 50 RX5 ∈ lw_tbl ∧ Cond.instantiable RX5 28 ∈ lw_tbl ∧ Cond.initialized RX5 ∈ lw_tbl := ⟨List.mem_of_getElem? (i := 438) rfl, List.mem_of_getElem? (i := 439) rfl, List.mem_of_getElem? (i := 35) rfl⟩
set_option maxRecDepth 100000 in
theorem iw_L_49 : Cond.methodLink RL 49 yX4_init ∈ lw_tbl ∧ Cond.instanceMethod yX4_init ∈ lw_tbl ∧ Cond.initialized yX4_init.cls ∈ lw_tbl ∧ Cond.code yX4_init cX4_init 1 none ∈ lw_tbl := ⟨List.mem_of_getElem? (i := 45) rfl, List.mem_of_getElem? (i := 46) rfl, List.mem_of_getElem? (i := 30) rfl, List.mem_of_getElem? (i := 47) rfl⟩
set_option maxRecDepth 100000 in
theorem iw_L_52 : Cond.methodLink RL 52 yX5_init ∈ lw_tbl ∧ Cond.instanceMethod yX5_init ∈ lw_tbl ∧ Cond.initialized yX5_init.cls ∈ lw_tbl ∧ Cond.code yX5_init cX5_init 1 none ∈ lw_tbl := ⟨List.mem_of_getElem? (i := 440) rfl, List.mem_of_getElem? (i := 441) rfl, List.mem_of_getElem? (i := 35) rfl, List.mem_of_getElem? (i := 442) rfl⟩
set_option maxRecDepth 100000 in
theorem ins_0 : Cond.instantiable RX0 4 ∈ lw_tbl := List.mem_of_getElem? (i := 103) rfl
set_option maxRecDepth 100000 in
theorem ins_1 : Cond.instantiable RX1 6 ∈ lw_tbl := List.mem_of_getElem? (i := 110) rfl
set_option maxRecDepth 100000 in
theorem ins_2 : Cond.instantiable RX2 6 ∈ lw_tbl := List.mem_of_getElem? (i := 52) rfl
set_option maxRecDepth 100000 in
theorem ins_3 : Cond.instantiable RX3 3 ∈ lw_tbl := List.mem_of_getElem? (i := 87) rfl
set_option maxRecDepth 100000 in
theorem ins_4 : Cond.instantiable RX4 3 ∈ lw_tbl := List.mem_of_getElem? (i := 44) rfl
set_option maxRecDepth 100000 in
theorem ins_5 : Cond.instantiable RX5 28 ∈ lw_tbl := List.mem_of_getElem? (i := 439) rfl
set_option maxRecDepth 100000 in
theorem in_law : Cond.initialized RL ∈ lw_tbl := List.mem_of_getElem? (i := 29) rfl
theorem K_of {args : Array Value} {s : State} (hts : ∀ w ∈ lw_tbl, w.before args s = true) : ∃ (D : va_G) (cA : Nat → ClassId), va_K D vwCl (tysL cA) s := by
  obtain ⟨c0, i0, k0⟩ := u_known (T := TX0) (N := 4) hts inX0 (hts _ ins_0)
  obtain ⟨c1, i1, k1⟩ := u_known (T := TX1) (N := 6) hts inX1 (hts _ ins_1)
  obtain ⟨c2, i2, k2⟩ := u_known (T := TX2) (N := 6) hts inX2 (hts _ ins_2)
  obtain ⟨c3, i3, k3⟩ := u_known (T := TX3) (N := 3) hts inX3 (hts _ ins_3)
  obtain ⟨c4, i4, k4⟩ := u_known (T := TX4) (N := 3) hts inX4 (hts _ ins_4)
  obtain ⟨c5, i5, k5⟩ := u_known (T := TX5) (N := 28) hts inX5 (hts _ ins_5)
  obtain ⟨e0, m0, p0, f0, g0, h0⟩ := Cond.arrayClass_spec (hts _ ac_int)
  obtain ⟨e1, m1, p1, f1, g1, h1⟩ := Cond.arrayClass_spec (hts _ ac_long)
  obtain ⟨e2, m2, p2, f2, g2, h2⟩ := Cond.arrayClass_spec (hts _ ac_boolean)
  obtain ⟨e3, m3, p3, f3, g3, h3⟩ := Cond.arrayClass_spec (hts _ ac_double)
  obtain ⟨p4, e4, m4, f4, -, g4, h4, r4⟩ := Cond.arrayOver_spec (hts _ ao_duty)
  refine ⟨(fun c => match c with | 0 => c0 | 1 => c1 | 2 => c2 | 3 => c3 | 4 => c4 | _ => c5, fun c => match c with | 0 => i0 | 1 => i1 | 2 => i2 | 3 => i3 | 4 => i4 | _ => i5), fun k => match k with | 0 => e0 | 1 => e1 | 2 => e2 | 3 => e3 | _ => e4, fun c q hq => ?_, fun k q hk => ?_⟩
  · match c, hq with
    | 0, hq => cases hq; exact k0
    | 1, hq => cases hq; exact k1
    | 2, hq => cases hq; exact k2
    | 3, hq => cases hq; exact k3
    | 4, hq => cases hq; exact k4
    | 5, hq => cases hq; exact k5
    | c + 6, hq => cases hq
  · match k, hk with
    | 0, hk => cases hk; exact ⟨fun n z => ⟨fun k h => (by cases h), m0, g0, p0, h0⟩, f0⟩
    | 1, hk => cases hk; exact ⟨fun n z => ⟨fun k h => (by cases h), m1, g1, p1, h1⟩, f1⟩
    | 2, hk => cases hk; exact ⟨fun n z => ⟨fun k h => (by cases h), m2, g2, p2, h2⟩, f2⟩
    | 3, hk => cases hk; exact ⟨fun n z => ⟨fun k h => (by cases h), m3, g3, p3, h3⟩, f3⟩
    | 4, hk => cases hk; exact ⟨fun n z => ⟨fun k h => (by cases h), m4, g4, p4, h4⟩, m4, p4, g4, h4, f4, r4⟩
    | k + 5, hk => cases hk
set_option maxHeartbeats 4000000 in
set_option maxRecDepth 100000 in
theorem whole_start {p : Program} {e : Env} {s : State} {m : MethodId} {below : List Frame} {meth : Method} {c : Code} (l : Launch) (hst : l.stackTraces = false) {b L : Nat} {xs : Nat → Int32} (hL : L ≤ 2560) (C0 : lw_At p s m meth c b L xs) : W p l e room_1 s m #[Value.ref b] below meth c s.heap [] 0 0 (lw_Z below #[Value.ref b] s) (entryFrame m ([Value.ref b] : List Value).toArray 9) := by
  obtain ⟨hx, hb, hr, hml, hown, hts, hX, hbl, hlocks, hgv⟩ := C0
  obtain ⟨⟨ad1, hBx⟩, hnc⟩ := Bx_of hst hts hgv
  obtain ⟨D, cA, hK⟩ := K_of hts
  have X : Cx p l s #[Value.ref b] s m #[Value.ref b] meth c code 9 RL D ad1 cA (fun q => s.heap.size ≤ q) := ⟨hx, hb, hml, hown, hK, ⟨⟨hts, hBx⟩, State.WarmedH.refl _, Nat.le_refl _, fun _ _ => rfl⟩, fun _ h => h, fun _ h => h, hlocks⟩
  have hS : va_S (fun q => s.heap.size ≤ q) s.heap s.heap [] := va_S.rf
  have hP : va_P D vwCl [] s.heap := fun k q h => by simp at h
  have hD : va_D (fun q => s.heap.size ≤ q) [] := ⟨fun i j p q h => by simp at h, fun k q h => by simp at h⟩
  have hl := lv_entry [.ref b] (n := 9) (Nat.le_of_ble_eq_true rfl)
  rw [lg_entry_eq]
  generalize (lg_sl ([Value.ref b] : List Value) ++ List.replicate (9 - (lg_sl ([Value.ref b] : List Value)).length) Slot.unset).toArray = ls at hl ⊢
  have hl : lv_has ls 9 [(0, .ref b)] := hl
  refine va_new (ci := 4) (fs := [.null, .null, .null]) (C := RX4) (T := TX4) (N := 3) (Ts := wsX40) X.1 X.2.1 (X.ws inX4 gdX4) (fun _ h => h) tyX4 tyX4_ok X.2.2.2.1 (X.w nw_L_8.1 rfl) (X.w nw_L_8.2.1 rfl) (X.w nw_L_8.2.2 rfl) X.2.2.2.2.1 hP hD hS X.2.2.2.2.2.2.2.1 rfl (fun j hj => by rcases (show j = 0 ∨ j = 1 ∨ j = 2 by omega) with rfl | rfl | rfl <;> rfl) (Nat.le_of_ble_eq_true rfl) (Nat.le_of_ble_eq_true rfl) dL_law_0 (fun h H hP hD hS => ?_)
  refine lv_dup (va := .ref h) X.1 X.2.1 dL_law_3 rfl ?_
  refine b_init (wr := []) (vs := []) (n := 0) (rest := [.ref h]) X (i_X4_init l) iw_L_49 rfl ⟨by decide, by decide, by decide +kernel⟩ rfl ⟨Nat.le_of_ble_eq_true rfl, Nat.le_of_ble_eq_true rfl⟩ ⟨Nat.le_of_ble_eq_true rfl, Nat.le_of_ble_eq_true rfl⟩ hl.1 (Nat.le_of_ble_eq_true rfl) dL_law_4 hP hD hS (fun w1 H locs hw hP hD hS => ?_)
  obtain ⟨n, r, d, b0, b1, b2, b3, b4, rr, bh, Ls, h16, rfl⟩ := hw
  refine lv_astore_n X.1 X.2.1 dL_law_7 rfl hl (by decide) rfl (fun ls hl => ?_)
  have hl : lv_has ls 9 [(1, .ref h), (0, .ref b)] := hl
  have hP : va_P D vwCl (dkW cA h n r d b0 b1 b2 b3 b4 ++ (bsW cA d n rr bh (fL Ls) ++ dlW cA Ls)) H := hP
  have hD : va_D (fun q => s.heap.size ≤ q) (dkW cA h n r d b0 b1 b2 b3 b4 ++ (bsW cA d n rr bh (fL Ls) ++ dlW cA Ls)) := hD
  refine va_new (ci := 5) (fs := [.int 0, .int 0, .null, .null, .null, .null, .null, .null, .null, .int 0, .null, .null, .int 0, .null, .null, .null, .int 0, .int 0, .null, .null, .null, .null, .null, .null, .null, .null, .null, .null]) (C := RX5) (T := TX5) (N := 28) (Ts := wsX50) X.1 X.2.1 (X.ws inX5 gdX5) (fun _ h => h) tyX5 tyX5_ok X.2.2.2.1 (X.w nw_L_50.1 rfl) (X.w nw_L_50.2.1 rfl) (X.w nw_L_50.2.2 rfl) X.2.2.2.2.1 hP hD hS X.2.2.2.2.2.2.2.1 rfl (fun j hj => by rcases (show j = 0 ∨ j = 1 ∨ j = 2 ∨ j = 3 ∨ j = 4 ∨ j = 5 ∨ j = 6 ∨ j = 7 ∨ j = 8 ∨ j = 9 ∨ j = 10 ∨ j = 11 ∨ j = 12 ∨ j = 13 ∨ j = 14 ∨ j = 15 ∨ j = 16 ∨ j = 17 ∨ j = 18 ∨ j = 19 ∨ j = 20 ∨ j = 21 ∨ j = 22 ∨ j = 23 ∨ j = 24 ∨ j = 25 ∨ j = 26 ∨ j = 27 by omega) with rfl | rfl | rfl | rfl | rfl | rfl | rfl | rfl | rfl | rfl | rfl | rfl | rfl | rfl | rfl | rfl | rfl | rfl | rfl | rfl | rfl | rfl | rfl | rfl | rfl | rfl | rfl | rfl <;> rfl) (Nat.le_of_ble_eq_true rfl) (Nat.le_of_ble_eq_true rfl) dL_law_8 (fun mo H hP hD hS => ?_)
  refine lv_dup (va := .ref mo) X.1 X.2.1 dL_law_11 rfl ?_
  refine b_init (wr := (dkW cA h n r d b0 b1 b2 b3 b4 ++ (bsW cA d n rr bh (fL Ls) ++ dlW cA Ls))) (vs := []) (n := 0) (rest := [.ref mo]) X (i_X5_init l) iw_L_52 rfl ⟨by decide, by decide, by decide +kernel⟩ rfl ⟨Nat.le_of_ble_eq_true rfl, Nat.le_of_ble_eq_true rfl⟩ ⟨Nat.le_of_ble_eq_true rfl, Nat.le_of_ble_eq_true rfl⟩ hl.1 (Nat.le_of_ble_eq_true rfl) dL_law_12 hP hD hS (fun w1 H locs hw hP hD hS => ?_)
  obtain ⟨q0, q1, q2, q3, q4, q5, q6, q7, q8, q9, q10, q11, q12, q13, q14, q15, q16, q17, q18, q19, q20, q21, rfl⟩ := hw
  have hP : va_P D vwCl ((dkW cA h n r d b0 b1 b2 b3 b4 ++ (bsW cA d n rr bh (fL Ls) ++ dlW cA Ls)) ++ mdW cA mo q0 q1 q2 q3 q4 q5 q6 q7 q8 q9 q10 q11 q12 q13 q14 q15 q16 q17 q18 q19 q20 q21) H := hP
  have hD : va_D (fun q => s.heap.size ≤ q) ((dkW cA h n r d b0 b1 b2 b3 b4 ++ (bsW cA d n rr bh (fL Ls) ++ dlW cA Ls)) ++ mdW cA mo q0 q1 q2 q3 q4 q5 q6 q7 q8 q9 q10 q11 q12 q13 q14 q15 q16 q17 q18 q19 q20 q21) := hD
  refine lv_astore_n X.1 X.2.1 dL_law_15 rfl hl (by decide) rfl (fun ls hl => ?_)
  have hl : lv_has ls 9 [(2, .ref mo), (1, .ref h), (0, .ref b)] := hl
  refine lv_iconst (v := 1) X.1 X.2.1 dL_law_16 (by decide) ?_
  refine b_newa (atype := .long) (k := 1) (ty := .long) (N := 1) (a1 := (1, .inr (.inl (fun _ => 0)))) X ac_long rfl rfl rfl (fun _ => rfl) (by decide) (by decide) (by decide) (Nat.le_of_ble_eq_true rfl) (Nat.le_of_ble_eq_true rfl) dL_law_17 hP hD hS (fun lo H hP hD hS => ?_)
  refine lv_astore_n X.1 X.2.1 dL_law_19 rfl hl (by decide) rfl (fun ls hl => ?_)
  have hl : lv_has ls 9 [(3, .ref lo), (2, .ref mo), (1, .ref h), (0, .ref b)] := hl
  refine lv_iconst (v := 1) X.1 X.2.1 dL_law_20 (by decide) ?_
  refine b_newa (atype := .double) (k := 3) (ty := .double) (N := 1) (a1 := (1, .inr (.inr (.inr (.inl (fun _ => 0)))))) X ac_double rfl rfl rfl (fun _ => rfl) (by decide) (by decide) (by decide) (Nat.le_of_ble_eq_true rfl) (Nat.le_of_ble_eq_true rfl) dL_law_21 hP hD hS (fun dou H hP hD hS => ?_)
  refine lv_astore X.1 X.2.1 dL_law_23 hl (by decide) rfl (fun ls hl => ?_)
  have hl : lv_has ls 9 [(4, .ref dou), (3, .ref lo), (2, .ref mo), (1, .ref h), (0, .ref b)] := hl
  refine lv_iconst (v := 0) X.1 X.2.1 dL_law_25 (by decide) ?_
  refine lv_istore X.1 X.2.1 dL_law_26 hl (by decide) rfl (fun ls hl => ?_)
  have hl : lv_has ls 9 [(5, .int 0), (4, .ref dou), (3, .ref lo), (2, .ref mo), (1, .ref h), (0, .ref b)] := hl
  have ew : ((((dkW cA h n r d b0 b1 b2 b3 b4 ++ (bsW cA d n rr bh (fL Ls) ++ dlW cA Ls)) ++ mdW cA mo q0 q1 q2 q3 q4 q5 q6 q7 q8 q9 q10 q11 q12 q13 q14 q15 q16 q17 q18 q19 q20 q21) ++ ([(lo, .inl (cA 1, (1, .inr (.inl (fun _ => 0)))))] : va_W)) ++ ([(dou, .inl (cA 3, (1, .inr (.inr (.inr (.inl (fun _ => 0)))))))] : va_W)) = (dkW cA h n r d b0 b1 b2 b3 b4 ++ (bsW cA d n rr bh (fL Ls) ++ dlW cA Ls)) ++ (mdW cA mo q0 q1 q2 q3 q4 q5 q6 q7 q8 q9 q10 q11 q12 q13 q14 q15 q16 q17 q18 q19 q20 q21 ++ ouW cA lo dou) := by
    rw [List.append_assoc, List.append_assoc]
    rfl
  have hP : va_P D vwCl ((dkW cA h n r d b0 b1 b2 b3 b4 ++ (bsW cA d n rr bh (fL Ls) ++ dlW cA Ls)) ++ (mdW cA mo q0 q1 q2 q3 q4 q5 q6 q7 q8 q9 q10 q11 q12 q13 q14 q15 q16 q17 q18 q19 q20 q21 ++ ouW cA lo dou)) H := by rw [← ew]; exact hP
  have hD : va_D (fun q => s.heap.size ≤ q) ((dkW cA h n r d b0 b1 b2 b3 b4 ++ (bsW cA d n rr bh (fL Ls) ++ dlW cA Ls)) ++ (mdW cA mo q0 q1 q2 q3 q4 q5 q6 q7 q8 q9 q10 q11 q12 q13 q14 q15 q16 q17 q18 q19 q20 q21 ++ ouW cA lo dou)) := by rw [← ew]; exact hD
  obtain ⟨hPw, hDw⟩ := wld0 (a1 := ad1) (b := b) h16 hP hD
  have hB2 : Bx l s (adW [h, n, b0, b1, b2, b3, b4, r, d, rr, bh, mo, q0, q1, q2, q3, q4, q5, q6, q7, q8, q9, q10, q11, q12, q13, q14, q15, q16, q17, q18, q19, q20, q21, lo, dou] Ls ad1 b) := ⟨hBx.1, fun j hj => by
    match j, hj with
    | 0, hj => exact hBx.2.1 0 hj
    | 1, hj => exact hBx.2.1 1 hj
    | 2, hj => exact hBx.2.1 2 hj, hBx.2.2⟩
  have X2 : LX p l s m meth c D (adW [h, n, b0, b1, b2, b3, b4, r, d, rr, bh, mo, q0, q1, q2, q3, q4, q5, q6, q7, q8, q9, q10, q11, q12, q13, q14, q15, q16, q17, q18, q19, q20, q21, lo, dou] Ls ad1 b) cA b L xs := ⟨⟨hx, hb, hml, hown, hK, ⟨⟨hts, hB2⟩, State.WarmedH.refl _, Nat.le_refl _, fun _ _ => rfl⟩, fun _ h => h, fun _ h => h, hlocks⟩, hr, hX, hbl, hL, hnc⟩
  have K9 := lw_head (e := e) (below := below) X2 (L + 1) 0 68 5028 sg0 [] (by omega) (by omega) (by omega) (by omega) INV0
  exact K9 ls H locs (lv_sub hl [5, 4, 3, 2, 1, 0] rfl) hPw hDw hS
