set_option maxRecDepth 100000 in
theorem oi_X4 : Cond.methodLink RX4 1 Lib.objectInit ∈ lw_tbl := List.mem_of_getElem? (i := 48) rfl
set_option maxRecDepth 100000 in
theorem fl_X4_10i : Cond.fieldLink RX4 10 (TX4 0).1 (TX4 0).2.1 (TX4 0).2.2.1 ∈ lw_tbl := List.mem_of_getElem? (i := 154) rfl
set_option maxRecDepth 100000 in
theorem fl_X4_21i : Cond.fieldLink RX4 21 (TX4 1).1 (TX4 1).2.1 (TX4 1).2.2.1 ∈ lw_tbl := List.mem_of_getElem? (i := 155) rfl
set_option maxRecDepth 100000 in
theorem fl_X4_28i : Cond.fieldLink RX4 28 (TX4 2).1 (TX4 2).2.1 (TX4 2).2.2.1 ∈ lw_tbl := List.mem_of_getElem? (i := 156) rfl
set_option maxRecDepth 100000 in
theorem nw_X4_7 : Cond.classLink RX4 7 RX2 ∈ lw_tbl ∧ Cond.instantiable RX2 6 ∈ lw_tbl ∧ Cond.initialized RX2 ∈ lw_tbl := ⟨List.mem_of_getElem? (i := 51) rfl, List.mem_of_getElem? (i := 52) rfl, List.mem_of_getElem? (i := 31) rfl⟩
set_option maxRecDepth 100000 in
theorem nw_X4_16 : Cond.classLink RX4 16 RX3 ∈ lw_tbl ∧ Cond.instantiable RX3 3 ∈ lw_tbl ∧ Cond.initialized RX3 ∈ lw_tbl := ⟨List.mem_of_getElem? (i := 86) rfl, List.mem_of_getElem? (i := 87) rfl, List.mem_of_getElem? (i := 32) rfl⟩
set_option maxRecDepth 100000 in
theorem nw_X4_25 : Cond.classLink RX4 25 RX0 ∈ lw_tbl ∧ Cond.instantiable RX0 4 ∈ lw_tbl ∧ Cond.initialized RX0 ∈ lw_tbl := ⟨List.mem_of_getElem? (i := 102) rfl, List.mem_of_getElem? (i := 103) rfl, List.mem_of_getElem? (i := 33) rfl⟩
set_option maxRecDepth 100000 in
theorem iw_X4_9 : Cond.methodLinkNest RX4 9 yX2_init "PromiseDesk" ∈ lw_tbl ∧ Cond.instanceMethod yX2_init ∈ lw_tbl ∧ Cond.initialized yX2_init.cls ∈ lw_tbl ∧ Cond.code yX2_init cX2_init 1 none ∈ lw_tbl := ⟨List.mem_of_getElem? (i := 53) rfl, List.mem_of_getElem? (i := 54) rfl, List.mem_of_getElem? (i := 31) rfl, List.mem_of_getElem? (i := 55) rfl⟩
set_option maxRecDepth 100000 in
theorem iw_X4_18 : Cond.methodLink RX4 18 yX3_init ∈ lw_tbl ∧ Cond.instanceMethod yX3_init ∈ lw_tbl ∧ Cond.initialized yX3_init.cls ∈ lw_tbl ∧ Cond.code yX3_init cX3_init 2 none ∈ lw_tbl := ⟨List.mem_of_getElem? (i := 88) rfl, List.mem_of_getElem? (i := 89) rfl, List.mem_of_getElem? (i := 32) rfl, List.mem_of_getElem? (i := 90) rfl⟩
set_option maxRecDepth 100000 in
theorem iw_X4_27 : Cond.methodLink RX4 27 yX0_init ∈ lw_tbl ∧ Cond.instanceMethod yX0_init ∈ lw_tbl ∧ Cond.initialized yX0_init.cls ∈ lw_tbl ∧ Cond.code yX0_init cX0_init 3 none ∈ lw_tbl := ⟨List.mem_of_getElem? (i := 104) rfl, List.mem_of_getElem? (i := 105) rfl, List.mem_of_getElem? (i := 33) rfl, List.mem_of_getElem? (i := 106) rfl⟩
def dkW (cA : Nat → ClassId) (h n r d b0 b1 b2 b3 b4 : Nat) : va_W := [(h, .inr (4, [.ref n, .ref r, .ref d])), (n, .inr (2, [.ref b0, .ref b1, .ref b2, .ref b3, .ref b4, .int 0])), (b0, .inl (cA 0, (60, .inl (fun _ => 0)))), (b1, .inl (cA 0, (60, .inl (fun _ => 0)))), (b2, .inl (cA 0, (60, .inl (fun _ => 0)))), (b3, .inl (cA 0, (60, .inl (fun _ => 0)))), (b4, .inl (cA 0, (60, .inl (fun _ => 0)))), (r, .inr (3, [.ref n, .int 0, .int 0]))]
def P_X4_init (cA : Nat → ClassId) (h : Nat) (w : va_W) : Prop := ∃ (n r d b0 b1 b2 b3 b4 rr bh : Nat) (Ls : List (Nat × Nat)), Ls.length = 16 ∧ w = dkW cA h n r d b0 b1 b2 b3 b4 ++ (bsW cA d n rr bh (fL Ls) ++ dlW cA Ls)
set_option maxHeartbeats 4000000 in
set_option maxRecDepth 100000 in
theorem i_X4_init (l : Launch) : ConI l yX4_init cX4_init 1 3 42 527 4 [.null, .null, .null] [] P_X4_init := by
  refine ConI.of (by decide) ⟨fun _ => Nat.le_of_ble_eq_true rfl, rfl⟩ ?_
  intro p e s s0 a0 m args below meth c D ad cA A h hr hin X ls H hl hP hD hS
  refine lv_aload_n X.1 X.2.1 dX4_init_0 rfl (lv_at hl 0 rfl) ?_
  refine W.objInit X.1 X.2.1 X.2.2.2.1 (X.w oi_X4 rfl) (X.w oi_im rfl) (X.w oi_cd rfl) rfl (hl.1.trans X.2.2.1.symm) rfl dX4_init_1 (Nat.le_of_ble_eq_true rfl) (Nat.le_of_ble_eq_true rfl) ?_
  refine W.eq (g2 := F0 m 4 ls []) rfl ?_
  refine lv_aload_n X.1 X.2.1 dX4_init_4 rfl (lv_at hl 0 rfl) ?_
  refine va_new (ci := 2) (fs := [.null, .null, .null, .null, .null, .int 0]) (C := RX2) (T := TX2) (N := 6) (Ts := wsX20) X.1 X.2.1 (X.ws inX2 gdX2) (fun _ h => h) tyX2 tyX2_ok X.2.2.2.1 (X.w nw_X4_7.1 rfl) (X.w nw_X4_7.2.1 rfl) (X.w nw_X4_7.2.2 rfl) X.2.2.2.2.1 hP hD hS X.2.2.2.2.2.2.2.1 rfl (fun j hj => by rcases (show j = 0 ∨ j = 1 ∨ j = 2 ∨ j = 3 ∨ j = 4 ∨ j = 5 by omega) with rfl | rfl | rfl | rfl | rfl | rfl <;> rfl) (Nat.le_of_ble_eq_true rfl) (Nat.le_of_ble_eq_true rfl) dX4_init_5 (fun n H hP hD hS => ?_)
  refine lv_dup (va := .ref n) X.1 X.2.1 dX4_init_8 rfl ?_
  refine b_initN (wr := [(h, .inr (4, [.null, .null, .null]))]) (vs := []) (n := 0) (rest := [.ref n, .ref h]) X (i_X2_init l) iw_X4_9 rfl ⟨by decide, by decide, by decide +kernel⟩ rfl ⟨Nat.le_of_ble_eq_true rfl, Nat.le_of_ble_eq_true rfl⟩ ⟨Nat.le_of_ble_eq_true rfl, Nat.le_of_ble_eq_true rfl⟩ hl.1 (Nat.le_of_ble_eq_true rfl) dX4_init_9 hP hD hS (fun w1 H locs hw hP hD hS => ?_)
  obtain ⟨b0, b1, b2, b3, b4, rfl⟩ := hw
  have hP : va_P D vwCl [(h, .inr (4, [.null, .null, .null])), (n, .inr (2, [.ref b0, .ref b1, .ref b2, .ref b3, .ref b4, .int 0])), (b0, .inl (cA 0, (60, .inl (fun _ => 0)))), (b1, .inl (cA 0, (60, .inl (fun _ => 0)))), (b2, .inl (cA 0, (60, .inl (fun _ => 0)))), (b3, .inl (cA 0, (60, .inl (fun _ => 0)))), (b4, .inl (cA 0, (60, .inl (fun _ => 0))))] H := hP
  have hD : va_D A [(h, .inr (4, [.null, .null, .null])), (n, .inr (2, [.ref b0, .ref b1, .ref b2, .ref b3, .ref b4, .int 0])), (b0, .inl (cA 0, (60, .inl (fun _ => 0)))), (b1, .inl (cA 0, (60, .inl (fun _ => 0)))), (b2, .inl (cA 0, (60, .inl (fun _ => 0)))), (b3, .inl (cA 0, (60, .inl (fun _ => 0)))), (b4, .inl (cA 0, (60, .inl (fun _ => 0))))] := hD
  refine va_putF (Ts := wsX40) (v := .ref n) X.1 X.2.1 (X.ws inX4 gdX4) (fun _ h => h) tyX4 tyX4_ok nmX4 X.2.2.2.1 X.2.2.2.2.1 hP hD hS 0 rfl rfl 0 (by decide) (X.w fl_X4_10i rfl) (fun _ h9 => h9) rfl hin rfl (tyX4_ok 0 (by decide)) rfl rfl (Nat.le_of_ble_eq_true rfl) dX4_init_12 (fun H locs hP hD hS => ?_)
  have hP : va_P D vwCl [(h, .inr (4, [.ref n, .null, .null])), (n, .inr (2, [.ref b0, .ref b1, .ref b2, .ref b3, .ref b4, .int 0])), (b0, .inl (cA 0, (60, .inl (fun _ => 0)))), (b1, .inl (cA 0, (60, .inl (fun _ => 0)))), (b2, .inl (cA 0, (60, .inl (fun _ => 0)))), (b3, .inl (cA 0, (60, .inl (fun _ => 0)))), (b4, .inl (cA 0, (60, .inl (fun _ => 0))))] H := hP
  have hD : va_D A [(h, .inr (4, [.ref n, .null, .null])), (n, .inr (2, [.ref b0, .ref b1, .ref b2, .ref b3, .ref b4, .int 0])), (b0, .inl (cA 0, (60, .inl (fun _ => 0)))), (b1, .inl (cA 0, (60, .inl (fun _ => 0)))), (b2, .inl (cA 0, (60, .inl (fun _ => 0)))), (b3, .inl (cA 0, (60, .inl (fun _ => 0)))), (b4, .inl (cA 0, (60, .inl (fun _ => 0))))] := hD
  refine lv_aload_n X.1 X.2.1 dX4_init_15 rfl (lv_at hl 0 rfl) ?_
  refine va_new (ci := 3) (fs := [.null, .int 0, .int 0]) (C := RX3) (T := TX3) (N := 3) (Ts := wsX30) X.1 X.2.1 (X.ws inX3 gdX3) (fun _ h => h) tyX3 tyX3_ok X.2.2.2.1 (X.w nw_X4_16.1 rfl) (X.w nw_X4_16.2.1 rfl) (X.w nw_X4_16.2.2 rfl) X.2.2.2.2.1 hP hD hS X.2.2.2.2.2.2.2.1 rfl (fun j hj => by rcases (show j = 0 ∨ j = 1 ∨ j = 2 by omega) with rfl | rfl | rfl <;> rfl) (Nat.le_of_ble_eq_true rfl) (Nat.le_of_ble_eq_true rfl) dX4_init_16 (fun r H hP hD hS => ?_)
  refine lv_dup (va := .ref r) X.1 X.2.1 dX4_init_19 rfl ?_
  refine lv_aload_n X.1 X.2.1 dX4_init_20 rfl (lv_at hl 0 rfl) ?_
  refine va_get (D := D) (cl := vwCl) (Ts := wsX40) (ci := 4) (v := .ref n) X.1 X.2.1 (X.ws inX4 gdX4) (fun _ h => h) X.2.2.2.1 X.2.2.2.2.1 hP 0 rfl rfl 0 (by decide) (X.w fl_X4_10i rfl) (fun _ h9 => h9) rfl dX4_init_21 ?_
  refine b_init (wr := [(h, .inr (4, [.ref n, .null, .null])), (n, .inr (2, [.ref b0, .ref b1, .ref b2, .ref b3, .ref b4, .int 0])), (b0, .inl (cA 0, (60, .inl (fun _ => 0)))), (b1, .inl (cA 0, (60, .inl (fun _ => 0)))), (b2, .inl (cA 0, (60, .inl (fun _ => 0)))), (b3, .inl (cA 0, (60, .inl (fun _ => 0)))), (b4, .inl (cA 0, (60, .inl (fun _ => 0))))]) (vs := [.ref n]) (n := 1) (rest := [.ref r, .ref h]) X (i_X3_init l n) iw_X4_18 rfl ⟨by decide, by decide, by decide +kernel⟩ rfl ⟨Nat.le_of_ble_eq_true rfl, Nat.le_of_ble_eq_true rfl⟩ ⟨Nat.le_of_ble_eq_true rfl, Nat.le_of_ble_eq_true rfl⟩ hl.1 (Nat.le_of_ble_eq_true rfl) dX4_init_24 hP hD hS (fun w1 H locs hw hP hD hS => ?_)
  have hw : w1 = [(r, .inr (3, [.ref n, .int 0, .int 0]))] := hw
  subst hw
  have hP : va_P D vwCl [(h, .inr (4, [.ref n, .null, .null])), (n, .inr (2, [.ref b0, .ref b1, .ref b2, .ref b3, .ref b4, .int 0])), (b0, .inl (cA 0, (60, .inl (fun _ => 0)))), (b1, .inl (cA 0, (60, .inl (fun _ => 0)))), (b2, .inl (cA 0, (60, .inl (fun _ => 0)))), (b3, .inl (cA 0, (60, .inl (fun _ => 0)))), (b4, .inl (cA 0, (60, .inl (fun _ => 0)))), (r, .inr (3, [.ref n, .int 0, .int 0]))] H := hP
  have hD : va_D A [(h, .inr (4, [.ref n, .null, .null])), (n, .inr (2, [.ref b0, .ref b1, .ref b2, .ref b3, .ref b4, .int 0])), (b0, .inl (cA 0, (60, .inl (fun _ => 0)))), (b1, .inl (cA 0, (60, .inl (fun _ => 0)))), (b2, .inl (cA 0, (60, .inl (fun _ => 0)))), (b3, .inl (cA 0, (60, .inl (fun _ => 0)))), (b4, .inl (cA 0, (60, .inl (fun _ => 0)))), (r, .inr (3, [.ref n, .int 0, .int 0]))] := hD
  refine va_putF (Ts := wsX40) (v := .ref r) X.1 X.2.1 (X.ws inX4 gdX4) (fun _ h => h) tyX4 tyX4_ok nmX4 X.2.2.2.1 X.2.2.2.2.1 hP hD hS 0 rfl rfl 1 (by decide) (X.w fl_X4_21i rfl) (fun _ h9 => h9) rfl hin rfl (tyX4_ok 1 (by decide)) rfl rfl (Nat.le_of_ble_eq_true rfl) dX4_init_27 (fun H locs hP hD hS => ?_)
  have hP : va_P D vwCl [(h, .inr (4, [.ref n, .ref r, .null])), (n, .inr (2, [.ref b0, .ref b1, .ref b2, .ref b3, .ref b4, .int 0])), (b0, .inl (cA 0, (60, .inl (fun _ => 0)))), (b1, .inl (cA 0, (60, .inl (fun _ => 0)))), (b2, .inl (cA 0, (60, .inl (fun _ => 0)))), (b3, .inl (cA 0, (60, .inl (fun _ => 0)))), (b4, .inl (cA 0, (60, .inl (fun _ => 0)))), (r, .inr (3, [.ref n, .int 0, .int 0]))] H := hP
  have hD : va_D A [(h, .inr (4, [.ref n, .ref r, .null])), (n, .inr (2, [.ref b0, .ref b1, .ref b2, .ref b3, .ref b4, .int 0])), (b0, .inl (cA 0, (60, .inl (fun _ => 0)))), (b1, .inl (cA 0, (60, .inl (fun _ => 0)))), (b2, .inl (cA 0, (60, .inl (fun _ => 0)))), (b3, .inl (cA 0, (60, .inl (fun _ => 0)))), (b4, .inl (cA 0, (60, .inl (fun _ => 0)))), (r, .inr (3, [.ref n, .int 0, .int 0]))] := hD
  refine lv_aload_n X.1 X.2.1 dX4_init_30 rfl (lv_at hl 0 rfl) ?_
  refine va_new (ci := 0) (fs := [.null, .null, .null, .int 0]) (C := RX0) (T := TX0) (N := 4) (Ts := wsX00) X.1 X.2.1 (X.ws inX0 gdX0) (fun _ h => h) tyX0 tyX0_ok X.2.2.2.1 (X.w nw_X4_25.1 rfl) (X.w nw_X4_25.2.1 rfl) (X.w nw_X4_25.2.2 rfl) X.2.2.2.2.1 hP hD hS X.2.2.2.2.2.2.2.1 rfl (fun j hj => by rcases (show j = 0 ∨ j = 1 ∨ j = 2 ∨ j = 3 by omega) with rfl | rfl | rfl | rfl <;> rfl) (Nat.le_of_ble_eq_true rfl) (Nat.le_of_ble_eq_true rfl) dX4_init_31 (fun d H hP hD hS => ?_)
  refine lv_dup (va := .ref d) X.1 X.2.1 dX4_init_34 rfl ?_
  refine lv_aload_n X.1 X.2.1 dX4_init_35 rfl (lv_at hl 0 rfl) ?_
  refine va_get (D := D) (cl := vwCl) (Ts := wsX40) (ci := 4) (v := .ref n) X.1 X.2.1 (X.ws inX4 gdX4) (fun _ h => h) X.2.2.2.1 X.2.2.2.2.1 hP 0 rfl rfl 0 (by decide) (X.w fl_X4_10i rfl) (fun _ h9 => h9) rfl dX4_init_36 ?_
  refine b_init (wr := [(h, .inr (4, [.ref n, .ref r, .null])), (n, .inr (2, [.ref b0, .ref b1, .ref b2, .ref b3, .ref b4, .int 0])), (b0, .inl (cA 0, (60, .inl (fun _ => 0)))), (b1, .inl (cA 0, (60, .inl (fun _ => 0)))), (b2, .inl (cA 0, (60, .inl (fun _ => 0)))), (b3, .inl (cA 0, (60, .inl (fun _ => 0)))), (b4, .inl (cA 0, (60, .inl (fun _ => 0)))), (r, .inr (3, [.ref n, .int 0, .int 0]))]) (vs := [.ref n]) (n := 1) (rest := [.ref d, .ref h]) X (i_X0_init l n) iw_X4_27 rfl ⟨by decide, by decide, by decide +kernel⟩ rfl ⟨Nat.le_of_ble_eq_true rfl, Nat.le_of_ble_eq_true rfl⟩ ⟨Nat.le_of_ble_eq_true rfl, Nat.le_of_ble_eq_true rfl⟩ hl.1 (Nat.le_of_ble_eq_true rfl) dX4_init_39 hP hD hS (fun w1 H locs hw hP hD hS => ?_)
  obtain ⟨rr, bh, Ls, h16, rfl⟩ := hw
  refine va_putF (Ts := wsX40) (v := .ref d) X.1 X.2.1 (X.ws inX4 gdX4) (fun _ h => h) tyX4 tyX4_ok nmX4 X.2.2.2.1 X.2.2.2.2.1 hP hD hS 0 rfl rfl 2 (by decide) (X.w fl_X4_28i rfl) (fun _ h9 => h9) rfl hin rfl (tyX4_ok 2 (by decide)) rfl rfl (Nat.le_of_ble_eq_true rfl) dX4_init_42 (fun H locs hP hD hS => ?_)
  refine W.widen (k := 42) (n := 527) (Nat.le_of_ble_eq_true rfl) (Nat.le_of_ble_eq_true rfl) ?_
  exact W.vret X.1 X.2.1 hr (fun t ht hW => ⟨⟨_, rfl, ⟨n, r, d, b0, b1, b2, b3, b4, rr, bh, Ls, h16, rfl⟩, by rw [ht]; exact hP, va_K.moved hW.alike X.2.2.2.2.1, hD⟩, hS.F ht⟩) hS.2.2 dX4_init_45 X.2.2.2.2.2.2.2.2
