set_option maxRecDepth 100000 in
theorem fl_X0_11i : Cond.fieldLink RX0 11 (TX0 1).1 (TX0 1).2.1 (TX0 1).2.2.1 ∈ lw_tbl := List.mem_of_getElem? (i := 141) rfl
set_option maxRecDepth 100000 in
theorem fl_X0_17i : Cond.fieldLink RX0 17 (TX0 2).1 (TX0 2).2.1 (TX0 2).2.2.1 ∈ lw_tbl := List.mem_of_getElem? (i := 142) rfl
set_option maxRecDepth 100000 in
theorem fl_X0_21i : Cond.fieldLink RX0 21 (TX0 3).1 (TX0 3).2.1 (TX0 3).2.2.1 ∈ lw_tbl := List.mem_of_getElem? (i := 143) rfl
set_option maxRecDepth 100000 in
theorem fl_X0_25i : Cond.fieldLink RX0 25 (TX0 0).1 (TX0 0).2.1 (TX0 0).2.2.1 ∈ lw_tbl := List.mem_of_getElem? (i := 140) rfl
set_option maxRecDepth 100000 in
theorem iw_X0_29 : Cond.methodLinkNest RX0 29 yX1_init "PromiseDesk" ∈ lw_tbl ∧ Cond.instanceMethod yX1_init ∈ lw_tbl ∧ Cond.initialized yX1_init.cls ∈ lw_tbl ∧ Cond.code yX1_init cX1_init 1 none ∈ lw_tbl := ⟨List.mem_of_getElem? (i := 111) rfl, List.mem_of_getElem? (i := 112) rfl, List.mem_of_getElem? (i := 34) rfl, List.mem_of_getElem? (i := 113) rfl⟩
set_option maxRecDepth 100000 in
theorem nw_X0_9 : Cond.classLink RX0 9 RX1 ∈ lw_tbl ∧ Cond.instantiable RX1 6 ∈ lw_tbl ∧ Cond.initialized RX1 ∈ lw_tbl := ⟨List.mem_of_getElem? (i := 108) rfl, List.mem_of_getElem? (i := 110) rfl, List.mem_of_getElem? (i := 34) rfl⟩
set_option maxRecDepth 100000 in
theorem oi_X0 : Cond.methodLink RX0 3 Lib.objectInit ∈ lw_tbl := List.mem_of_getElem? (i := 107) rfl
set_option maxRecDepth 100000 in
theorem ao_duty : Cond.arrayOver (.object "PromiseDesk$Duty") ∈ lw_tbl := List.mem_of_getElem? (i := 109) rfl
def dlW (cA : Nat → ClassId) (Ls : List (Nat × Nat)) : va_W := Ls.flatMap (fun x : Nat × Nat => [(x.1, .inr (1, [.int (-1), .int (-1), .int 0, .ref x.2, .int 0, .int (-1)])), (x.2, .inl (cA 0, (6, .inl (fun _ => 0))))])
def bsW (cA : Nat → ClassId) (h n0 r bh : Nat) (f : Nat → Option Nat) : va_W := [(h, .inr (0, [.ref n0, .ref r, .ref bh, .int 0])), (r, .inl (cA 4, 16, .inr (.inr (.inr (.inr f))))), (bh, .inl (cA 0, (6, .inl (fun _ => 0))))]
def fL (Ls : List (Nat × Nat)) : Nat → Option Nat := fun j => (Ls[j]?).map Prod.fst
theorem fL_push (Ls : List (Nat × Nat)) (x : Nat × Nat) : va_up (fL Ls) Ls.length (some x.1) = fL (Ls ++ [x]) := by
  funext j
  unfold fL
  by_cases h : j = Ls.length
  · subst h
    rw [va_up_self]
    simp
  · rw [va_up_ne _ _ h]
    by_cases h2 : j < Ls.length
    · rw [List.getElem?_append_left h2]
    · rw [List.getElem?_eq_none (by omega), List.getElem?_eq_none (by simp; omega)]
theorem dlW_push (cA : Nat → ClassId) (Ls : List (Nat × Nat)) (x : Nat × Nat) : dlW cA (Ls ++ [x]) = dlW cA Ls ++ (fun x : Nat × Nat => [(x.1, .inr (1, [.int (-1), .int (-1), .int 0, .ref x.2, .int 0, .int (-1)])), (x.2, .inl (cA 0, (6, .inl (fun _ => 0))))]) x := by
  unfold dlW
  rw [List.flatMap_append]
  simp
def P_X0_init (n0 : Nat) (cA : Nat → ClassId) (h : Nat) (w : va_W) : Prop := ∃ (r bh : Nat) (Ls : List (Nat × Nat)), Ls.length = 16 ∧ w = bsW cA h n0 r bh (fL Ls) ++ dlW cA Ls
set_option maxHeartbeats 4000000 in
set_option maxRecDepth 100000 in
theorem i_X0_init (l : Launch) (n0 : Nat) : ConI l yX0_init cX0_init 3 2 34 214 0 [.null, .null, .null, .int 0] [.ref n0] (P_X0_init n0) := by
  refine ConI.of (by decide) ⟨fun _ => Nat.le_of_ble_eq_true rfl, rfl⟩ ?_
  intro p e s s0 a0 m args below meth c D ad cA A h hr hin X ls H hl hP hD hS
  have loop : ∀ (n r bh : Nat) (Ls : List (Nat × Nat)), Ls.length + n = 16 → ∀ (ls : Array Slot) (H : Heap) (locs : List Loc), lv_has ls 3 [(2, .int (nI Ls.length)), (0, .ref h), (1, .ref n0)] → va_P D vwCl (bsW cA h n0 r bh (fL Ls) ++ dlW cA Ls) H → va_D A (bsW cA h n0 r bh (fL Ls) ++ dlW cA Ls) → va_S A s.heap H locs → W p l e (rmI 2 34 214) s m args below meth c H locs (2 + 2 * Ls.length) (22 + 12 * Ls.length) (MQ below (QI (P_X0_init n0 cA h) D cA A) args s 34 214 A) (F0 m 33 ls []) := by
    intro n
    induction n with
    | zero =>
      intro r bh Ls hn ls H locs hl hP hD hS
      refine lv_iload_n X.1 X.2.1 dX0_init_33 rfl (lv_at hl 0 rfl) ?_
      refine lv_bipush (v := 16) X.1 X.2.1 dX0_init_34 (by decide) ?_
      refine lv_icmp_ge X.1 X.2.1 dX0_init_36 (tgt := 58) (by decide) (fun _ => ?_) (fun hc => absurd (by rw [show (16 : Int32) = nI 16 from rfl, nI_leI (by decide) (by omega)]; omega) hc)
      refine W.widen (k := 34) (n := 214) (by omega) (by omega) ?_
      exact W.vret X.1 X.2.1 hr (fun t ht hW => ⟨⟨_, rfl, ⟨r, bh, Ls, by omega, rfl⟩, by rw [ht]; exact hP, va_K.moved hW.alike X.2.2.2.2.1, hD⟩, hS.F ht⟩) hS.2.2 dX0_init_58 X.2.2.2.2.2.2.2.2
    | succ n ih =>
      intro r bh Ls hn ls H locs hl hP hD hS
      refine lv_iload_n X.1 X.2.1 dX0_init_33 rfl (lv_at hl 0 rfl) ?_
      refine lv_bipush (v := 16) X.1 X.2.1 dX0_init_34 (by decide) ?_
      refine lv_icmp_ge X.1 X.2.1 dX0_init_36 (tgt := 58) (by decide) (fun hc => absurd hc (by rw [show (16 : Int32) = nI 16 from rfl, nI_leI (by decide) (by omega)]; omega)) (fun _ => ?_)
      refine lv_aload_n X.1 X.2.1 dX0_init_39 rfl (lv_at hl 1 rfl) ?_
      refine va_get (D := D) (cl := vwCl) (Ts := wsX00) (ci := 0) (v := .ref r) X.1 X.2.1 (X.ws inX0 gdX0) (fun _ h => h) X.2.2.2.1 X.2.2.2.2.1 hP 0 rfl rfl 1 (by decide) (X.w fl_X0_11i rfl) (fun _ h9 => h9) rfl dX0_init_40 ?_
      refine lv_iload_n X.1 X.2.1 dX0_init_43 rfl (lv_at hl 0 rfl) ?_
      refine va_new (ci := 1) (fs := [.int 0, .int 0, .int 0, .null, .int 0, .int 0]) (C := RX1) (T := TX1) (N := 6) (Ts := wsX10) X.1 X.2.1 (X.ws inX1 gdX1) (fun _ h => h) tyX1 tyX1_ok X.2.2.2.1 (X.w nw_X0_9.1 rfl) (X.w nw_X0_9.2.1 rfl) (X.w nw_X0_9.2.2 rfl) X.2.2.2.2.1 hP hD hS X.2.2.2.2.2.2.2.1 rfl (fun j hj => by rcases (show j = 0 ∨ j = 1 ∨ j = 2 ∨ j = 3 ∨ j = 4 ∨ j = 5 by omega) with rfl | rfl | rfl | rfl | rfl | rfl <;> rfl) (by show _ ≤ 34; omega) (by show _ ≤ 214; omega) dX0_init_44 (fun q H hP hD hS => ?_)
      refine lv_dup (va := .ref q) X.1 X.2.1 dX0_init_47 rfl ?_
      refine b_initN (vs := []) (n := 0) (rest := [.ref q, .int (nI Ls.length), .ref r]) X (i_X1_init l) iw_X0_29 rfl ⟨by decide, by decide, by decide +kernel⟩ rfl ⟨Nat.le_of_ble_eq_true rfl, Nat.le_of_ble_eq_true rfl⟩ ⟨by show _ ≤ 34; omega, by show _ ≤ 214; omega⟩ hl.1 (Nat.le_of_ble_eq_true rfl) dX0_init_48 hP hD hS (fun w1 H locs hw hP hD hS => ?_)
      obtain ⟨b, rfl⟩ := hw
      refine va_astq (r := (RX1, TX1, 6)) (ci := 1) (n := 16) (v := q) (cA := cA 4) (vs := [.int (-1), .int (-1), .int 0, .ref b, .int 0, .int (-1)]) (f := fL Ls) X.1 X.2.1 X.2.2.2.2.1 hP hD hS 1 4 (3 + (dlW cA Ls).length) rfl rfl ?_ rfl (vp_in_nI (by omega) (by decide)) dX0_init_51 (fun H locs hP hD hS => ?_)
      · rw [List.getElem?_append_right (by show (bsW cA h n0 r bh (fL Ls) ++ dlW cA Ls).length ≤ _; rw [List.length_append]; exact Nat.le_refl _), List.length_append, show (bsW cA h n0 r bh (fL Ls)).length = 3 from rfl, Nat.sub_self]
        rfl
      have ew : ((bsW cA h n0 r bh (fL Ls) ++ dlW cA Ls) ++ ([(q, .inr (1, [.int (-1), .int (-1), .int 0, .ref b, .int 0, .int (-1)])), (b, .inl (cA 0, (6, .inl (fun _ => 0))))] : va_W)).set 1 ((r, .inl (cA 4, 16, .inr (.inr (.inr (.inr (va_up (fL Ls) (nI Ls.length).toNatClampNeg (some q))))))) : Nat × va_E) = bsW cA h n0 r bh (fL (Ls ++ [(q, b)])) ++ dlW cA (Ls ++ [(q, b)]) := by
        rw [show (nI Ls.length).toNatClampNeg = Ls.length from nI_clamp (by omega), fL_push Ls (q, b), dlW_push, List.append_assoc]
        rfl
      rw [ew] at hP hD
      refine lv_iinc (v := nI Ls.length + 1) X.1 X.2.1 dX0_init_52 hl (show ([(2, Value.int (nI Ls.length)), (0, .ref h), (1, .ref n0)] : List (Nat × Value))[0]? = some (2, .int (nI Ls.length)) from rfl) rfl (by decide) rfl (fun ls hl => ?_)
      refine lv_goto X.1 X.2.1 dX0_init_55 (tgt := 33) (by decide) ?_
      have hl9 : lv_has ls 3 [(2, .int (nI (Ls ++ [(q, b)]).length)), (0, .ref h), (1, .ref n0)] := by
        rw [List.length_append]
        show lv_has ls 3 [(2, .int (nI (Ls.length + 1))), (0, .ref h), (1, .ref n0)]
        rw [← nI_1]
        exact hl
      have := ih r bh (Ls ++ [(q, b)]) (by rw [List.length_append]; show Ls.length + 1 + n = 16; omega) ls H locs hl9 hP hD hS
      rw [List.length_append] at this
      exact W.widen (by show _ ≤ 2 + 2 * (Ls.length + 1); omega) (by show _ ≤ 22 + 12 * (Ls.length + 1); omega) this
  refine lv_aload_n X.1 X.2.1 dX0_init_0 rfl (lv_at hl 0 rfl) ?_
  refine W.objInit X.1 X.2.1 X.2.2.2.1 (X.w oi_X0 rfl) (X.w oi_im rfl) (X.w oi_cd rfl) rfl (hl.1.trans X.2.2.1.symm) rfl dX0_init_1 (Nat.le_of_ble_eq_true rfl) (Nat.le_of_ble_eq_true rfl) ?_
  refine W.eq (g2 := F0 m 4 ls []) rfl ?_
  refine lv_aload_n X.1 X.2.1 dX0_init_4 rfl (lv_at hl 0 rfl) ?_
  refine lv_bipush (v := 16) X.1 X.2.1 dX0_init_5 (by decide) ?_
  refine va_newq (N' := 16) X.1 X.2.1 X.2.2.2.1 (X.w nw_X0_9.1 rfl) (va_AO.moved X.2.2.2.2.2.1.2.1.alike (va_AO.of (X.2.2.2.2.2.1.1.1 _ ao_duty))) X.2.2.2.2.1 hP hD hS X.2.2.2.2.2.2.2.1 (by decide) (by decide) (by decide) (Nat.le_of_ble_eq_true rfl) (Nat.le_of_ble_eq_true rfl) dX0_init_7 (fun r cN H hK1 hP hD hS => ?_)
  have e4 : cN = cA 4 := cA_eq (k := 4) X.2.2.2.2.1 rfl hK1
  subst e4
  have hP : va_P D vwCl [(h, .inr (0, [.null, .null, .null, .int 0])), (r, .inl (cA 4, 16, .inr (.inr (.inr (.inr (fun _ => none))))))] H := hP
  have hD : va_D A [(h, .inr (0, [.null, .null, .null, .int 0])), (r, .inl (cA 4, 16, .inr (.inr (.inr (.inr (fun _ => none))))))] := hD
  refine va_putF (Ts := wsX00) (v := .ref r) X.1 X.2.1 (X.ws inX0 gdX0) (fun _ h => h) tyX0 tyX0_ok nmX0 X.2.2.2.1 X.2.2.2.2.1 hP hD hS 0 rfl rfl 1 (by decide) (X.w fl_X0_11i rfl) (fun _ h9 => h9) rfl hin rfl (tyX0_ok 1 (by decide)) rfl rfl (Nat.le_of_ble_eq_true rfl) dX0_init_10 (fun H locs hP hD hS => ?_)
  have hP : va_P D vwCl [(h, .inr (0, [.null, .ref r, .null, .int 0])), (r, .inl (cA 4, 16, .inr (.inr (.inr (.inr (fun _ => none))))))] H := hP
  have hD : va_D A [(h, .inr (0, [.null, .ref r, .null, .int 0])), (r, .inl (cA 4, 16, .inr (.inr (.inr (.inr (fun _ => none))))))] := hD
  refine lv_aload_n X.1 X.2.1 dX0_init_13 rfl (lv_at hl 0 rfl) ?_
  refine lv_bipush (v := 6) X.1 X.2.1 dX0_init_14 (by decide) ?_
  refine b_newa (atype := .int) (k := 0) (ty := .int) (N := 6) (a1 := (6, .inl (fun _ => 0))) X ac_int rfl rfl rfl (fun _ => rfl) (by decide) (by decide) (by decide) (Nat.le_of_ble_eq_true rfl) (Nat.le_of_ble_eq_true rfl) dX0_init_16 hP hD hS (fun bh H hP hD hS => ?_)
  refine va_putF (Ts := wsX00) (v := .ref bh) X.1 X.2.1 (X.ws inX0 gdX0) (fun _ h => h) tyX0 tyX0_ok nmX0 X.2.2.2.1 X.2.2.2.2.1 hP hD hS 0 rfl rfl 2 (by decide) (X.w fl_X0_17i rfl) (fun _ h9 => h9) rfl hin rfl (tyX0_ok 2 (by decide)) rfl rfl (Nat.le_of_ble_eq_true rfl) dX0_init_18 (fun H locs hP hD hS => ?_)
  refine lv_aload_n X.1 X.2.1 dX0_init_21 rfl (lv_at hl 0 rfl) ?_
  refine lv_iconst (v := 0) X.1 X.2.1 dX0_init_22 (by decide) ?_
  refine va_put (Ts := wsX00) (v := .int 0) X.1 X.2.1 (X.ws inX0 gdX0) (fun _ h => h) tyX0 tyX0_ok nmX0 X.2.2.2.1 X.2.2.2.2.1 hP hD hS 0 rfl rfl 3 (by decide) (X.w fl_X0_21i rfl) (fun _ h9 => h9) rfl (tyX0_ok 3 (by decide)) rfl rfl (Nat.le_of_ble_eq_true rfl) dX0_init_23 (fun H locs hP hD hS => ?_)
  refine lv_aload_n X.1 X.2.1 dX0_init_26 rfl (lv_at hl 0 rfl) ?_
  refine lv_aload_n X.1 X.2.1 dX0_init_27 rfl (lv_at hl 1 rfl) ?_
  refine va_putF (Ts := wsX00) (v := .ref n0) X.1 X.2.1 (X.ws inX0 gdX0) (fun _ h => h) tyX0 tyX0_ok nmX0 X.2.2.2.1 X.2.2.2.2.1 hP hD hS 0 rfl rfl 0 (by decide) (X.w fl_X0_25i rfl) (fun _ h9 => h9) rfl hin rfl (tyX0_ok 0 (by decide)) rfl rfl (Nat.le_of_ble_eq_true rfl) dX0_init_28 (fun H locs hP hD hS => ?_)
  refine lv_iconst (v := 0) X.1 X.2.1 dX0_init_31 (by decide) ?_
  refine lv_istore_n X.1 X.2.1 dX0_init_32 rfl hl (by decide) rfl (fun ls hl => ?_)
  have ef : (fun _ => none : Nat → Option Nat) = fL [] := by funext j; rfl
  have hP : va_P D vwCl (bsW cA h n0 r bh (fL []) ++ dlW cA []) H := by rw [← ef]; exact hP
  have hD : va_D A (bsW cA h n0 r bh (fL []) ++ dlW cA []) := by rw [← ef]; exact hD
  exact loop 16 r bh [] rfl ls H locs hl hP hD hS
