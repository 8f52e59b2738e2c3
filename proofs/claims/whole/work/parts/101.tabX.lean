set_option maxRecDepth 100000 in
theorem fl_X4_10 : Cond.fieldLink RX4 10 (TX4 0).1 (TX4 0).2.1 (TX4 0).2.2.1 ∈ lw_tbl := List.mem_of_getElem? (i := 154) rfl
set_option maxRecDepth 100000 in
theorem cw_X4_32 : ∀ w ∈ wsV RX4 32 RX2 yX2_haveWordsFor [.code yX2_haveWordsFor cX2_haveWordsFor 5 (some .boolean)], w ∈ lw_tbl := memC5 (List.mem_of_getElem? (i := 173) rfl) (List.mem_of_getElem? (i := 174) rfl) (List.mem_of_getElem? (i := 175) rfl) (List.mem_of_getElem? (i := 31) rfl) (List.mem_of_getElem? (i := 176) rfl)
set_option maxRecDepth 100000 in
theorem th_X4_36_38 : Cond.classLink RX4 36 "java/lang/IllegalArgumentException" ∈ lw_tbl ∧ Cond.initialized "java/lang/IllegalArgumentException" ∈ lw_tbl := ⟨List.mem_of_getElem? (i := 194) rfl, List.mem_of_getElem? (i := 39) rfl⟩
set_option maxRecDepth 100000 in
theorem th_X4_36_38a : ∀ w ∈ vx_at0 RX4 38 "java/lang/IllegalArgumentException" ["java/lang/RuntimeException", "java/lang/Exception"], w ∈ lw_tbl := by decide +kernel
set_option maxRecDepth 100000 in
theorem th_X4_36_38g : (vx_at0 RX4 38 "java/lang/IllegalArgumentException" ["java/lang/RuntimeException", "java/lang/Exception"]).all gx = true := by decide +kernel
set_option maxRecDepth 100000 in
theorem th_X4_36_38o : (Cond.classLink RX4 36 "java/lang/IllegalArgumentException" :: Cond.initialized "java/lang/IllegalArgumentException" :: vx_at0 RX4 38 "java/lang/IllegalArgumentException" ["java/lang/RuntimeException", "java/lang/Exception"]).all vx_ot = true := by decide +kernel
set_option maxRecDepth 100000 in
theorem cw_X4_39 : ∀ w ∈ wsV RX4 39 RX2 yX2_heightOf [.code yX2_heightOf cX2_heightOf 6 (some .int)], w ∈ lw_tbl := memC5 (List.mem_of_getElem? (i := 256) rfl) (List.mem_of_getElem? (i := 257) rfl) (List.mem_of_getElem? (i := 258) rfl) (List.mem_of_getElem? (i := 31) rfl) (List.mem_of_getElem? (i := 259) rfl)
set_option maxRecDepth 100000 in
theorem fl_X4_43 : Cond.fieldLink RX4 43 (TX2 5).1 (TX2 5).2.1 (TX2 5).2.2.1 ∈ lw_tbl := List.mem_of_getElem? (i := 71) rfl
set_option maxRecDepth 100000 in
theorem th_X4_47_49 : Cond.classLink RX4 47 "java/lang/IllegalStateException" ∈ lw_tbl ∧ Cond.initialized "java/lang/IllegalStateException" ∈ lw_tbl := ⟨List.mem_of_getElem? (i := 267) rfl, List.mem_of_getElem? (i := 41) rfl⟩
set_option maxRecDepth 100000 in
theorem th_X4_47_49a : ∀ w ∈ vx_at0 RX4 49 "java/lang/IllegalStateException" ["java/lang/RuntimeException", "java/lang/Exception"], w ∈ lw_tbl := by decide +kernel
set_option maxRecDepth 100000 in
theorem th_X4_47_49g : (vx_at0 RX4 49 "java/lang/IllegalStateException" ["java/lang/RuntimeException", "java/lang/Exception"]).all gx = true := by decide +kernel
set_option maxRecDepth 100000 in
theorem th_X4_47_49o : (Cond.classLink RX4 47 "java/lang/IllegalStateException" :: Cond.initialized "java/lang/IllegalStateException" :: vx_at0 RX4 49 "java/lang/IllegalStateException" ["java/lang/RuntimeException", "java/lang/Exception"]).all vx_ot = true := by decide +kernel
set_option maxRecDepth 100000 in
theorem cw_X4_50 : ∀ w ∈ wsV RX4 50 RX2 yX2_add [.code yX2_add cX2_add 7 (some .int)], w ∈ lw_tbl := memC5 (List.mem_of_getElem? (i := 282) rfl) (List.mem_of_getElem? (i := 283) rfl) (List.mem_of_getElem? (i := 284) rfl) (List.mem_of_getElem? (i := 31) rfl) (List.mem_of_getElem? (i := 285) rfl)
set_option maxRecDepth 100000 in
theorem cw_X4_54 : ∀ w ∈ wsV RX4 54 RX2 yX2_has [.code yX2_has cX2_has 3 (some .boolean)], w ∈ lw_tbl := memC5 (List.mem_of_getElem? (i := 293) rfl) (List.mem_of_getElem? (i := 184) rfl) (List.mem_of_getElem? (i := 185) rfl) (List.mem_of_getElem? (i := 31) rfl) (List.mem_of_getElem? (i := 186) rfl)
set_option maxRecDepth 100000 in
theorem cw_X4_58 : ∀ w ∈ va_wsS RX4 58 yX4_isStore [.code yX4_isStore cX4_isStore 1 (some .boolean)], w ∈ lw_tbl := memC4 (List.mem_of_getElem? (i := 294) rfl) (List.mem_of_getElem? (i := 295) rfl) (List.mem_of_getElem? (i := 30) rfl) (List.mem_of_getElem? (i := 296) rfl)
set_option maxRecDepth 100000 in
theorem cw_X4_62 : ∀ w ∈ wsV RX4 62 RX2 yX2_numberIn [.code yX2_numberIn cX2_numberIn 5 (some .int)], w ∈ lw_tbl := memC5 (List.mem_of_getElem? (i := 297) rfl) (List.mem_of_getElem? (i := 298) rfl) (List.mem_of_getElem? (i := 299) rfl) (List.mem_of_getElem? (i := 31) rfl) (List.mem_of_getElem? (i := 300) rfl)
set_option maxRecDepth 100000 in
theorem cw_X4_66 : ∀ w ∈ wsV RX4 66 RX2 yX2_isTrueIn [.code yX2_isTrueIn cX2_isTrueIn 5 (some .boolean)], w ∈ lw_tbl := memC5 (List.mem_of_getElem? (i := 309) rfl) (List.mem_of_getElem? (i := 310) rfl) (List.mem_of_getElem? (i := 311) rfl) (List.mem_of_getElem? (i := 31) rfl) (List.mem_of_getElem? (i := 312) rfl)
set_option maxRecDepth 100000 in
theorem fl_X4_21 : Cond.fieldLink RX4 21 (TX4 1).1 (TX4 1).2.1 (TX4 1).2.2.1 ∈ lw_tbl := List.mem_of_getElem? (i := 155) rfl
set_option maxRecDepth 100000 in
theorem cw_X4_69 : ∀ w ∈ wsV RX4 69 RX3 yX3_storeBehind [.code yX3_storeBehind cX3_storeBehind 4 (some .int)], w ∈ lw_tbl := memC5 (List.mem_of_getElem? (i := 321) rfl) (List.mem_of_getElem? (i := 322) rfl) (List.mem_of_getElem? (i := 323) rfl) (List.mem_of_getElem? (i := 32) rfl) (List.mem_of_getElem? (i := 324) rfl)
set_option maxRecDepth 100000 in
theorem fl_X4_28 : Cond.fieldLink RX4 28 (TX4 2).1 (TX4 2).2.1 (TX4 2).2.2.1 ∈ lw_tbl := List.mem_of_getElem? (i := 156) rfl
set_option maxRecDepth 100000 in
theorem cw_X4_73 : ∀ w ∈ wsV RX4 73 RX0 yX0_howManyOf [.code yX0_howManyOf cX0_howManyOf 4 (some .int)], w ∈ lw_tbl := memC5 (List.mem_of_getElem? (i := 345) rfl) (List.mem_of_getElem? (i := 346) rfl) (List.mem_of_getElem? (i := 347) rfl) (List.mem_of_getElem? (i := 33) rfl) (List.mem_of_getElem? (i := 348) rfl)
set_option maxRecDepth 100000 in
theorem cw_X4_77 : ∀ w ∈ wsV RX4 77 RX0 yX0_replaceBy [.code yX0_replaceBy cX0_replaceBy 4 none], w ∈ lw_tbl := memC5 (List.mem_of_getElem? (i := 350) rfl) (List.mem_of_getElem? (i := 351) rfl) (List.mem_of_getElem? (i := 352) rfl) (List.mem_of_getElem? (i := 33) rfl) (List.mem_of_getElem? (i := 353) rfl)
set_option maxRecDepth 100000 in
theorem fl_X4_81 : Cond.fieldLink RX4 81 (TX0 3).1 (TX0 3).2.1 (TX0 3).2.2.1 ∈ lw_tbl := List.mem_of_getElem? (i := 144) rfl
set_option maxRecDepth 100000 in
theorem cw_X4_82 : ∀ w ∈ wsV RX4 82 RX0 yX0_has [.code yX0_has cX0_has 2 (some .boolean)], w ∈ lw_tbl := memC5 (List.mem_of_getElem? (i := 372) rfl) (List.mem_of_getElem? (i := 373) rfl) (List.mem_of_getElem? (i := 374) rfl) (List.mem_of_getElem? (i := 33) rfl) (List.mem_of_getElem? (i := 375) rfl)
set_option maxRecDepth 100000 in
theorem cw_X4_84 : ∀ w ∈ wsV RX4 84 RX0 yX0_isKeptIn [.code yX0_isKeptIn cX0_isKeptIn 4 (some .boolean)], w ∈ lw_tbl := memC5 (List.mem_of_getElem? (i := 376) rfl) (List.mem_of_getElem? (i := 377) rfl) (List.mem_of_getElem? (i := 378) rfl) (List.mem_of_getElem? (i := 33) rfl) (List.mem_of_getElem? (i := 379) rfl)
set_option maxRecDepth 100000 in
theorem cw_X4_87 : ∀ w ∈ wsV RX4 87 RX0 yX0_leastBroken [.code yX0_leastBroken cX0_leastBroken 3 (some .int)], w ∈ lw_tbl := memC5 (List.mem_of_getElem? (i := 398) rfl) (List.mem_of_getElem? (i := 399) rfl) (List.mem_of_getElem? (i := 400) rfl) (List.mem_of_getElem? (i := 33) rfl) (List.mem_of_getElem? (i := 401) rfl)
set_option maxRecDepth 100000 in
theorem cw_X4_90 : ∀ w ∈ wsV RX4 90 RX0 yX0_howManyBroken [.code yX0_howManyBroken cX0_howManyBroken 6 (some .int)], w ∈ lw_tbl := memC5 (List.mem_of_getElem? (i := 410) rfl) (List.mem_of_getElem? (i := 411) rfl) (List.mem_of_getElem? (i := 412) rfl) (List.mem_of_getElem? (i := 33) rfl) (List.mem_of_getElem? (i := 413) rfl)
set_option maxRecDepth 100000 in
theorem cw_X4_93 : ∀ w ∈ wsV RX4 93 RX0 yX0_howManyBrokenPairs [.code yX0_howManyBrokenPairs cX0_howManyBrokenPairs 3 (some .int)], w ∈ lw_tbl := memC5 (List.mem_of_getElem? (i := 421) rfl) (List.mem_of_getElem? (i := 422) rfl) (List.mem_of_getElem? (i := 423) rfl) (List.mem_of_getElem? (i := 33) rfl) (List.mem_of_getElem? (i := 424) rfl)
set_option maxRecDepth 100000 in
theorem cw_X4_97 : ∀ w ∈ wsV RX4 97 RX0 yX0_howManyValid [.code yX0_howManyValid cX0_howManyValid 3 (some .int)], w ∈ lw_tbl := memC5 (List.mem_of_getElem? (i := 433) rfl) (List.mem_of_getElem? (i := 434) rfl) (List.mem_of_getElem? (i := 435) rfl) (List.mem_of_getElem? (i := 33) rfl) (List.mem_of_getElem? (i := 436) rfl)
def tb_X4_make (Φ : Post) (Ψ : PostX) (S_X2_haveWordsFor S_X2_heightOf S_X2_add : SpecT) : List (Nat × Tr) := [
  (0, tq_ild 1 1),
  (1, tq_if_lt 25 4),
  (4, tq_ild 1 5),
  (5, tq_push 15 7),
  (7, tq_ic_gt 25 10),
  (10, tq_ald 0 11),
  (11, tq_gf 4 0 14),
  (14, tq_ild 1 15),
  (15, tq_ild 2 16),
  (16, tq_ild 3 17),
  (17, tq_ild 4 19),
  (19, tq_cv 2 5 S_X2_haveWordsFor 22),
  (22, tq_if_ne 33 25),
  (25, tq_thr Ψ "java/lang/IllegalArgumentException"),
  (33, tq_ald 0 34),
  (34, tq_gf 4 0 37),
  (37, tq_ild 1 38),
  (38, tq_ild 2 39),
  (39, tq_ild 3 40),
  (40, tq_ild 4 42),
  (42, tq_cv 2 5 S_X2_heightOf 45),
  (45, tq_ist 5 47),
  (47, tq_ald 0 48),
  (48, tq_gf 4 0 51),
  (51, tq_gf 2 5 54),
  (54, tq_push 60 56),
  (56, tq_ic_ge 66 59),
  (59, tq_ild 5 61),
  (61, tq_push 6 63),
  (63, tq_ic_le 74 66),
  (66, tq_thr Ψ "java/lang/IllegalStateException"),
  (74, tq_ald 0 75),
  (75, tq_gf 4 0 78),
  (78, tq_ild 1 79),
  (79, tq_ild 2 80),
  (80, tq_ild 3 81),
  (81, tq_ild 4 83),
  (83, tq_ild 5 85),
  (85, tq_cv 2 6 S_X2_add 88),
  (88, tq_iret Φ)]
set_option maxRecDepth 100000 in
theorem tk_X4_make {p : Program} {l : Launch} {e : Env} {s s0 : State} {a0 : Array Value} {m : MethodId} {args : Array Value} {below : List Frame} {meth : Method} {c : Code} {D : va_G} {ad : Nat → Nat → Nat} {cA : Nat → ClassId} {A : Nat → Prop} {lv : Nat} {Φ : Post} {Ψ : PostX} (X : Cx p l s0 a0 s m args meth c cX4_make 6 RX4 D ad cA A) (hr : meth.sig.returnType = (some .int)) (htab : ∀ x ∈ c.exceptionTable.toList, False) (g_six : 6 ≤ lv) {S_X2_haveWordsFor : SpecT} {v_X2_haveWordsFor : Nat} (h_X2_haveWordsFor : Con l yX2_haveWordsFor cX2_haveWordsFor 5 (some .boolean) 5 v_X2_haveWordsFor S_X2_haveWordsFor) (g_X2_haveWordsFor : v_X2_haveWordsFor + 1 ≤ lv) {S_X2_heightOf : SpecT} {v_X2_heightOf : Nat} (h_X2_heightOf : Con l yX2_heightOf cX2_heightOf 6 (some .int) 5 v_X2_heightOf S_X2_heightOf) (g_X2_heightOf : v_X2_heightOf + 1 ≤ lv) {S_X2_add : SpecT} {v_X2_add : Nat} (h_X2_add : Con l yX2_add cX2_add 7 (some .int) 6 v_X2_add S_X2_add) (g_X2_add : v_X2_add + 1 ≤ lv) : tabOK (K p l e (rmX lv) s m args below meth c D ad cA A 6 0 0 (vx_MQ below (QcW Φ D ad cA A) (XcW Ψ D ad cA A) args s 1 6 A)) (tb_X4_make Φ Ψ S_X2_haveWordsFor S_X2_heightOf S_X2_add) :=
  ⟨sq_iload_n X rfl dX4_make_0,
  sq_if_lt X (by decide) dX4_make_1,
  sq_iload_n X rfl dX4_make_4,
  sq_bipush X (by decide) dX4_make_5,
  sq_ic_gt X (by decide) dX4_make_7,
  sq_aload_n X rfl dX4_make_10,
  sq_gf X (ci := 4) rfl inX4 gdX4 (by decide) fl_X4_10 dX4_make_11,
  sq_iload_n X rfl dX4_make_14,
  sq_iload_n X rfl dX4_make_15,
  sq_iload_n X rfl dX4_make_16,
  sq_iload X dX4_make_17,
  sq_cv X h_X2_haveWordsFor ⟨_, _, rfl⟩ cw_X4_32 ⟨rfl, by decide, by decide, by decide +kernel⟩ (by decide +kernel) (lev_okX g_X2_haveWordsFor (by decide)) ⟨Nat.zero_le _, Nat.zero_le _⟩ dX4_make_19,
  sq_if_ne X (by decide) dX4_make_22,
  sx_thr X htab (by decide +kernel) (by decide +kernel) th_X4_36_38.1 th_X4_36_38.2 th_X4_36_38a th_X4_36_38g th_X4_36_38o ⟨by show 5 < lv; omega, by show 81 ≤ 60 * lv; omega⟩ ⟨Nat.le_refl _, Nat.le_refl _⟩ dX4_make_25 dX4_make_28 dX4_make_29 dX4_make_32,
  sq_aload_n X rfl dX4_make_33,
  sq_gf X (ci := 4) rfl inX4 gdX4 (by decide) fl_X4_10 dX4_make_34,
  sq_iload_n X rfl dX4_make_37,
  sq_iload_n X rfl dX4_make_38,
  sq_iload_n X rfl dX4_make_39,
  sq_iload X dX4_make_40,
  sq_cv X h_X2_heightOf ⟨_, _, rfl⟩ cw_X4_39 ⟨rfl, by decide, by decide, by decide +kernel⟩ (by decide +kernel) (lev_okX g_X2_heightOf (by decide)) ⟨Nat.zero_le _, Nat.zero_le _⟩ dX4_make_42,
  sq_istore X (by decide) dX4_make_45,
  sq_aload_n X rfl dX4_make_47,
  sq_gf X (ci := 4) rfl inX4 gdX4 (by decide) fl_X4_10 dX4_make_48,
  sq_gf X (ci := 2) rfl inX2 gdX2 (by decide) fl_X4_43 dX4_make_51,
  sq_bipush X (by decide) dX4_make_54,
  sq_ic_ge X (by decide) dX4_make_56,
  sq_iload X dX4_make_59,
  sq_bipush X (by decide) dX4_make_61,
  sq_ic_le X (by decide) dX4_make_63,
  sx_thr X htab (by decide +kernel) (by decide +kernel) th_X4_47_49.1 th_X4_47_49.2 th_X4_47_49a th_X4_47_49g th_X4_47_49o ⟨by show 5 < lv; omega, by show 81 ≤ 60 * lv; omega⟩ ⟨Nat.le_refl _, Nat.le_refl _⟩ dX4_make_66 dX4_make_69 dX4_make_70 dX4_make_73,
  sq_aload_n X rfl dX4_make_74,
  sq_gf X (ci := 4) rfl inX4 gdX4 (by decide) fl_X4_10 dX4_make_75,
  sq_iload_n X rfl dX4_make_78,
  sq_iload_n X rfl dX4_make_79,
  sq_iload_n X rfl dX4_make_80,
  sq_iload X dX4_make_81,
  sq_iload X dX4_make_83,
  sq_cv X h_X2_add ⟨_, _, rfl⟩ cw_X4_50 ⟨rfl, by decide, by decide, by decide +kernel⟩ (by decide +kernel) (lev_okX g_X2_add (by decide)) ⟨Nat.zero_le _, Nat.zero_le _⟩ dX4_make_85,
  sx_iret X hr dX4_make_88, trivial⟩
def tb_X4_value (Φ : Post) (Ψ : PostX) (S_X2_has S_X4_isStore S_X2_numberIn : SpecT) : List (Nat × Tr) := [
  (0, tq_ald 0 1),
  (1, tq_gf 4 0 4),
  (4, tq_ild 1 5),
  (5, tq_push 5 6),
  (6, tq_cv 2 3 S_X2_has 9),
  (9, tq_if_eq 19 12),
  (12, tq_ild 2 13),
  (13, tq_cs 1 S_X4_isStore 16),
  (16, tq_if_ne 27 19),
  (19, tq_thr Ψ "java/lang/IllegalArgumentException"),
  (27, tq_ald 0 28),
  (28, tq_gf 4 0 31),
  (31, tq_ild 1 32),
  (32, tq_ild 2 33),
  (33, tq_cv 2 3 S_X2_numberIn 36),
  (36, tq_iret Φ)]
set_option maxRecDepth 100000 in
theorem tk_X4_value {p : Program} {l : Launch} {e : Env} {s s0 : State} {a0 : Array Value} {m : MethodId} {args : Array Value} {below : List Frame} {meth : Method} {c : Code} {D : va_G} {ad : Nat → Nat → Nat} {cA : Nat → ClassId} {A : Nat → Prop} {lv : Nat} {Φ : Post} {Ψ : PostX} (X : Cx p l s0 a0 s m args meth c cX4_value 3 RX4 D ad cA A) (hr : meth.sig.returnType = (some .int)) (htab : ∀ x ∈ c.exceptionTable.toList, False) (g_six : 6 ≤ lv) {S_X2_has : SpecT} {v_X2_has : Nat} (h_X2_has : Con l yX2_has cX2_has 3 (some .boolean) 3 v_X2_has S_X2_has) (g_X2_has : v_X2_has + 1 ≤ lv) {S_X4_isStore : SpecT} {v_X4_isStore : Nat} (h_X4_isStore : Con l yX4_isStore cX4_isStore 1 (some .boolean) 1 v_X4_isStore S_X4_isStore) (g_X4_isStore : v_X4_isStore + 1 ≤ lv) {S_X2_numberIn : SpecT} {v_X2_numberIn : Nat} (h_X2_numberIn : Con l yX2_numberIn cX2_numberIn 5 (some .int) 3 v_X2_numberIn S_X2_numberIn) (g_X2_numberIn : v_X2_numberIn + 1 ≤ lv) : tabOK (K p l e (rmX lv) s m args below meth c D ad cA A 3 0 0 (vx_MQ below (QcW Φ D ad cA A) (XcW Ψ D ad cA A) args s 1 6 A)) (tb_X4_value Φ Ψ S_X2_has S_X4_isStore S_X2_numberIn) :=
  ⟨sq_aload_n X rfl dX4_value_0,
  sq_gf X (ci := 4) rfl inX4 gdX4 (by decide) fl_X4_10 dX4_value_1,
  sq_iload_n X rfl dX4_value_4,
  sq_iconst X (by decide) dX4_value_5,
  sq_cv X h_X2_has ⟨_, _, rfl⟩ cw_X4_54 ⟨rfl, by decide, by decide, by decide +kernel⟩ (by decide +kernel) (lev_okX g_X2_has (by decide)) ⟨Nat.zero_le _, Nat.zero_le _⟩ dX4_value_6,
  sq_if_eq X (by decide) dX4_value_9,
  sq_iload_n X rfl dX4_value_12,
  sq_cs X h_X4_isStore cw_X4_58 ⟨by decide, by decide, by decide +kernel⟩ (by decide +kernel) (lev_okX g_X4_isStore (by decide)) ⟨Nat.zero_le _, Nat.zero_le _⟩ dX4_value_13,
  sq_if_ne X (by decide) dX4_value_16,
  sx_thr X htab (by decide +kernel) (by decide +kernel) th_X4_36_38.1 th_X4_36_38.2 th_X4_36_38a th_X4_36_38g th_X4_36_38o ⟨by show 5 < lv; omega, by show 81 ≤ 60 * lv; omega⟩ ⟨Nat.le_refl _, Nat.le_refl _⟩ dX4_value_19 dX4_value_22 dX4_value_23 dX4_value_26,
  sq_aload_n X rfl dX4_value_27,
  sq_gf X (ci := 4) rfl inX4 gdX4 (by decide) fl_X4_10 dX4_value_28,
  sq_iload_n X rfl dX4_value_31,
  sq_iload_n X rfl dX4_value_32,
  sq_cv X h_X2_numberIn ⟨_, _, rfl⟩ cw_X4_62 ⟨rfl, by decide, by decide, by decide +kernel⟩ (by decide +kernel) (lev_okX g_X2_numberIn (by decide)) ⟨Nat.zero_le _, Nat.zero_le _⟩ dX4_value_33,
  sx_iret X hr dX4_value_36, trivial⟩
def tb_X4_holds (Φ : Post) (Ψ : PostX) (S_X2_has S_X4_isStore S_X2_isTrueIn : SpecT) : List (Nat × Tr) := [
  (0, tq_ald 0 1),
  (1, tq_gf 4 0 4),
  (4, tq_ild 1 5),
  (5, tq_push 6 7),
  (7, tq_cv 2 3 S_X2_has 10),
  (10, tq_if_eq 20 13),
  (13, tq_ild 2 14),
  (14, tq_cs 1 S_X4_isStore 17),
  (17, tq_if_ne 28 20),
  (20, tq_thr Ψ "java/lang/IllegalArgumentException"),
  (28, tq_ald 0 29),
  (29, tq_gf 4 0 32),
  (32, tq_ild 1 33),
  (33, tq_ild 2 34),
  (34, tq_cv 2 3 S_X2_isTrueIn 37),
  (37, tq_zret Φ)]
set_option maxRecDepth 100000 in
theorem tk_X4_holds {p : Program} {l : Launch} {e : Env} {s s0 : State} {a0 : Array Value} {m : MethodId} {args : Array Value} {below : List Frame} {meth : Method} {c : Code} {D : va_G} {ad : Nat → Nat → Nat} {cA : Nat → ClassId} {A : Nat → Prop} {lv : Nat} {Φ : Post} {Ψ : PostX} (X : Cx p l s0 a0 s m args meth c cX4_holds 3 RX4 D ad cA A) (hr : meth.sig.returnType = (some .boolean)) (htab : ∀ x ∈ c.exceptionTable.toList, False) (g_six : 6 ≤ lv) {S_X2_has : SpecT} {v_X2_has : Nat} (h_X2_has : Con l yX2_has cX2_has 3 (some .boolean) 3 v_X2_has S_X2_has) (g_X2_has : v_X2_has + 1 ≤ lv) {S_X4_isStore : SpecT} {v_X4_isStore : Nat} (h_X4_isStore : Con l yX4_isStore cX4_isStore 1 (some .boolean) 1 v_X4_isStore S_X4_isStore) (g_X4_isStore : v_X4_isStore + 1 ≤ lv) {S_X2_isTrueIn : SpecT} {v_X2_isTrueIn : Nat} (h_X2_isTrueIn : Con l yX2_isTrueIn cX2_isTrueIn 5 (some .boolean) 3 v_X2_isTrueIn S_X2_isTrueIn) (g_X2_isTrueIn : v_X2_isTrueIn + 1 ≤ lv) : tabOK (K p l e (rmX lv) s m args below meth c D ad cA A 3 0 0 (vx_MQ below (QcW Φ D ad cA A) (XcW Ψ D ad cA A) args s 1 6 A)) (tb_X4_holds Φ Ψ S_X2_has S_X4_isStore S_X2_isTrueIn) :=
  ⟨sq_aload_n X rfl dX4_holds_0,
  sq_gf X (ci := 4) rfl inX4 gdX4 (by decide) fl_X4_10 dX4_holds_1,
  sq_iload_n X rfl dX4_holds_4,
  sq_bipush X (by decide) dX4_holds_5,
  sq_cv X h_X2_has ⟨_, _, rfl⟩ cw_X4_54 ⟨rfl, by decide, by decide, by decide +kernel⟩ (by decide +kernel) (lev_okX g_X2_has (by decide)) ⟨Nat.zero_le _, Nat.zero_le _⟩ dX4_holds_7,
  sq_if_eq X (by decide) dX4_holds_10,
  sq_iload_n X rfl dX4_holds_13,
  sq_cs X h_X4_isStore cw_X4_58 ⟨by decide, by decide, by decide +kernel⟩ (by decide +kernel) (lev_okX g_X4_isStore (by decide)) ⟨Nat.zero_le _, Nat.zero_le _⟩ dX4_holds_14,
  sq_if_ne X (by decide) dX4_holds_17,
  sx_thr X htab (by decide +kernel) (by decide +kernel) th_X4_36_38.1 th_X4_36_38.2 th_X4_36_38a th_X4_36_38g th_X4_36_38o ⟨by show 5 < lv; omega, by show 81 ≤ 60 * lv; omega⟩ ⟨Nat.le_refl _, Nat.le_refl _⟩ dX4_holds_20 dX4_holds_23 dX4_holds_24 dX4_holds_27,
  sq_aload_n X rfl dX4_holds_28,
  sq_gf X (ci := 4) rfl inX4 gdX4 (by decide) fl_X4_10 dX4_holds_29,
  sq_iload_n X rfl dX4_holds_32,
  sq_iload_n X rfl dX4_holds_33,
  sq_cv X h_X2_isTrueIn ⟨_, _, rfl⟩ cw_X4_66 ⟨rfl, by decide, by decide, by decide +kernel⟩ (by decide +kernel) (lev_okX g_X2_isTrueIn (by decide)) ⟨Nat.zero_le _, Nat.zero_le _⟩ dX4_holds_34,
  sx_zret X hr dX4_holds_37, trivial⟩
def tb_X4_run (Φ : Post) (Ψ : PostX) (S_X2_has S_X4_isStore S_X3_storeBehind : SpecT) : List (Nat × Tr) := [
  (0, tq_ald 0 1),
  (1, tq_gf 4 0 4),
  (4, tq_ild 1 5),
  (5, tq_push 7 7),
  (7, tq_cv 2 3 S_X2_has 10),
  (10, tq_if_eq 32 13),
  (13, tq_ild 2 14),
  (14, tq_cs 1 S_X4_isStore 17),
  (17, tq_if_eq 32 20),
  (20, tq_ild 3 21),
  (21, tq_push 1 22),
  (22, tq_ic_lt 32 25),
  (25, tq_ild 3 26),
  (26, tq_push 500 29),
  (29, tq_ic_le 40 32),
  (32, tq_thr Ψ "java/lang/IllegalArgumentException"),
  (40, tq_ald 0 41),
  (41, tq_gf 4 1 44),
  (44, tq_ild 1 45),
  (45, tq_ild 2 46),
  (46, tq_ild 3 47),
  (47, tq_cv 3 4 S_X3_storeBehind 50),
  (50, tq_ist 4 52),
  (52, tq_ild 4 54),
  (54, tq_push (-1) 55),
  (55, tq_ic_ne 66 58),
  (58, tq_thr Ψ "java/lang/IllegalStateException"),
  (66, tq_ild 4 68),
  (68, tq_iret Φ)]
set_option maxRecDepth 100000 in
theorem tk_X4_run {p : Program} {l : Launch} {e : Env} {s s0 : State} {a0 : Array Value} {m : MethodId} {args : Array Value} {below : List Frame} {meth : Method} {c : Code} {D : va_G} {ad : Nat → Nat → Nat} {cA : Nat → ClassId} {A : Nat → Prop} {lv : Nat} {Φ : Post} {Ψ : PostX} (X : Cx p l s0 a0 s m args meth c cX4_run 5 RX4 D ad cA A) (hr : meth.sig.returnType = (some .int)) (htab : ∀ x ∈ c.exceptionTable.toList, False) (g_six : 6 ≤ lv) {S_X2_has : SpecT} {v_X2_has : Nat} (h_X2_has : Con l yX2_has cX2_has 3 (some .boolean) 3 v_X2_has S_X2_has) (g_X2_has : v_X2_has + 1 ≤ lv) {S_X4_isStore : SpecT} {v_X4_isStore : Nat} (h_X4_isStore : Con l yX4_isStore cX4_isStore 1 (some .boolean) 1 v_X4_isStore S_X4_isStore) (g_X4_isStore : v_X4_isStore + 1 ≤ lv) {S_X3_storeBehind : SpecT} {v_X3_storeBehind : Nat} (h_X3_storeBehind : Con l yX3_storeBehind cX3_storeBehind 4 (some .int) 4 v_X3_storeBehind S_X3_storeBehind) (g_X3_storeBehind : v_X3_storeBehind + 1 ≤ lv) : tabOK (K p l e (rmX lv) s m args below meth c D ad cA A 5 0 0 (vx_MQ below (QcW Φ D ad cA A) (XcW Ψ D ad cA A) args s 1 6 A)) (tb_X4_run Φ Ψ S_X2_has S_X4_isStore S_X3_storeBehind) :=
  ⟨sq_aload_n X rfl dX4_run_0,
  sq_gf X (ci := 4) rfl inX4 gdX4 (by decide) fl_X4_10 dX4_run_1,
  sq_iload_n X rfl dX4_run_4,
  sq_bipush X (by decide) dX4_run_5,
  sq_cv X h_X2_has ⟨_, _, rfl⟩ cw_X4_54 ⟨rfl, by decide, by decide, by decide +kernel⟩ (by decide +kernel) (lev_okX g_X2_has (by decide)) ⟨Nat.zero_le _, Nat.zero_le _⟩ dX4_run_7,
  sq_if_eq X (by decide) dX4_run_10,
  sq_iload_n X rfl dX4_run_13,
  sq_cs X h_X4_isStore cw_X4_58 ⟨by decide, by decide, by decide +kernel⟩ (by decide +kernel) (lev_okX g_X4_isStore (by decide)) ⟨Nat.zero_le _, Nat.zero_le _⟩ dX4_run_14,
  sq_if_eq X (by decide) dX4_run_17,
  sq_iload_n X rfl dX4_run_20,
  sq_iconst X (by decide) dX4_run_21,
  sq_ic_lt X (by decide) dX4_run_22,
  sq_iload_n X rfl dX4_run_25,
  sq_sipush X (by decide) dX4_run_26,
  sq_ic_le X (by decide) dX4_run_29,
  sx_thr X htab (by decide +kernel) (by decide +kernel) th_X4_36_38.1 th_X4_36_38.2 th_X4_36_38a th_X4_36_38g th_X4_36_38o ⟨by show 5 < lv; omega, by show 81 ≤ 60 * lv; omega⟩ ⟨Nat.le_refl _, Nat.le_refl _⟩ dX4_run_32 dX4_run_35 dX4_run_36 dX4_run_39,
  sq_aload_n X rfl dX4_run_40,
  sq_gf X (ci := 4) rfl inX4 gdX4 (by decide) fl_X4_21 dX4_run_41,
  sq_iload_n X rfl dX4_run_44,
  sq_iload_n X rfl dX4_run_45,
  sq_iload_n X rfl dX4_run_46,
  sq_cv X h_X3_storeBehind ⟨_, _, rfl⟩ cw_X4_69 ⟨rfl, by decide, by decide, by decide +kernel⟩ (by decide +kernel) (lev_okX g_X3_storeBehind (by decide)) ⟨Nat.zero_le _, Nat.zero_le _⟩ dX4_run_47,
  sq_istore X (by decide) dX4_run_50,
  sq_iload X dX4_run_52,
  sq_iconst X (by decide) dX4_run_54,
  sq_ic_ne X (by decide) dX4_run_55,
  sx_thr X htab (by decide +kernel) (by decide +kernel) th_X4_47_49.1 th_X4_47_49.2 th_X4_47_49a th_X4_47_49g th_X4_47_49o ⟨by show 5 < lv; omega, by show 81 ≤ 60 * lv; omega⟩ ⟨Nat.le_refl _, Nat.le_refl _⟩ dX4_run_58 dX4_run_61 dX4_run_62 dX4_run_65,
  sq_iload X dX4_run_66,
  sx_iret X hr dX4_run_68, trivial⟩
def tb_X4_promise (Φ : Post) (Ψ : PostX) (S_X2_has S_X0_howManyOf S_X0_replaceBy : SpecT) : List (Nat × Tr) := [
  (0, tq_ald 0 1),
  (1, tq_gf 4 0 4),
  (4, tq_ild 1 5),
  (5, tq_push 6 7),
  (7, tq_cv 2 3 S_X2_has 10),
  (10, tq_if_eq 39 13),
  (13, tq_ald 0 14),
  (14, tq_gf 4 0 17),
  (17, tq_ild 2 18),
  (18, tq_push 7 20),
  (20, tq_cv 2 3 S_X2_has 23),
  (23, tq_if_eq 39 26),
  (26, tq_ald 0 27),
  (27, tq_gf 4 0 30),
  (30, tq_ild 3 31),
  (31, tq_push 6 33),
  (33, tq_cv 2 3 S_X2_has 36),
  (36, tq_if_ne 47 39),
  (39, tq_thr Ψ "java/lang/IllegalArgumentException"),
  (47, tq_push 1 48),
  (48, tq_ald 0 49),
  (49, tq_gf 4 2 52),
  (52, tq_ild 2 53),
  (53, tq_cv 0 2 S_X0_howManyOf 56),
  (56, tq_iadd 57),
  (57, tq_push 16 59),
  (59, tq_ic_le 70 62),
  (62, tq_thr Ψ "java/lang/IllegalStateException"),
  (70, tq_ald 0 71),
  (71, tq_gf 4 2 74),
  (74, tq_ild 1 75),
  (75, tq_ild 2 76),
  (76, tq_ild 3 77),
  (77, tq_cv 0 4 S_X0_replaceBy 80),
  (80, tq_ald 0 81),
  (81, tq_gf 4 2 84),
  (84, tq_gf 0 3 87),
  (87, tq_iret Φ)]
set_option maxRecDepth 100000 in
theorem tk_X4_promise {p : Program} {l : Launch} {e : Env} {s s0 : State} {a0 : Array Value} {m : MethodId} {args : Array Value} {below : List Frame} {meth : Method} {c : Code} {D : va_G} {ad : Nat → Nat → Nat} {cA : Nat → ClassId} {A : Nat → Prop} {lv : Nat} {Φ : Post} {Ψ : PostX} (X : Cx p l s0 a0 s m args meth c cX4_promise 4 RX4 D ad cA A) (hr : meth.sig.returnType = (some .int)) (htab : ∀ x ∈ c.exceptionTable.toList, False) (g_six : 6 ≤ lv) {S_X2_has : SpecT} {v_X2_has : Nat} (h_X2_has : Con l yX2_has cX2_has 3 (some .boolean) 3 v_X2_has S_X2_has) (g_X2_has : v_X2_has + 1 ≤ lv) {S_X0_howManyOf : SpecT} {v_X0_howManyOf : Nat} (h_X0_howManyOf : Con l yX0_howManyOf cX0_howManyOf 4 (some .int) 2 v_X0_howManyOf S_X0_howManyOf) (g_X0_howManyOf : v_X0_howManyOf + 1 ≤ lv) {S_X0_replaceBy : SpecT} {v_X0_replaceBy : Nat} (h_X0_replaceBy : Con l yX0_replaceBy cX0_replaceBy 4 none 4 v_X0_replaceBy S_X0_replaceBy) (g_X0_replaceBy : v_X0_replaceBy + 1 ≤ lv) : tabOK (K p l e (rmX lv) s m args below meth c D ad cA A 4 0 0 (vx_MQ below (QcW Φ D ad cA A) (XcW Ψ D ad cA A) args s 1 6 A)) (tb_X4_promise Φ Ψ S_X2_has S_X0_howManyOf S_X0_replaceBy) :=
  ⟨sq_aload_n X rfl dX4_promise_0,
  sq_gf X (ci := 4) rfl inX4 gdX4 (by decide) fl_X4_10 dX4_promise_1,
  sq_iload_n X rfl dX4_promise_4,
  sq_bipush X (by decide) dX4_promise_5,
  sq_cv X h_X2_has ⟨_, _, rfl⟩ cw_X4_54 ⟨rfl, by decide, by decide, by decide +kernel⟩ (by decide +kernel) (lev_okX g_X2_has (by decide)) ⟨Nat.zero_le _, Nat.zero_le _⟩ dX4_promise_7,
  sq_if_eq X (by decide) dX4_promise_10,
  sq_aload_n X rfl dX4_promise_13,
  sq_gf X (ci := 4) rfl inX4 gdX4 (by decide) fl_X4_10 dX4_promise_14,
  sq_iload_n X rfl dX4_promise_17,
  sq_bipush X (by decide) dX4_promise_18,
  sq_cv X h_X2_has ⟨_, _, rfl⟩ cw_X4_54 ⟨rfl, by decide, by decide, by decide +kernel⟩ (by decide +kernel) (lev_okX g_X2_has (by decide)) ⟨Nat.zero_le _, Nat.zero_le _⟩ dX4_promise_20,
  sq_if_eq X (by decide) dX4_promise_23,
  sq_aload_n X rfl dX4_promise_26,
  sq_gf X (ci := 4) rfl inX4 gdX4 (by decide) fl_X4_10 dX4_promise_27,
  sq_iload_n X rfl dX4_promise_30,
  sq_bipush X (by decide) dX4_promise_31,
  sq_cv X h_X2_has ⟨_, _, rfl⟩ cw_X4_54 ⟨rfl, by decide, by decide, by decide +kernel⟩ (by decide +kernel) (lev_okX g_X2_has (by decide)) ⟨Nat.zero_le _, Nat.zero_le _⟩ dX4_promise_33,
  sq_if_ne X (by decide) dX4_promise_36,
  sx_thr X htab (by decide +kernel) (by decide +kernel) th_X4_36_38.1 th_X4_36_38.2 th_X4_36_38a th_X4_36_38g th_X4_36_38o ⟨by show 5 < lv; omega, by show 81 ≤ 60 * lv; omega⟩ ⟨Nat.le_refl _, Nat.le_refl _⟩ dX4_promise_39 dX4_promise_42 dX4_promise_43 dX4_promise_46,
  sq_iconst X (by decide) dX4_promise_47,
  sq_aload_n X rfl dX4_promise_48,
  sq_gf X (ci := 4) rfl inX4 gdX4 (by decide) fl_X4_28 dX4_promise_49,
  sq_iload_n X rfl dX4_promise_52,
  sq_cv X h_X0_howManyOf ⟨_, _, rfl⟩ cw_X4_73 ⟨rfl, by decide, by decide, by decide +kernel⟩ (by decide +kernel) (lev_okX g_X0_howManyOf (by decide)) ⟨Nat.zero_le _, Nat.zero_le _⟩ dX4_promise_53,
  sq_iadd X dX4_promise_56,
  sq_bipush X (by decide) dX4_promise_57,
  sq_ic_le X (by decide) dX4_promise_59,
  sx_thr X htab (by decide +kernel) (by decide +kernel) th_X4_47_49.1 th_X4_47_49.2 th_X4_47_49a th_X4_47_49g th_X4_47_49o ⟨by show 5 < lv; omega, by show 81 ≤ 60 * lv; omega⟩ ⟨Nat.le_refl _, Nat.le_refl _⟩ dX4_promise_62 dX4_promise_65 dX4_promise_66 dX4_promise_69,
  sq_aload_n X rfl dX4_promise_70,
  sq_gf X (ci := 4) rfl inX4 gdX4 (by decide) fl_X4_28 dX4_promise_71,
  sq_iload_n X rfl dX4_promise_74,
  sq_iload_n X rfl dX4_promise_75,
  sq_iload_n X rfl dX4_promise_76,
  sq_cv X h_X0_replaceBy ⟨_, _, rfl⟩ cw_X4_77 ⟨rfl, by decide, by decide, by decide +kernel⟩ (by decide +kernel) (lev_okX g_X0_replaceBy (by decide)) ⟨Nat.zero_le _, Nat.zero_le _⟩ dX4_promise_77,
  sq_aload_n X rfl dX4_promise_80,
  sq_gf X (ci := 4) rfl inX4 gdX4 (by decide) fl_X4_28 dX4_promise_81,
  sq_gf X (ci := 0) rfl inX0 gdX0 (by decide) fl_X4_81 dX4_promise_84,
  sx_iret X hr dX4_promise_87, trivial⟩
def tb_X4_kept (Φ : Post) (Ψ : PostX) (S_X4_isStore S_X0_has S_X0_isKeptIn : SpecT) : List (Nat × Tr) := [
  (0, tq_ild 2 1),
  (1, tq_cs 1 S_X4_isStore 4),
  (4, tq_if_ne 15 7),
  (7, tq_thr Ψ "java/lang/IllegalArgumentException"),
  (15, tq_ald 0 16),
  (16, tq_gf 4 2 19),
  (19, tq_ild 1 20),
  (20, tq_cv 0 2 S_X0_has 23),
  (23, tq_if_ne 34 26),
  (26, tq_thr Ψ "java/lang/IllegalStateException"),
  (34, tq_ald 0 35),
  (35, tq_gf 4 2 38),
  (38, tq_ild 1 39),
  (39, tq_ild 2 40),
  (40, tq_cv 0 3 S_X0_isKeptIn 43),
  (43, tq_zret Φ)]
set_option maxRecDepth 100000 in
theorem tk_X4_kept {p : Program} {l : Launch} {e : Env} {s s0 : State} {a0 : Array Value} {m : MethodId} {args : Array Value} {below : List Frame} {meth : Method} {c : Code} {D : va_G} {ad : Nat → Nat → Nat} {cA : Nat → ClassId} {A : Nat → Prop} {lv : Nat} {Φ : Post} {Ψ : PostX} (X : Cx p l s0 a0 s m args meth c cX4_kept 3 RX4 D ad cA A) (hr : meth.sig.returnType = (some .boolean)) (htab : ∀ x ∈ c.exceptionTable.toList, False) (g_six : 6 ≤ lv) {S_X4_isStore : SpecT} {v_X4_isStore : Nat} (h_X4_isStore : Con l yX4_isStore cX4_isStore 1 (some .boolean) 1 v_X4_isStore S_X4_isStore) (g_X4_isStore : v_X4_isStore + 1 ≤ lv) {S_X0_has : SpecT} {v_X0_has : Nat} (h_X0_has : Con l yX0_has cX0_has 2 (some .boolean) 2 v_X0_has S_X0_has) (g_X0_has : v_X0_has + 1 ≤ lv) {S_X0_isKeptIn : SpecT} {v_X0_isKeptIn : Nat} (h_X0_isKeptIn : Con l yX0_isKeptIn cX0_isKeptIn 4 (some .boolean) 3 v_X0_isKeptIn S_X0_isKeptIn) (g_X0_isKeptIn : v_X0_isKeptIn + 1 ≤ lv) : tabOK (K p l e (rmX lv) s m args below meth c D ad cA A 3 0 0 (vx_MQ below (QcW Φ D ad cA A) (XcW Ψ D ad cA A) args s 1 6 A)) (tb_X4_kept Φ Ψ S_X4_isStore S_X0_has S_X0_isKeptIn) :=
  ⟨sq_iload_n X rfl dX4_kept_0,
  sq_cs X h_X4_isStore cw_X4_58 ⟨by decide, by decide, by decide +kernel⟩ (by decide +kernel) (lev_okX g_X4_isStore (by decide)) ⟨Nat.zero_le _, Nat.zero_le _⟩ dX4_kept_1,
  sq_if_ne X (by decide) dX4_kept_4,
  sx_thr X htab (by decide +kernel) (by decide +kernel) th_X4_36_38.1 th_X4_36_38.2 th_X4_36_38a th_X4_36_38g th_X4_36_38o ⟨by show 5 < lv; omega, by show 81 ≤ 60 * lv; omega⟩ ⟨Nat.le_refl _, Nat.le_refl _⟩ dX4_kept_7 dX4_kept_10 dX4_kept_11 dX4_kept_14,
  sq_aload_n X rfl dX4_kept_15,
  sq_gf X (ci := 4) rfl inX4 gdX4 (by decide) fl_X4_28 dX4_kept_16,
  sq_iload_n X rfl dX4_kept_19,
  sq_cv X h_X0_has ⟨_, _, rfl⟩ cw_X4_82 ⟨rfl, by decide, by decide, by decide +kernel⟩ (by decide +kernel) (lev_okX g_X0_has (by decide)) ⟨Nat.zero_le _, Nat.zero_le _⟩ dX4_kept_20,
  sq_if_ne X (by decide) dX4_kept_23,
  sx_thr X htab (by decide +kernel) (by decide +kernel) th_X4_47_49.1 th_X4_47_49.2 th_X4_47_49a th_X4_47_49g th_X4_47_49o ⟨by show 5 < lv; omega, by show 81 ≤ 60 * lv; omega⟩ ⟨Nat.le_refl _, Nat.le_refl _⟩ dX4_kept_26 dX4_kept_29 dX4_kept_30 dX4_kept_33,
  sq_aload_n X rfl dX4_kept_34,
  sq_gf X (ci := 4) rfl inX4 gdX4 (by decide) fl_X4_28 dX4_kept_35,
  sq_iload_n X rfl dX4_kept_38,
  sq_iload_n X rfl dX4_kept_39,
  sq_cv X h_X0_isKeptIn ⟨_, _, rfl⟩ cw_X4_84 ⟨rfl, by decide, by decide, by decide +kernel⟩ (by decide +kernel) (lev_okX g_X0_isKeptIn (by decide)) ⟨Nat.zero_le _, Nat.zero_le _⟩ dX4_kept_40,
  sx_zret X hr dX4_kept_43, trivial⟩
def tb_X4_decide (Φ : Post) (Ψ : PostX) (S_X0_has S_X0_leastBroken : SpecT) : List (Nat × Tr) := [
  (0, tq_ald 0 1),
  (1, tq_gf 4 2 4),
  (4, tq_ild 1 5),
  (5, tq_cv 0 2 S_X0_has 8),
  (8, tq_if_ne 19 11),
  (11, tq_thr Ψ "java/lang/IllegalStateException"),
  (19, tq_ald 0 20),
  (20, tq_gf 4 2 23),
  (23, tq_ild 1 24),
  (24, tq_cv 0 2 S_X0_leastBroken 27),
  (27, tq_iret Φ)]
set_option maxRecDepth 100000 in
theorem tk_X4_decide {p : Program} {l : Launch} {e : Env} {s s0 : State} {a0 : Array Value} {m : MethodId} {args : Array Value} {below : List Frame} {meth : Method} {c : Code} {D : va_G} {ad : Nat → Nat → Nat} {cA : Nat → ClassId} {A : Nat → Prop} {lv : Nat} {Φ : Post} {Ψ : PostX} (X : Cx p l s0 a0 s m args meth c cX4_decide 2 RX4 D ad cA A) (hr : meth.sig.returnType = (some .int)) (htab : ∀ x ∈ c.exceptionTable.toList, False) (g_six : 6 ≤ lv) {S_X0_has : SpecT} {v_X0_has : Nat} (h_X0_has : Con l yX0_has cX0_has 2 (some .boolean) 2 v_X0_has S_X0_has) (g_X0_has : v_X0_has + 1 ≤ lv) {S_X0_leastBroken : SpecT} {v_X0_leastBroken : Nat} (h_X0_leastBroken : Con l yX0_leastBroken cX0_leastBroken 3 (some .int) 2 v_X0_leastBroken S_X0_leastBroken) (g_X0_leastBroken : v_X0_leastBroken + 1 ≤ lv) : tabOK (K p l e (rmX lv) s m args below meth c D ad cA A 2 0 0 (vx_MQ below (QcW Φ D ad cA A) (XcW Ψ D ad cA A) args s 1 6 A)) (tb_X4_decide Φ Ψ S_X0_has S_X0_leastBroken) :=
  ⟨sq_aload_n X rfl dX4_decide_0,
  sq_gf X (ci := 4) rfl inX4 gdX4 (by decide) fl_X4_28 dX4_decide_1,
  sq_iload_n X rfl dX4_decide_4,
  sq_cv X h_X0_has ⟨_, _, rfl⟩ cw_X4_82 ⟨rfl, by decide, by decide, by decide +kernel⟩ (by decide +kernel) (lev_okX g_X0_has (by decide)) ⟨Nat.zero_le _, Nat.zero_le _⟩ dX4_decide_5,
  sq_if_ne X (by decide) dX4_decide_8,
  sx_thr X htab (by decide +kernel) (by decide +kernel) th_X4_47_49.1 th_X4_47_49.2 th_X4_47_49a th_X4_47_49g th_X4_47_49o ⟨by show 5 < lv; omega, by show 81 ≤ 60 * lv; omega⟩ ⟨Nat.le_refl _, Nat.le_refl _⟩ dX4_decide_11 dX4_decide_14 dX4_decide_15 dX4_decide_18,
  sq_aload_n X rfl dX4_decide_19,
  sq_gf X (ci := 4) rfl inX4 gdX4 (by decide) fl_X4_28 dX4_decide_20,
  sq_iload_n X rfl dX4_decide_23,
  sq_cv X h_X0_leastBroken ⟨_, _, rfl⟩ cw_X4_87 ⟨rfl, by decide, by decide, by decide +kernel⟩ (by decide +kernel) (lev_okX g_X0_leastBroken (by decide)) ⟨Nat.zero_le _, Nat.zero_le _⟩ dX4_decide_24,
  sx_iret X hr dX4_decide_27, trivial⟩
def tb_X4_broken (Φ : Post) (Ψ : PostX) (S_X0_has S_X0_howManyBroken : SpecT) : List (Nat × Tr) := [
  (0, tq_ild 2 1),
  (1, tq_if_lt 16 4),
  (4, tq_ild 2 5),
  (5, tq_ild 3 6),
  (6, tq_ic_gt 16 9),
  (9, tq_ild 3 10),
  (10, tq_push 4095 13),
  (13, tq_ic_le 24 16),
  (16, tq_thr Ψ "java/lang/IllegalArgumentException"),
  (24, tq_ald 0 25),
  (25, tq_gf 4 2 28),
  (28, tq_ild 1 29),
  (29, tq_cv 0 2 S_X0_has 32),
  (32, tq_if_ne 43 35),
  (35, tq_thr Ψ "java/lang/IllegalStateException"),
  (43, tq_ald 0 44),
  (44, tq_gf 4 2 47),
  (47, tq_ild 1 48),
  (48, tq_ild 2 49),
  (49, tq_ild 3 50),
  (50, tq_cv 0 4 S_X0_howManyBroken 53),
  (53, tq_iret Φ)]
set_option maxRecDepth 100000 in
theorem tk_X4_broken {p : Program} {l : Launch} {e : Env} {s s0 : State} {a0 : Array Value} {m : MethodId} {args : Array Value} {below : List Frame} {meth : Method} {c : Code} {D : va_G} {ad : Nat → Nat → Nat} {cA : Nat → ClassId} {A : Nat → Prop} {lv : Nat} {Φ : Post} {Ψ : PostX} (X : Cx p l s0 a0 s m args meth c cX4_broken 4 RX4 D ad cA A) (hr : meth.sig.returnType = (some .int)) (htab : ∀ x ∈ c.exceptionTable.toList, False) (g_six : 6 ≤ lv) {S_X0_has : SpecT} {v_X0_has : Nat} (h_X0_has : Con l yX0_has cX0_has 2 (some .boolean) 2 v_X0_has S_X0_has) (g_X0_has : v_X0_has + 1 ≤ lv) {S_X0_howManyBroken : SpecT} {v_X0_howManyBroken : Nat} (h_X0_howManyBroken : Con l yX0_howManyBroken cX0_howManyBroken 6 (some .int) 4 v_X0_howManyBroken S_X0_howManyBroken) (g_X0_howManyBroken : v_X0_howManyBroken + 1 ≤ lv) : tabOK (K p l e (rmX lv) s m args below meth c D ad cA A 4 0 0 (vx_MQ below (QcW Φ D ad cA A) (XcW Ψ D ad cA A) args s 1 6 A)) (tb_X4_broken Φ Ψ S_X0_has S_X0_howManyBroken) :=
  ⟨sq_iload_n X rfl dX4_broken_0,
  sq_if_lt X (by decide) dX4_broken_1,
  sq_iload_n X rfl dX4_broken_4,
  sq_iload_n X rfl dX4_broken_5,
  sq_ic_gt X (by decide) dX4_broken_6,
  sq_iload_n X rfl dX4_broken_9,
  sq_sipush X (by decide) dX4_broken_10,
  sq_ic_le X (by decide) dX4_broken_13,
  sx_thr X htab (by decide +kernel) (by decide +kernel) th_X4_36_38.1 th_X4_36_38.2 th_X4_36_38a th_X4_36_38g th_X4_36_38o ⟨by show 5 < lv; omega, by show 81 ≤ 60 * lv; omega⟩ ⟨Nat.le_refl _, Nat.le_refl _⟩ dX4_broken_16 dX4_broken_19 dX4_broken_20 dX4_broken_23,
  sq_aload_n X rfl dX4_broken_24,
  sq_gf X (ci := 4) rfl inX4 gdX4 (by decide) fl_X4_28 dX4_broken_25,
  sq_iload_n X rfl dX4_broken_28,
  sq_cv X h_X0_has ⟨_, _, rfl⟩ cw_X4_82 ⟨rfl, by decide, by decide, by decide +kernel⟩ (by decide +kernel) (lev_okX g_X0_has (by decide)) ⟨Nat.zero_le _, Nat.zero_le _⟩ dX4_broken_29,
  sq_if_ne X (by decide) dX4_broken_32,
  sx_thr X htab (by decide +kernel) (by decide +kernel) th_X4_47_49.1 th_X4_47_49.2 th_X4_47_49a th_X4_47_49g th_X4_47_49o ⟨by show 5 < lv; omega, by show 81 ≤ 60 * lv; omega⟩ ⟨Nat.le_refl _, Nat.le_refl _⟩ dX4_broken_35 dX4_broken_38 dX4_broken_39 dX4_broken_42,
  sq_aload_n X rfl dX4_broken_43,
  sq_gf X (ci := 4) rfl inX4 gdX4 (by decide) fl_X4_28 dX4_broken_44,
  sq_iload_n X rfl dX4_broken_47,
  sq_iload_n X rfl dX4_broken_48,
  sq_iload_n X rfl dX4_broken_49,
  sq_cv X h_X0_howManyBroken ⟨_, _, rfl⟩ cw_X4_90 ⟨rfl, by decide, by decide, by decide +kernel⟩ (by decide +kernel) (lev_okX g_X0_howManyBroken (by decide)) ⟨Nat.zero_le _, Nat.zero_le _⟩ dX4_broken_50,
  sx_iret X hr dX4_broken_53, trivial⟩
def tb_X4_part (Φ : Post) (Ψ : PostX) (S_X0_howManyBrokenPairs : SpecT) : List (Nat × Tr) := [
  (0, tq_ald 0 1),
  (1, tq_gf 4 2 4),
  (4, tq_gf 0 3 7),
  (7, tq_if_ne 18 10),
  (10, tq_thr Ψ "java/lang/IllegalStateException"),
  (18, tq_ald 0 19),
  (19, tq_gf 4 2 22),
  (22, tq_gf 0 3 25),
  (25, tq_push 4096 28),
  (28, tq_imul 29),
  (29, tq_ist 1 30),
  (30, tq_ild 1 31),
  (31, tq_ald 0 32),
  (32, tq_gf 4 2 35),
  (35, tq_cv 0 1 S_X0_howManyBrokenPairs 38),
  (38, tq_isub 39),
  (39, tq_i2d 40),
  (40, tq_ild 1 41),
  (41, tq_i2d 42),
  (42, tq_ddiv 43),
  (43, tq_dret Φ)]
set_option maxRecDepth 100000 in
theorem tk_X4_part {p : Program} {l : Launch} {e : Env} {s s0 : State} {a0 : Array Value} {m : MethodId} {args : Array Value} {below : List Frame} {meth : Method} {c : Code} {D : va_G} {ad : Nat → Nat → Nat} {cA : Nat → ClassId} {A : Nat → Prop} {lv : Nat} {Φ : Post} {Ψ : PostX} (X : Cx p l s0 a0 s m args meth c cX4_part 2 RX4 D ad cA A) (hr : meth.sig.returnType = (some .double)) (htab : ∀ x ∈ c.exceptionTable.toList, False) (g_six : 6 ≤ lv) {S_X0_howManyBrokenPairs : SpecT} {v_X0_howManyBrokenPairs : Nat} (h_X0_howManyBrokenPairs : Con l yX0_howManyBrokenPairs cX0_howManyBrokenPairs 3 (some .int) 1 v_X0_howManyBrokenPairs S_X0_howManyBrokenPairs) (g_X0_howManyBrokenPairs : v_X0_howManyBrokenPairs + 1 ≤ lv) : tabOK (K p l e (rmX lv) s m args below meth c D ad cA A 2 0 0 (vx_MQ below (QcW Φ D ad cA A) (XcW Ψ D ad cA A) args s 1 6 A)) (tb_X4_part Φ Ψ S_X0_howManyBrokenPairs) :=
  ⟨sq_aload_n X rfl dX4_part_0,
  sq_gf X (ci := 4) rfl inX4 gdX4 (by decide) fl_X4_28 dX4_part_1,
  sq_gf X (ci := 0) rfl inX0 gdX0 (by decide) fl_X4_81 dX4_part_4,
  sq_if_ne X (by decide) dX4_part_7,
  sx_thr X htab (by decide +kernel) (by decide +kernel) th_X4_47_49.1 th_X4_47_49.2 th_X4_47_49a th_X4_47_49g th_X4_47_49o ⟨by show 5 < lv; omega, by show 81 ≤ 60 * lv; omega⟩ ⟨Nat.le_refl _, Nat.le_refl _⟩ dX4_part_10 dX4_part_13 dX4_part_14 dX4_part_17,
  sq_aload_n X rfl dX4_part_18,
  sq_gf X (ci := 4) rfl inX4 gdX4 (by decide) fl_X4_28 dX4_part_19,
  sq_gf X (ci := 0) rfl inX0 gdX0 (by decide) fl_X4_81 dX4_part_22,
  sq_sipush X (by decide) dX4_part_25,
  sq_imul X dX4_part_28,
  sq_istore_n X rfl (by decide) dX4_part_29,
  sq_iload_n X rfl dX4_part_30,
  sq_aload_n X rfl dX4_part_31,
  sq_gf X (ci := 4) rfl inX4 gdX4 (by decide) fl_X4_28 dX4_part_32,
  sq_cv X h_X0_howManyBrokenPairs ⟨_, _, rfl⟩ cw_X4_93 ⟨rfl, by decide, by decide, by decide +kernel⟩ (by decide +kernel) (lev_okX g_X0_howManyBrokenPairs (by decide)) ⟨Nat.zero_le _, Nat.zero_le _⟩ dX4_part_35,
  sq_isub X dX4_part_38,
  sq_i2d X dX4_part_39,
  sq_iload_n X rfl dX4_part_40,
  sq_i2d X dX4_part_41,
  sq_ddiv X dX4_part_42,
  sx_dret X hr dX4_part_43, trivial⟩
def tb_X4_count (Φ : Post) (Ψ : PostX) (S_X0_howManyValid : SpecT) : List (Nat × Tr) := [
  (0, tq_ild 1 1),
  (1, tq_sw 52 [(0, 28), (1, 36), (2, 44)]),
  (28, tq_ald 0 29),
  (29, tq_gf 4 0 32),
  (32, tq_gf 2 5 35),
  (35, tq_iret Φ),
  (36, tq_ald 0 37),
  (37, tq_gf 4 2 40),
  (40, tq_gf 0 3 43),
  (43, tq_iret Φ),
  (44, tq_ald 0 45),
  (45, tq_gf 4 2 48),
  (48, tq_cv 0 1 S_X0_howManyValid 51),
  (51, tq_iret Φ),
  (52, tq_thr Ψ "java/lang/IllegalArgumentException")]
set_option maxRecDepth 100000 in
theorem tk_X4_count {p : Program} {l : Launch} {e : Env} {s s0 : State} {a0 : Array Value} {m : MethodId} {args : Array Value} {below : List Frame} {meth : Method} {c : Code} {D : va_G} {ad : Nat → Nat → Nat} {cA : Nat → ClassId} {A : Nat → Prop} {lv : Nat} {Φ : Post} {Ψ : PostX} (X : Cx p l s0 a0 s m args meth c cX4_count 2 RX4 D ad cA A) (hr : meth.sig.returnType = (some .int)) (htab : ∀ x ∈ c.exceptionTable.toList, False) (g_six : 6 ≤ lv) {S_X0_howManyValid : SpecT} {v_X0_howManyValid : Nat} (h_X0_howManyValid : Con l yX0_howManyValid cX0_howManyValid 3 (some .int) 1 v_X0_howManyValid S_X0_howManyValid) (g_X0_howManyValid : v_X0_howManyValid + 1 ≤ lv) : tabOK (K p l e (rmX lv) s m args below meth c D ad cA A 2 0 0 (vx_MQ below (QcW Φ D ad cA A) (XcW Ψ D ad cA A) args s 1 6 A)) (tb_X4_count Φ Ψ S_X0_howManyValid) :=
  ⟨sq_iload_n X rfl dX4_count_0,
  sq_sw X (by decide) rfl (by decide) (by decide) dX4_count_1,
  sq_aload_n X rfl dX4_count_28,
  sq_gf X (ci := 4) rfl inX4 gdX4 (by decide) fl_X4_10 dX4_count_29,
  sq_gf X (ci := 2) rfl inX2 gdX2 (by decide) fl_X4_43 dX4_count_32,
  sx_iret X hr dX4_count_35,
  sq_aload_n X rfl dX4_count_36,
  sq_gf X (ci := 4) rfl inX4 gdX4 (by decide) fl_X4_28 dX4_count_37,
  sq_gf X (ci := 0) rfl inX0 gdX0 (by decide) fl_X4_81 dX4_count_40,
  sx_iret X hr dX4_count_43,
  sq_aload_n X rfl dX4_count_44,
  sq_gf X (ci := 4) rfl inX4 gdX4 (by decide) fl_X4_28 dX4_count_45,
  sq_cv X h_X0_howManyValid ⟨_, _, rfl⟩ cw_X4_97 ⟨rfl, by decide, by decide, by decide +kernel⟩ (by decide +kernel) (lev_okX g_X0_howManyValid (by decide)) ⟨Nat.zero_le _, Nat.zero_le _⟩ dX4_count_48,
  sx_iret X hr dX4_count_51,
  sx_thr X htab (by decide +kernel) (by decide +kernel) th_X4_36_38.1 th_X4_36_38.2 th_X4_36_38a th_X4_36_38g th_X4_36_38o ⟨by show 5 < lv; omega, by show 81 ≤ 60 * lv; omega⟩ ⟨Nat.le_refl _, Nat.le_refl _⟩ dX4_count_52 dX4_count_55 dX4_count_56 dX4_count_59, trivial⟩
