set_option maxRecDepth 100000 in
theorem lk_13 : Cond.classLink RL 13 "java/lang/IllegalArgumentException" ∈ lw_tbl := List.mem_of_getElem? (i := 167) rfl
set_option maxRecDepth 100000 in
theorem lk_15 : Cond.classLink RL 15 "java/lang/IllegalStateException" ∈ lw_tbl := List.mem_of_getElem? (i := 168) rfl
set_option maxRecDepth 100000 in
theorem ca_IA : Cond.castable "java/lang/IllegalArgumentException" "java/lang/IllegalArgumentException" ∈ lw_tbl := List.mem_of_getElem? (i := 196) rfl
set_option maxRecDepth 100000 in
theorem ca_IS : Cond.castable "java/lang/IllegalStateException" "java/lang/IllegalStateException" ∈ lw_tbl := List.mem_of_getElem? (i := 269) rfl
def S_wmake : SpecT := fun av σ Φ => match av with
  | [Sum.inr (Sum.inr (Sum.inr q)), Sum.inl kd, Sum.inl a, Sum.inl b, Sum.inl c, Sum.inr (Sum.inr (Sum.inr w))] => w = (34, 0) ∧ thisM q 0 (CI σ ∧ (¬ fitK (tC σ) (nC σ) kd a b c → Φ (some (aI 1)) σ) ∧ (fitK (tC σ) (nC σ) kd a b c → (nC σ = 60 ∨ ¬ hgt (tC σ) kd a b c ≤ 6 → Φ (some (aI 2)) σ) ∧ (nC σ < 60 → hgt (tC σ) kd a b c ≤ 6 → Φ (some (aI 0)) (wrl (addC σ kd a b c (hgt (tC σ) kd a b c)) 34 0 (Int32.toInt64 ((rd σ 1 0 5)))))))
  | _ => False
set_option maxRecDepth 100000 in
theorem cw_L_7 : ∀ w ∈ wsV RL 7 RX4 yX4_make [.code yX4_make cX4_make 6 (some .int)], w ∈ lw_tbl := memC5 (List.mem_of_getElem? (i := 169) rfl) (List.mem_of_getElem? (i := 170) rfl) (List.mem_of_getElem? (i := 171) rfl) (List.mem_of_getElem? (i := 30) rfl) (List.mem_of_getElem? (i := 172) rfl)
def tb1_L_make (S : SpecX) (W2 : Kt) (WX : PostX) : List (Nat × Tr) := [(0, tq_ald 5 2), (2, tq_push 0 3), (3, tq_ald 0 4), (4, tq_ild 1 5), (5, tq_ild 2 6), (6, tq_ild 3 7), (7, tq_ild 4 9), (9, tq_cx 4 5 S 12 W2 WX)]
def tb2_L_make (Φ : Post) : List (Nat × Tr) := [(12, tq_i2l 13), (13, tq_last 14), (14, tq_goto 25), (25, tq_push 0 26), (26, tq_iret Φ)]
set_option maxRecDepth 100000 in
theorem c_wmake (l : Launch) : ConH l yL_make cL_make 7 (some .int) [(0, 14, 17, 13), (0, 14, 21, 15)] 6 7 S_wmake := by
  refine ConH.of (by decide) (by decide) ?_
  intro pX eX sX s0 a0 mX args below meth cX D ad cA A av σ Φ hnc hlen hS hr htab X
  match av, hS with
  | [Sum.inr (Sum.inr (Sum.inr q)), Sum.inl kd, Sum.inl a, Sum.inl b, Sum.inl c, Sum.inr (Sum.inr (Sum.inr w))], hS =>
    obtain ⟨rfl, hS⟩ := hS
    obtain ⟨rfl, hS⟩ := thisM_out hS
    have hx : ∀ (lv : LV) (st : List AV) (E : String) (σ' : Mem) (ls : Array Slot) (H1 : Heap) (locs1 : List Loc) (q : Addr) (ce : Cell), lv_has ls 7 (lvl ad 0 lv) → (fun E σ' => (E = "java/lang/IllegalArgumentException" ∧ Φ (some (aI 1)) σ') ∨ (E = "java/lang/IllegalStateException" ∧ Φ (some (aI 2)) σ')) E σ' → va_P D vwCl (wld ad cA σ') H1 → va_D A (wld ad cA σ') → va_S A sX.heap H1 locs1 → H1[q]? = some ce → ce.vm = .none → sX.vm.findClass E = some ce.cls → vx_W pX l eX (rmX 7) sX mX args below meth cX H1 locs1 (0 + 1) (0 + 6) (vx_MQ below (QcW Φ D ad cA A) (fun _ _ _ => False) args sX 1 6 A) (F0 mX 9 ls (st.map (conc ad))) q := by
      rintro lv st E σ' ls H1 locs1 q ce hl (⟨rfl, hF⟩ | ⟨rfl, hF⟩) hP1 hD1 hS1 hce hcv hcl
      · exact vx_catch X.2.2.2.1 [] ⟨0, 14, 17, 13⟩ [⟨0, 14, 21, 15⟩] htab (fun z hz => nomatch hz) rfl (by decide) (X.w lk_13 rfl) (X.wx ca_IA (Or.inr (Or.inl ⟨_, _, rfl⟩))) hce hcv hcl (sx_hn X hr dL_make_17 (by decide) dL_make_19 dL_make_20 (by decide) hl hF hP1 hD1 hS1)
      · refine vx_catch X.2.2.2.1 [⟨0, 14, 17, 13⟩] ⟨0, 14, 21, 15⟩ [] htab (fun z hz => ?_) rfl (by decide) (X.w lk_15 rfl) (X.wx ca_IS (Or.inr (Or.inl ⟨_, _, rfl⟩))) hce hcv hcl (sx_hn X hr dL_make_21 (by decide) dL_make_23 dL_make_24 (by decide) hl hF hP1 hD1 hS1)
        rw [List.mem_singleton.mp hz]
        exact Or.inr ⟨by decide, _, (X.w lk_13 rfl), X.nc hnc⟩
    have t2 : tabOK (K pX l eX (rmX 7) sX mX args below meth cX D ad cA A 7 (0 + 1) (0 + 6) (vx_MQ below (QcW Φ D ad cA A) (fun _ _ _ => False) args sX 1 6 A)) (tb2_L_make Φ) := ⟨sq_i2l X dL_make_12, sq_last X dL_make_13, sq_goto X (by decide) dL_make_14, sq_iconst X (by decide) dL_make_25, sh_iret X hr dL_make_26, trivial⟩
    have t1 : tabOK (K pX l eX (rmX 7) sX mX args below meth cX D ad cA A 7 0 0 (vx_MQ below (QcW Φ D ad cA A) (fun _ _ _ => False) args sX 1 6 A)) (tb1_L_make S_makeC (wp (tb2_L_make Φ) [] (fun _ _ _ _ => False) 100) (fun E σ' => (E = "java/lang/IllegalArgumentException" ∧ Φ (some (aI 1)) σ') ∨ (E = "java/lang/IllegalStateException" ∧ Φ (some (aI 2)) σ'))) := ⟨sq_aload X dL_make_0, sq_iconst X (by decide) dL_make_2, sq_aload_n X rfl dL_make_3, sq_iload_n X rfl dL_make_4, sq_iload_n X rfl dL_make_5, sq_iload_n X rfl dL_make_6, sq_iload X dL_make_7, sx_cx X (c_makeC l) ⟨_, _, rfl⟩ cw_L_7 ⟨rfl, by decide, by decide, by decide +kernel⟩ (by decide +kernel) (lev_okX (by decide) (by decide)) ⟨by decide, by decide⟩ (wp_sound t2 (fun _ _ _ _ h => h.elim) 100) hx dL_make_9, trivial⟩
    refine wp_sound (ps := []) (C := fun _ _ _ _ => False) t1 (fun _ _ _ _ h => h.elim) 100 _ _ _ _ ?_
    have v01 : vp_in 0 1 := vp_in_nI (N := 1) Nat.one_pos (by decide)
    obtain ⟨hC, h1, h2⟩ := hS
    exact ⟨hC, fun z => Or.inl ⟨rfl, h1 z⟩, fun z => ⟨fun y => Or.inr ⟨rfl, (h2 z).1 y⟩, fun y w => ⟨v01, (h2 z).2 y w⟩⟩⟩
def S_wvalue : SpecT := fun av σ Φ => match av with
  | [Sum.inr (Sum.inr (Sum.inr q)), Sum.inl x, Sum.inl s, Sum.inr (Sum.inr (Sum.inr w))] => w = (34, 0) ∧ thisM q 0 (CI σ ∧ (¬ (isN (tC σ) (nC σ) 0 4 x ∧ rng s) → Φ (some (aI 1)) σ) ∧ (isN (tC σ) (nC σ) 0 4 x ∧ rng s → Φ (some (aI 0)) (wrl σ 34 0 (Int32.toInt64 ((EV (tC σ) s (ix x)))))))
  | _ => False
set_option maxRecDepth 100000 in
theorem cw_L_17 : ∀ w ∈ wsV RL 17 RX4 yX4_value [.code yX4_value cX4_value 3 (some .int)], w ∈ lw_tbl := memC5 (List.mem_of_getElem? (i := 289) rfl) (List.mem_of_getElem? (i := 290) rfl) (List.mem_of_getElem? (i := 291) rfl) (List.mem_of_getElem? (i := 30) rfl) (List.mem_of_getElem? (i := 292) rfl)
def tb1_L_value (S : SpecX) (W2 : Kt) (WX : PostX) : List (Nat × Tr) := [(0, tq_ald 3 1), (1, tq_push 0 2), (2, tq_ald 0 3), (3, tq_ild 1 4), (4, tq_ild 2 5), (5, tq_cx 4 3 S 8 W2 WX)]
def tb2_L_value (Φ : Post) : List (Nat × Tr) := [(8, tq_i2l 9), (9, tq_last 10), (10, tq_goto 17), (17, tq_push 0 18), (18, tq_iret Φ)]
set_option maxRecDepth 100000 in
theorem c_wvalue (l : Launch) : ConH l yL_value cL_value 5 (some .int) [(0, 10, 13, 13)] 4 9 S_wvalue := by
  refine ConH.of (by decide) (by decide) ?_
  intro pX eX sX s0 a0 mX args below meth cX D ad cA A av σ Φ hnc hlen hS hr htab X
  match av, hS with
  | [Sum.inr (Sum.inr (Sum.inr q)), Sum.inl x, Sum.inl s, Sum.inr (Sum.inr (Sum.inr w))], hS =>
    obtain ⟨rfl, hS⟩ := hS
    obtain ⟨rfl, hS⟩ := thisM_out hS
    have hx : ∀ (lv : LV) (st : List AV) (E : String) (σ' : Mem) (ls : Array Slot) (H1 : Heap) (locs1 : List Loc) (q : Addr) (ce : Cell), lv_has ls 5 (lvl ad 0 lv) → (fun E σ' => E = "java/lang/IllegalArgumentException" ∧ Φ (some (aI 1)) σ') E σ' → va_P D vwCl (wld ad cA σ') H1 → va_D A (wld ad cA σ') → va_S A sX.heap H1 locs1 → H1[q]? = some ce → ce.vm = .none → sX.vm.findClass E = some ce.cls → vx_W pX l eX (rmX 9) sX mX args below meth cX H1 locs1 (0 + 1) (0 + 6) (vx_MQ below (QcW Φ D ad cA A) (fun _ _ _ => False) args sX 1 6 A) (F0 mX 5 ls (st.map (conc ad))) q := by
      rintro lv st E σ' ls H1 locs1 q ce hl ⟨rfl, hF⟩ hP1 hD1 hS1 hce hcv hcl
      exact vx_catch X.2.2.2.1 [] ⟨0, 10, 13, 13⟩ [] htab (fun z hz => nomatch hz) rfl (by decide) (X.w lk_13 rfl) (X.wx ca_IA (Or.inr (Or.inl ⟨_, _, rfl⟩))) hce hcv hcl (sx_hn X hr dL_value_13 (by decide) dL_value_15 dL_value_16 (by decide) hl hF hP1 hD1 hS1)
    have t2 : tabOK (K pX l eX (rmX 9) sX mX args below meth cX D ad cA A 5 (0 + 1) (0 + 6) (vx_MQ below (QcW Φ D ad cA A) (fun _ _ _ => False) args sX 1 6 A)) (tb2_L_value Φ) := ⟨sq_i2l X dL_value_8, sq_last X dL_value_9, sq_goto X (by decide) dL_value_10, sq_iconst X (by decide) dL_value_17, sh_iret X hr dL_value_18, trivial⟩
    have t1 : tabOK (K pX l eX (rmX 9) sX mX args below meth cX D ad cA A 5 0 0 (vx_MQ below (QcW Φ D ad cA A) (fun _ _ _ => False) args sX 1 6 A)) (tb1_L_value S_valueC (wp (tb2_L_value Φ) [] (fun _ _ _ _ => False) 100) (fun E σ' => E = "java/lang/IllegalArgumentException" ∧ Φ (some (aI 1)) σ')) := ⟨sq_aload_n X rfl dL_value_0, sq_iconst X (by decide) dL_value_1, sq_aload_n X rfl dL_value_2, sq_iload_n X rfl dL_value_3, sq_iload_n X rfl dL_value_4, sx_cx X (c_valueC l) ⟨_, _, rfl⟩ cw_L_17 ⟨rfl, by decide, by decide, by decide +kernel⟩ (by decide +kernel) (lev_okX (by decide) (by decide)) ⟨by decide, by decide⟩ (wp_sound t2 (fun _ _ _ _ h => h.elim) 100) hx dL_value_5, trivial⟩
    refine wp_sound (ps := []) (C := fun _ _ _ _ => False) t1 (fun _ _ _ _ h => h.elim) 100 _ _ _ _ ?_
    have v01 : vp_in 0 1 := vp_in_nI (N := 1) Nat.one_pos (by decide)
    obtain ⟨hC, h1, h2⟩ := hS
    exact ⟨hC, fun z => ⟨rfl, h1 z⟩, fun z => ⟨v01, h2 z⟩⟩
def S_wholds : SpecT := fun av σ Φ => match av with
  | [Sum.inr (Sum.inr (Sum.inr q)), Sum.inl x, Sum.inl s, Sum.inr (Sum.inr (Sum.inr w))] => w = (34, 0) ∧ thisM q 0 (CI σ ∧ (¬ (isN (tC σ) (nC σ) 5 10 x ∧ rng s) → Φ (some (aI 1)) σ) ∧ (isN (tC σ) (nC σ) 5 10 x ∧ rng s → Φ (some (aI 0)) (wrl σ 34 0 (if (EV (tC σ) s (ix x)) = 0 then 0 else 1))))
  | _ => False
set_option maxRecDepth 100000 in
theorem cw_L_21 : ∀ w ∈ wsV RL 21 RX4 yX4_holds [.code yX4_holds cX4_holds 3 (some .boolean)], w ∈ lw_tbl := memC5 (List.mem_of_getElem? (i := 305) rfl) (List.mem_of_getElem? (i := 306) rfl) (List.mem_of_getElem? (i := 307) rfl) (List.mem_of_getElem? (i := 30) rfl) (List.mem_of_getElem? (i := 308) rfl)
def tb1_L_holds (S : SpecX) (W2 : Kt) (WX : PostX) : List (Nat × Tr) := [(0, tq_ald 3 1), (1, tq_push 0 2), (2, tq_ald 0 3), (3, tq_ild 1 4), (4, tq_ild 2 5), (5, tq_cx 4 3 S 8 W2 WX)]
def tb2_L_holds (Φ : Post) : List (Nat × Tr) := [(8, tq_if_eq 15 11), (11, tq_pushL 1 12), (12, tq_goto 16), (15, tq_pushL 0 16), (16, tq_last 17), (17, tq_goto 24), (24, tq_push 0 25), (25, tq_iret Φ)]
set_option maxRecDepth 100000 in
theorem c_wholds (l : Launch) : ConH l yL_holds cL_holds 5 (some .int) [(0, 17, 20, 13)] 4 19 S_wholds := by
  refine ConH.of (by decide) (by decide) ?_
  intro pX eX sX s0 a0 mX args below meth cX D ad cA A av σ Φ hnc hlen hS hr htab X
  match av, hS with
  | [Sum.inr (Sum.inr (Sum.inr q)), Sum.inl x, Sum.inl s, Sum.inr (Sum.inr (Sum.inr w))], hS =>
    obtain ⟨rfl, hS⟩ := hS
    obtain ⟨rfl, hS⟩ := thisM_out hS
    have hx : ∀ (lv : LV) (st : List AV) (E : String) (σ' : Mem) (ls : Array Slot) (H1 : Heap) (locs1 : List Loc) (q : Addr) (ce : Cell), lv_has ls 5 (lvl ad 0 lv) → (fun E σ' => E = "java/lang/IllegalArgumentException" ∧ Φ (some (aI 1)) σ') E σ' → va_P D vwCl (wld ad cA σ') H1 → va_D A (wld ad cA σ') → va_S A sX.heap H1 locs1 → H1[q]? = some ce → ce.vm = .none → sX.vm.findClass E = some ce.cls → vx_W pX l eX (rmX 19) sX mX args below meth cX H1 locs1 (0 + 1) (0 + 6) (vx_MQ below (QcW Φ D ad cA A) (fun _ _ _ => False) args sX 1 6 A) (F0 mX 5 ls (st.map (conc ad))) q := by
      rintro lv st E σ' ls H1 locs1 q ce hl ⟨rfl, hF⟩ hP1 hD1 hS1 hce hcv hcl
      exact vx_catch X.2.2.2.1 [] ⟨0, 17, 20, 13⟩ [] htab (fun z hz => nomatch hz) rfl (by decide) (X.w lk_13 rfl) (X.wx ca_IA (Or.inr (Or.inl ⟨_, _, rfl⟩))) hce hcv hcl (sx_hn X hr dL_holds_20 (by decide) dL_holds_22 dL_holds_23 (by decide) hl hF hP1 hD1 hS1)
    have t2 : tabOK (K pX l eX (rmX 19) sX mX args below meth cX D ad cA A 5 (0 + 1) (0 + 6) (vx_MQ below (QcW Φ D ad cA A) (fun _ _ _ => False) args sX 1 6 A)) (tb2_L_holds Φ) := ⟨sq_if_eq X (by decide) dL_holds_8, sq_lconst X (by decide) dL_holds_11, sq_goto X (by decide) dL_holds_12, sq_lconst X (by decide) dL_holds_15, sq_last X dL_holds_16, sq_goto X (by decide) dL_holds_17, sq_iconst X (by decide) dL_holds_24, sh_iret X hr dL_holds_25, trivial⟩
    have t1 : tabOK (K pX l eX (rmX 19) sX mX args below meth cX D ad cA A 5 0 0 (vx_MQ below (QcW Φ D ad cA A) (fun _ _ _ => False) args sX 1 6 A)) (tb1_L_holds S_holdsC (wp (tb2_L_holds Φ) [] (fun _ _ _ _ => False) 100) (fun E σ' => E = "java/lang/IllegalArgumentException" ∧ Φ (some (aI 1)) σ')) := ⟨sq_aload_n X rfl dL_holds_0, sq_iconst X (by decide) dL_holds_1, sq_aload_n X rfl dL_holds_2, sq_iload_n X rfl dL_holds_3, sq_iload_n X rfl dL_holds_4, sx_cx X (c_holdsC l) ⟨_, _, rfl⟩ cw_L_21 ⟨rfl, by decide, by decide, by decide +kernel⟩ (by decide +kernel) (lev_okX (by decide) (by decide)) ⟨by decide, by decide⟩ (wp_sound t2 (fun _ _ _ _ h => h.elim) 100) hx dL_holds_5, trivial⟩
    refine wp_sound (ps := []) (C := fun _ _ _ _ => False) t1 (fun _ _ _ _ h => h.elim) 100 _ _ _ _ ?_
    have v01 : vp_in 0 1 := vp_in_nI (N := 1) Nat.one_pos (by decide)
    have bz : ∀ (v : Int32) (σ' : Mem) (h9 : Φ (some (aI 0)) (wrl σ' 34 0 (if v = 0 then 0 else 1))), wp (tb2_L_holds Φ) [] (fun _ _ _ _ => False) 100 8 (lv0 5 [aR 0 0, aI x, aI s, aR 34 0]) ([aI v, aI 0, aR 34 0]) σ' := fun v σ' h9 => ⟨fun (h : v = 0) => ⟨v01, by rw [if_pos h] at h9; exact h9⟩, fun (h : ¬ v = 0) => ⟨v01, by rw [if_neg h] at h9; exact h9⟩⟩
    obtain ⟨hC, h1, h2⟩ := hS
    exact ⟨hC, fun z => ⟨rfl, h1 z⟩, fun z => bz _ _ (h2 z)⟩
def S_wrun : SpecT := fun av σ Φ => match av with
  | [Sum.inr (Sum.inr (Sum.inr q)), Sum.inl x, Sum.inl s, Sum.inl f, Sum.inr (Sum.inr (Sum.inr w))] => w = (34, 0) ∧ thisM q 0 (CI σ ∧ (¬ (isN (tC σ) (nC σ) 11 15 x ∧ rng s ∧ 1 ≤ f ∧ f ≤ 500) → Φ (some (aI 1)) σ) ∧ ((isN (tC σ) (nC σ) 11 15 x ∧ rng s ∧ 1 ≤ f ∧ f ≤ 500) → ∀ fn res σ', f = nI fn → fn ≤ 500 → eqx [7] σ σ' → RR (tC σ) x s fn res → (res = none → Φ (some (aI 2)) σ') ∧ (∀ r, res = some r → Φ (some (aI 0)) (wrl σ' 34 0 (Int32.toInt64 (r))))))
  | _ => False
set_option maxRecDepth 100000 in
theorem cw_L_25 : ∀ w ∈ wsV RL 25 RX4 yX4_run [.code yX4_run cX4_run 5 (some .int)], w ∈ lw_tbl := memC5 (List.mem_of_getElem? (i := 317) rfl) (List.mem_of_getElem? (i := 318) rfl) (List.mem_of_getElem? (i := 319) rfl) (List.mem_of_getElem? (i := 30) rfl) (List.mem_of_getElem? (i := 320) rfl)
def tb1_L_run (S : SpecX) (W2 : Kt) (WX : PostX) : List (Nat × Tr) := [(0, tq_ald 4 2), (2, tq_push 0 3), (3, tq_ald 0 4), (4, tq_ild 1 5), (5, tq_ild 2 6), (6, tq_ild 3 7), (7, tq_cx 4 4 S 10 W2 WX)]
def tb2_L_run (Φ : Post) : List (Nat × Tr) := [(10, tq_i2l 11), (11, tq_last 12), (12, tq_goto 23), (23, tq_push 0 24), (24, tq_iret Φ)]
set_option maxRecDepth 100000 in
theorem c_wrun (l : Launch) : ConH l yL_run cL_run 6 (some .int) [(0, 12, 15, 13), (0, 12, 19, 15)] 5 35 S_wrun := by
  refine ConH.of (by decide) (by decide) ?_
  intro pX eX sX s0 a0 mX args below meth cX D ad cA A av σ Φ hnc hlen hS hr htab X
  match av, hS with
  | [Sum.inr (Sum.inr (Sum.inr q)), Sum.inl x, Sum.inl s, Sum.inl f, Sum.inr (Sum.inr (Sum.inr w))], hS =>
    obtain ⟨rfl, hS⟩ := hS
    obtain ⟨rfl, hS⟩ := thisM_out hS
    have hx : ∀ (lv : LV) (st : List AV) (E : String) (σ' : Mem) (ls : Array Slot) (H1 : Heap) (locs1 : List Loc) (q : Addr) (ce : Cell), lv_has ls 6 (lvl ad 0 lv) → (fun E σ' => (E = "java/lang/IllegalArgumentException" ∧ Φ (some (aI 1)) σ') ∨ (E = "java/lang/IllegalStateException" ∧ Φ (some (aI 2)) σ')) E σ' → va_P D vwCl (wld ad cA σ') H1 → va_D A (wld ad cA σ') → va_S A sX.heap H1 locs1 → H1[q]? = some ce → ce.vm = .none → sX.vm.findClass E = some ce.cls → vx_W pX l eX (rmX 35) sX mX args below meth cX H1 locs1 (0 + 1) (0 + 6) (vx_MQ below (QcW Φ D ad cA A) (fun _ _ _ => False) args sX 1 6 A) (F0 mX 7 ls (st.map (conc ad))) q := by
      rintro lv st E σ' ls H1 locs1 q ce hl (⟨rfl, hF⟩ | ⟨rfl, hF⟩) hP1 hD1 hS1 hce hcv hcl
      · exact vx_catch X.2.2.2.1 [] ⟨0, 12, 15, 13⟩ [⟨0, 12, 19, 15⟩] htab (fun z hz => nomatch hz) rfl (by decide) (X.w lk_13 rfl) (X.wx ca_IA (Or.inr (Or.inl ⟨_, _, rfl⟩))) hce hcv hcl (sx_hn X hr dL_run_15 (by decide) dL_run_17 dL_run_18 (by decide) hl hF hP1 hD1 hS1)
      · refine vx_catch X.2.2.2.1 [⟨0, 12, 15, 13⟩] ⟨0, 12, 19, 15⟩ [] htab (fun z hz => ?_) rfl (by decide) (X.w lk_15 rfl) (X.wx ca_IS (Or.inr (Or.inl ⟨_, _, rfl⟩))) hce hcv hcl (sx_hn X hr dL_run_19 (by decide) dL_run_21 dL_run_22 (by decide) hl hF hP1 hD1 hS1)
        rw [List.mem_singleton.mp hz]
        exact Or.inr ⟨by decide, _, (X.w lk_13 rfl), X.nc hnc⟩
    have t2 : tabOK (K pX l eX (rmX 35) sX mX args below meth cX D ad cA A 6 (0 + 1) (0 + 6) (vx_MQ below (QcW Φ D ad cA A) (fun _ _ _ => False) args sX 1 6 A)) (tb2_L_run Φ) := ⟨sq_i2l X dL_run_10, sq_last X dL_run_11, sq_goto X (by decide) dL_run_12, sq_iconst X (by decide) dL_run_23, sh_iret X hr dL_run_24, trivial⟩
    have t1 : tabOK (K pX l eX (rmX 35) sX mX args below meth cX D ad cA A 6 0 0 (vx_MQ below (QcW Φ D ad cA A) (fun _ _ _ => False) args sX 1 6 A)) (tb1_L_run S_runC (wp (tb2_L_run Φ) [] (fun _ _ _ _ => False) 100) (fun E σ' => (E = "java/lang/IllegalArgumentException" ∧ Φ (some (aI 1)) σ') ∨ (E = "java/lang/IllegalStateException" ∧ Φ (some (aI 2)) σ'))) := ⟨sq_aload X dL_run_0, sq_iconst X (by decide) dL_run_2, sq_aload_n X rfl dL_run_3, sq_iload_n X rfl dL_run_4, sq_iload_n X rfl dL_run_5, sq_iload_n X rfl dL_run_6, sx_cx X (c_runC l) ⟨_, _, rfl⟩ cw_L_25 ⟨rfl, by decide, by decide, by decide +kernel⟩ (by decide +kernel) (lev_okX (by decide) (by decide)) ⟨by decide, by decide⟩ (wp_sound t2 (fun _ _ _ _ h => h.elim) 100) hx dL_run_7, trivial⟩
    refine wp_sound (ps := []) (C := fun _ _ _ _ => False) t1 (fun _ _ _ _ h => h.elim) 100 _ _ _ _ ?_
    have v01 : vp_in 0 1 := vp_in_nI (N := 1) Nat.one_pos (by decide)
    obtain ⟨hC, h1, h2⟩ := hS
    exact ⟨hC, fun z => Or.inl ⟨rfl, h1 z⟩, fun z fn res σ' e1 e2 e3 e4 => ⟨fun y => Or.inr ⟨rfl, (h2 z fn res σ' e1 e2 e3 e4).1 y⟩, fun r y => ⟨v01, (h2 z fn res σ' e1 e2 e3 e4).2 r y⟩⟩⟩
def S_wpromise : SpecT := fun av σ Φ => match av with
  | [Sum.inr (Sum.inr (Sum.inr q)), Sum.inl p0, Sum.inl x, Sum.inl q0, Sum.inr (Sum.inr (Sum.inr w))] => w = (34, 0) ∧ thisM q 0 (CI σ ∧ (¬ (isN (tC σ) (nC σ) 5 10 p0 ∧ isN (tC σ) (nC σ) 11 15 x ∧ isN (tC σ) (nC σ) 5 10 q0) → Φ (some (aI 1)) σ) ∧ ((isN (tC σ) (nC σ) 5 10 p0 ∧ isN (tC σ) (nC σ) 11 15 x ∧ isN (tC σ) (nC σ) 5 10 q0) → (16 < (allD (tC σ) p0 x q0).length → Φ (some (aI 2)) σ) ∧ ((allD (tC σ) p0 x q0).length ≤ 16 → ∀ σ', eqG 0 0 σ σ' → DSt σ' (allD (tC σ) p0 x q0) → Φ (some (aI 0)) (wrl σ' 34 0 (Int32.toInt64 ((nI (allD (tC σ) p0 x q0).length)))))))
  | _ => False
set_option maxRecDepth 100000 in
theorem cw_L_29 : ∀ w ∈ wsV RL 29 RX4 yX4_promise [.code yX4_promise cX4_promise 4 (some .int)], w ∈ lw_tbl := memC5 (List.mem_of_getElem? (i := 341) rfl) (List.mem_of_getElem? (i := 342) rfl) (List.mem_of_getElem? (i := 343) rfl) (List.mem_of_getElem? (i := 30) rfl) (List.mem_of_getElem? (i := 344) rfl)
def tb1_L_promise (S : SpecX) (W2 : Kt) (WX : PostX) : List (Nat × Tr) := [(0, tq_ald 4 2), (2, tq_push 0 3), (3, tq_ald 0 4), (4, tq_ild 1 5), (5, tq_ild 2 6), (6, tq_ild 3 7), (7, tq_cx 4 4 S 10 W2 WX)]
def tb2_L_promise (Φ : Post) : List (Nat × Tr) := [(10, tq_i2l 11), (11, tq_last 12), (12, tq_goto 23), (23, tq_push 0 24), (24, tq_iret Φ)]
set_option maxRecDepth 100000 in
theorem c_wpromise (l : Launch) : ConH l yL_promise cL_promise 6 (some .int) [(0, 12, 15, 13), (0, 12, 19, 15)] 5 19 S_wpromise := by
  refine ConH.of (by decide) (by decide) ?_
  intro pX eX sX s0 a0 mX args below meth cX D ad cA A av σ Φ hnc hlen hS hr htab X
  match av, hS with
  | [Sum.inr (Sum.inr (Sum.inr q)), Sum.inl p0, Sum.inl x, Sum.inl q0, Sum.inr (Sum.inr (Sum.inr w))], hS =>
    obtain ⟨rfl, hS⟩ := hS
    obtain ⟨rfl, hS⟩ := thisM_out hS
    have hx : ∀ (lv : LV) (st : List AV) (E : String) (σ' : Mem) (ls : Array Slot) (H1 : Heap) (locs1 : List Loc) (q : Addr) (ce : Cell), lv_has ls 6 (lvl ad 0 lv) → (fun E σ' => (E = "java/lang/IllegalArgumentException" ∧ Φ (some (aI 1)) σ') ∨ (E = "java/lang/IllegalStateException" ∧ Φ (some (aI 2)) σ')) E σ' → va_P D vwCl (wld ad cA σ') H1 → va_D A (wld ad cA σ') → va_S A sX.heap H1 locs1 → H1[q]? = some ce → ce.vm = .none → sX.vm.findClass E = some ce.cls → vx_W pX l eX (rmX 19) sX mX args below meth cX H1 locs1 (0 + 1) (0 + 6) (vx_MQ below (QcW Φ D ad cA A) (fun _ _ _ => False) args sX 1 6 A) (F0 mX 7 ls (st.map (conc ad))) q := by
      rintro lv st E σ' ls H1 locs1 q ce hl (⟨rfl, hF⟩ | ⟨rfl, hF⟩) hP1 hD1 hS1 hce hcv hcl
      · exact vx_catch X.2.2.2.1 [] ⟨0, 12, 15, 13⟩ [⟨0, 12, 19, 15⟩] htab (fun z hz => nomatch hz) rfl (by decide) (X.w lk_13 rfl) (X.wx ca_IA (Or.inr (Or.inl ⟨_, _, rfl⟩))) hce hcv hcl (sx_hn X hr dL_promise_15 (by decide) dL_promise_17 dL_promise_18 (by decide) hl hF hP1 hD1 hS1)
      · refine vx_catch X.2.2.2.1 [⟨0, 12, 15, 13⟩] ⟨0, 12, 19, 15⟩ [] htab (fun z hz => ?_) rfl (by decide) (X.w lk_15 rfl) (X.wx ca_IS (Or.inr (Or.inl ⟨_, _, rfl⟩))) hce hcv hcl (sx_hn X hr dL_promise_19 (by decide) dL_promise_21 dL_promise_22 (by decide) hl hF hP1 hD1 hS1)
        rw [List.mem_singleton.mp hz]
        exact Or.inr ⟨by decide, _, (X.w lk_13 rfl), X.nc hnc⟩
    have t2 : tabOK (K pX l eX (rmX 19) sX mX args below meth cX D ad cA A 6 (0 + 1) (0 + 6) (vx_MQ below (QcW Φ D ad cA A) (fun _ _ _ => False) args sX 1 6 A)) (tb2_L_promise Φ) := ⟨sq_i2l X dL_promise_10, sq_last X dL_promise_11, sq_goto X (by decide) dL_promise_12, sq_iconst X (by decide) dL_promise_23, sh_iret X hr dL_promise_24, trivial⟩
    have t1 : tabOK (K pX l eX (rmX 19) sX mX args below meth cX D ad cA A 6 0 0 (vx_MQ below (QcW Φ D ad cA A) (fun _ _ _ => False) args sX 1 6 A)) (tb1_L_promise S_promiseC (wp (tb2_L_promise Φ) [] (fun _ _ _ _ => False) 100) (fun E σ' => (E = "java/lang/IllegalArgumentException" ∧ Φ (some (aI 1)) σ') ∨ (E = "java/lang/IllegalStateException" ∧ Φ (some (aI 2)) σ'))) := ⟨sq_aload X dL_promise_0, sq_iconst X (by decide) dL_promise_2, sq_aload_n X rfl dL_promise_3, sq_iload_n X rfl dL_promise_4, sq_iload_n X rfl dL_promise_5, sq_iload_n X rfl dL_promise_6, sx_cx X (c_promiseC l) ⟨_, _, rfl⟩ cw_L_29 ⟨rfl, by decide, by decide, by decide +kernel⟩ (by decide +kernel) (lev_okX (by decide) (by decide)) ⟨by decide, by decide⟩ (wp_sound t2 (fun _ _ _ _ h => h.elim) 100) hx dL_promise_7, trivial⟩
    refine wp_sound (ps := []) (C := fun _ _ _ _ => False) t1 (fun _ _ _ _ h => h.elim) 100 _ _ _ _ ?_
    have v01 : vp_in 0 1 := vp_in_nI (N := 1) Nat.one_pos (by decide)
    obtain ⟨hC, h1, h2⟩ := hS
    exact ⟨hC, fun z => Or.inl ⟨rfl, h1 z⟩, fun z => ⟨fun y => Or.inr ⟨rfl, (h2 z).1 y⟩, fun y σ' e1 e2 => ⟨v01, (h2 z).2 y σ' e1 e2⟩⟩⟩
def S_wkept : SpecT := fun av σ Φ => match av with
  | [Sum.inr (Sum.inr (Sum.inr q)), Sum.inl i0, Sum.inl s, Sum.inr (Sum.inr (Sum.inr w))] => w = (34, 0) ∧ thisM q 0 (∃ Ds, DSt σ Ds ∧ (¬ rng s → Φ (some (aI 1)) σ) ∧ (rng s → ¬ vp_in i0 Ds.length → Φ (some (aI 2)) σ) ∧ (rng s → vp_in i0 Ds.length → ∀ D, Ds[ix i0]? = some D → Φ (some (aI 0)) (wrl σ 34 0 (if (kpV (tC σ) D s) = 0 then 0 else 1))))
  | _ => False
set_option maxRecDepth 100000 in
theorem cw_L_32 : ∀ w ∈ wsV RL 32 RX4 yX4_kept [.code yX4_kept cX4_kept 3 (some .boolean)], w ∈ lw_tbl := memC5 (List.mem_of_getElem? (i := 368) rfl) (List.mem_of_getElem? (i := 369) rfl) (List.mem_of_getElem? (i := 370) rfl) (List.mem_of_getElem? (i := 30) rfl) (List.mem_of_getElem? (i := 371) rfl)
def tb1_L_kept (S : SpecX) (W2 : Kt) (WX : PostX) : List (Nat × Tr) := [(0, tq_ald 3 1), (1, tq_push 0 2), (2, tq_ald 0 3), (3, tq_ild 1 4), (4, tq_ild 2 5), (5, tq_cx 4 3 S 8 W2 WX)]
def tb2_L_kept (Φ : Post) : List (Nat × Tr) := [(8, tq_if_eq 15 11), (11, tq_pushL 1 12), (12, tq_goto 16), (15, tq_pushL 0 16), (16, tq_last 17), (17, tq_goto 28), (28, tq_push 0 29), (29, tq_iret Φ)]
set_option maxRecDepth 100000 in
theorem c_wkept (l : Launch) : ConH l yL_kept cL_kept 5 (some .int) [(0, 17, 20, 13), (0, 17, 24, 15)] 4 30 S_wkept := by
  refine ConH.of (by decide) (by decide) ?_
  intro pX eX sX s0 a0 mX args below meth cX D ad cA A av σ Φ hnc hlen hS hr htab X
  match av, hS with
  | [Sum.inr (Sum.inr (Sum.inr q)), Sum.inl i0, Sum.inl s, Sum.inr (Sum.inr (Sum.inr w))], hS =>
    obtain ⟨rfl, hS⟩ := hS
    obtain ⟨rfl, hS⟩ := thisM_out hS
    have hx : ∀ (lv : LV) (st : List AV) (E : String) (σ' : Mem) (ls : Array Slot) (H1 : Heap) (locs1 : List Loc) (q : Addr) (ce : Cell), lv_has ls 5 (lvl ad 0 lv) → (fun E σ' => (E = "java/lang/IllegalArgumentException" ∧ Φ (some (aI 1)) σ') ∨ (E = "java/lang/IllegalStateException" ∧ Φ (some (aI 2)) σ')) E σ' → va_P D vwCl (wld ad cA σ') H1 → va_D A (wld ad cA σ') → va_S A sX.heap H1 locs1 → H1[q]? = some ce → ce.vm = .none → sX.vm.findClass E = some ce.cls → vx_W pX l eX (rmX 30) sX mX args below meth cX H1 locs1 (0 + 1) (0 + 6) (vx_MQ below (QcW Φ D ad cA A) (fun _ _ _ => False) args sX 1 6 A) (F0 mX 5 ls (st.map (conc ad))) q := by
      rintro lv st E σ' ls H1 locs1 q ce hl (⟨rfl, hF⟩ | ⟨rfl, hF⟩) hP1 hD1 hS1 hce hcv hcl
      · exact vx_catch X.2.2.2.1 [] ⟨0, 17, 20, 13⟩ [⟨0, 17, 24, 15⟩] htab (fun z hz => nomatch hz) rfl (by decide) (X.w lk_13 rfl) (X.wx ca_IA (Or.inr (Or.inl ⟨_, _, rfl⟩))) hce hcv hcl (sx_hn X hr dL_kept_20 (by decide) dL_kept_22 dL_kept_23 (by decide) hl hF hP1 hD1 hS1)
      · refine vx_catch X.2.2.2.1 [⟨0, 17, 20, 13⟩] ⟨0, 17, 24, 15⟩ [] htab (fun z hz => ?_) rfl (by decide) (X.w lk_15 rfl) (X.wx ca_IS (Or.inr (Or.inl ⟨_, _, rfl⟩))) hce hcv hcl (sx_hn X hr dL_kept_24 (by decide) dL_kept_26 dL_kept_27 (by decide) hl hF hP1 hD1 hS1)
        rw [List.mem_singleton.mp hz]
        exact Or.inr ⟨by decide, _, (X.w lk_13 rfl), X.nc hnc⟩
    have t2 : tabOK (K pX l eX (rmX 30) sX mX args below meth cX D ad cA A 5 (0 + 1) (0 + 6) (vx_MQ below (QcW Φ D ad cA A) (fun _ _ _ => False) args sX 1 6 A)) (tb2_L_kept Φ) := ⟨sq_if_eq X (by decide) dL_kept_8, sq_lconst X (by decide) dL_kept_11, sq_goto X (by decide) dL_kept_12, sq_lconst X (by decide) dL_kept_15, sq_last X dL_kept_16, sq_goto X (by decide) dL_kept_17, sq_iconst X (by decide) dL_kept_28, sh_iret X hr dL_kept_29, trivial⟩
    have t1 : tabOK (K pX l eX (rmX 30) sX mX args below meth cX D ad cA A 5 0 0 (vx_MQ below (QcW Φ D ad cA A) (fun _ _ _ => False) args sX 1 6 A)) (tb1_L_kept S_keptC (wp (tb2_L_kept Φ) [] (fun _ _ _ _ => False) 100) (fun E σ' => (E = "java/lang/IllegalArgumentException" ∧ Φ (some (aI 1)) σ') ∨ (E = "java/lang/IllegalStateException" ∧ Φ (some (aI 2)) σ'))) := ⟨sq_aload_n X rfl dL_kept_0, sq_iconst X (by decide) dL_kept_1, sq_aload_n X rfl dL_kept_2, sq_iload_n X rfl dL_kept_3, sq_iload_n X rfl dL_kept_4, sx_cx X (c_keptC l) ⟨_, _, rfl⟩ cw_L_32 ⟨rfl, by decide, by decide, by decide +kernel⟩ (by decide +kernel) (lev_okX (by decide) (by decide)) ⟨by decide, by decide⟩ (wp_sound t2 (fun _ _ _ _ h => h.elim) 100) hx dL_kept_5, trivial⟩
    refine wp_sound (ps := []) (C := fun _ _ _ _ => False) t1 (fun _ _ _ _ h => h.elim) 100 _ _ _ _ ?_
    have v01 : vp_in 0 1 := vp_in_nI (N := 1) Nat.one_pos (by decide)
    have bz : ∀ (v : Int32) (σ' : Mem) (h9 : Φ (some (aI 0)) (wrl σ' 34 0 (if v = 0 then 0 else 1))), wp (tb2_L_kept Φ) [] (fun _ _ _ _ => False) 100 8 (lv0 5 [aR 0 0, aI i0, aI s, aR 34 0]) ([aI v, aI 0, aR 34 0]) σ' := fun v σ' h9 => ⟨fun (h : v = 0) => ⟨v01, by rw [if_pos h] at h9; exact h9⟩, fun (h : ¬ v = 0) => ⟨v01, by rw [if_neg h] at h9; exact h9⟩⟩
    obtain ⟨Ds, hC, h1, h2, h3⟩ := hS
    exact ⟨Ds, hC, fun z => Or.inl ⟨rfl, h1 z⟩, fun z y => Or.inr ⟨rfl, h2 z y⟩, fun z y D w => bz _ _ (h3 z y D w)⟩
def S_wdecide : SpecT := fun av σ Φ => match av with
  | [Sum.inr (Sum.inr (Sum.inr q)), Sum.inl i0, Sum.inr (Sum.inr (Sum.inr w))] => w = (34, 0) ∧ thisM q 0 (∃ Ds, DSt σ Ds ∧ (¬ vp_in i0 Ds.length → Φ (some (aI 1)) σ) ∧ (vp_in i0 Ds.length → ∀ D, Ds[ix i0]? = some D → Φ (some (aI 0)) (wrl σ 34 0 (Int32.toInt64 ((lbF (tC σ) D 0 4096))))))
  | _ => False
set_option maxRecDepth 100000 in
theorem cw_L_35 : ∀ w ∈ wsV RL 35 RX4 yX4_decide [.code yX4_decide cX4_decide 2 (some .int)], w ∈ lw_tbl := memC5 (List.mem_of_getElem? (i := 394) rfl) (List.mem_of_getElem? (i := 395) rfl) (List.mem_of_getElem? (i := 396) rfl) (List.mem_of_getElem? (i := 30) rfl) (List.mem_of_getElem? (i := 397) rfl)
def tb1_L_decide (S : SpecX) (W2 : Kt) (WX : PostX) : List (Nat × Tr) := [(0, tq_ald 2 1), (1, tq_push 0 2), (2, tq_ald 0 3), (3, tq_ild 1 4), (4, tq_cx 4 2 S 7 W2 WX)]
def tb2_L_decide (Φ : Post) : List (Nat × Tr) := [(7, tq_i2l 8), (8, tq_last 9), (9, tq_goto 15), (15, tq_push 0 16), (16, tq_iret Φ)]
set_option maxRecDepth 100000 in
theorem c_wdecide (l : Launch) : ConH l yL_decide cL_decide 4 (some .int) [(0, 9, 12, 15)] 3 31 S_wdecide := by
  refine ConH.of (by decide) (by decide) ?_
  intro pX eX sX s0 a0 mX args below meth cX D ad cA A av σ Φ hnc hlen hS hr htab X
  match av, hS with
  | [Sum.inr (Sum.inr (Sum.inr q)), Sum.inl i0, Sum.inr (Sum.inr (Sum.inr w))], hS =>
    obtain ⟨rfl, hS⟩ := hS
    obtain ⟨rfl, hS⟩ := thisM_out hS
    have hx : ∀ (lv : LV) (st : List AV) (E : String) (σ' : Mem) (ls : Array Slot) (H1 : Heap) (locs1 : List Loc) (q : Addr) (ce : Cell), lv_has ls 4 (lvl ad 0 lv) → (fun E σ' => E = "java/lang/IllegalStateException" ∧ Φ (some (aI 1)) σ') E σ' → va_P D vwCl (wld ad cA σ') H1 → va_D A (wld ad cA σ') → va_S A sX.heap H1 locs1 → H1[q]? = some ce → ce.vm = .none → sX.vm.findClass E = some ce.cls → vx_W pX l eX (rmX 31) sX mX args below meth cX H1 locs1 (0 + 1) (0 + 6) (vx_MQ below (QcW Φ D ad cA A) (fun _ _ _ => False) args sX 1 6 A) (F0 mX 4 ls (st.map (conc ad))) q := by
      rintro lv st E σ' ls H1 locs1 q ce hl ⟨rfl, hF⟩ hP1 hD1 hS1 hce hcv hcl
      exact vx_catch X.2.2.2.1 [] ⟨0, 9, 12, 15⟩ [] htab (fun z hz => nomatch hz) rfl (by decide) (X.w lk_15 rfl) (X.wx ca_IS (Or.inr (Or.inl ⟨_, _, rfl⟩))) hce hcv hcl (sx_hn1 X hr dL_decide_12 rfl (by decide) dL_decide_13 dL_decide_14 (by decide) hl hF hP1 hD1 hS1)
    have t2 : tabOK (K pX l eX (rmX 31) sX mX args below meth cX D ad cA A 4 (0 + 1) (0 + 6) (vx_MQ below (QcW Φ D ad cA A) (fun _ _ _ => False) args sX 1 6 A)) (tb2_L_decide Φ) := ⟨sq_i2l X dL_decide_7, sq_last X dL_decide_8, sq_goto X (by decide) dL_decide_9, sq_iconst X (by decide) dL_decide_15, sh_iret X hr dL_decide_16, trivial⟩
    have t1 : tabOK (K pX l eX (rmX 31) sX mX args below meth cX D ad cA A 4 0 0 (vx_MQ below (QcW Φ D ad cA A) (fun _ _ _ => False) args sX 1 6 A)) (tb1_L_decide S_decideC (wp (tb2_L_decide Φ) [] (fun _ _ _ _ => False) 100) (fun E σ' => E = "java/lang/IllegalStateException" ∧ Φ (some (aI 1)) σ')) := ⟨sq_aload_n X rfl dL_decide_0, sq_iconst X (by decide) dL_decide_1, sq_aload_n X rfl dL_decide_2, sq_iload_n X rfl dL_decide_3, sx_cx X (c_decideC l) ⟨_, _, rfl⟩ cw_L_35 ⟨rfl, by decide, by decide, by decide +kernel⟩ (by decide +kernel) (lev_okX (by decide) (by decide)) ⟨by decide, by decide⟩ (wp_sound t2 (fun _ _ _ _ h => h.elim) 100) hx dL_decide_4, trivial⟩
    refine wp_sound (ps := []) (C := fun _ _ _ _ => False) t1 (fun _ _ _ _ h => h.elim) 100 _ _ _ _ ?_
    have v01 : vp_in 0 1 := vp_in_nI (N := 1) Nat.one_pos (by decide)
    obtain ⟨Ds, hC, h1, h2⟩ := hS
    exact ⟨Ds, hC, fun z => ⟨rfl, h1 z⟩, fun z D y => ⟨v01, h2 z D y⟩⟩
def S_wbroken : SpecT := fun av σ Φ => match av with
  | [Sum.inr (Sum.inr (Sum.inr q)), Sum.inl i0, Sum.inl x0, Sum.inl y0, Sum.inr (Sum.inr (Sum.inr w))] => w = (34, 0) ∧ thisM q 0 (∃ Ds, DSt σ Ds ∧ (¬ (0 ≤ x0 ∧ x0 ≤ y0 ∧ y0 ≤ 4095) → Φ (some (aI 1)) σ) ∧ ((0 ≤ x0 ∧ x0 ≤ y0 ∧ y0 ≤ 4095) → (¬ vp_in i0 Ds.length → Φ (some (aI 2)) σ) ∧ (vp_in i0 Ds.length → ∀ D, Ds[ix i0]? = some D → ∀ a b, x0 = nI a → y0 = nI b → a ≤ b → b ≤ 4095 → Φ (some (aI 0)) (wrl σ 34 0 (Int32.toInt64 ((nI (cbN (tC σ) D a (b + 1 - a)))))))))
  | _ => False
set_option maxRecDepth 100000 in
theorem cw_L_39 : ∀ w ∈ wsV RL 39 RX4 yX4_broken [.code yX4_broken cX4_broken 4 (some .int)], w ∈ lw_tbl := memC5 (List.mem_of_getElem? (i := 406) rfl) (List.mem_of_getElem? (i := 407) rfl) (List.mem_of_getElem? (i := 408) rfl) (List.mem_of_getElem? (i := 30) rfl) (List.mem_of_getElem? (i := 409) rfl)
def tb1_L_broken (S : SpecX) (W2 : Kt) (WX : PostX) : List (Nat × Tr) := [(0, tq_ald 4 2), (2, tq_push 0 3), (3, tq_ald 0 4), (4, tq_ild 1 5), (5, tq_ild 2 6), (6, tq_ild 3 7), (7, tq_cx 4 4 S 10 W2 WX)]
def tb2_L_broken (Φ : Post) : List (Nat × Tr) := [(10, tq_i2l 11), (11, tq_last 12), (12, tq_goto 23), (23, tq_push 0 24), (24, tq_iret Φ)]
set_option maxRecDepth 100000 in
theorem c_wbroken (l : Launch) : ConH l yL_broken cL_broken 6 (some .int) [(0, 12, 15, 13), (0, 12, 19, 15)] 5 31 S_wbroken := by
  refine ConH.of (by decide) (by decide) ?_
  intro pX eX sX s0 a0 mX args below meth cX D ad cA A av σ Φ hnc hlen hS hr htab X
  match av, hS with
  | [Sum.inr (Sum.inr (Sum.inr q)), Sum.inl i0, Sum.inl x0, Sum.inl y0, Sum.inr (Sum.inr (Sum.inr w))], hS =>
    obtain ⟨rfl, hS⟩ := hS
    obtain ⟨rfl, hS⟩ := thisM_out hS
    have hx : ∀ (lv : LV) (st : List AV) (E : String) (σ' : Mem) (ls : Array Slot) (H1 : Heap) (locs1 : List Loc) (q : Addr) (ce : Cell), lv_has ls 6 (lvl ad 0 lv) → (fun E σ' => (E = "java/lang/IllegalArgumentException" ∧ Φ (some (aI 1)) σ') ∨ (E = "java/lang/IllegalStateException" ∧ Φ (some (aI 2)) σ')) E σ' → va_P D vwCl (wld ad cA σ') H1 → va_D A (wld ad cA σ') → va_S A sX.heap H1 locs1 → H1[q]? = some ce → ce.vm = .none → sX.vm.findClass E = some ce.cls → vx_W pX l eX (rmX 31) sX mX args below meth cX H1 locs1 (0 + 1) (0 + 6) (vx_MQ below (QcW Φ D ad cA A) (fun _ _ _ => False) args sX 1 6 A) (F0 mX 7 ls (st.map (conc ad))) q := by
      rintro lv st E σ' ls H1 locs1 q ce hl (⟨rfl, hF⟩ | ⟨rfl, hF⟩) hP1 hD1 hS1 hce hcv hcl
      · exact vx_catch X.2.2.2.1 [] ⟨0, 12, 15, 13⟩ [⟨0, 12, 19, 15⟩] htab (fun z hz => nomatch hz) rfl (by decide) (X.w lk_13 rfl) (X.wx ca_IA (Or.inr (Or.inl ⟨_, _, rfl⟩))) hce hcv hcl (sx_hn X hr dL_broken_15 (by decide) dL_broken_17 dL_broken_18 (by decide) hl hF hP1 hD1 hS1)
      · refine vx_catch X.2.2.2.1 [⟨0, 12, 15, 13⟩] ⟨0, 12, 19, 15⟩ [] htab (fun z hz => ?_) rfl (by decide) (X.w lk_15 rfl) (X.wx ca_IS (Or.inr (Or.inl ⟨_, _, rfl⟩))) hce hcv hcl (sx_hn X hr dL_broken_19 (by decide) dL_broken_21 dL_broken_22 (by decide) hl hF hP1 hD1 hS1)
        rw [List.mem_singleton.mp hz]
        exact Or.inr ⟨by decide, _, (X.w lk_13 rfl), X.nc hnc⟩
    have t2 : tabOK (K pX l eX (rmX 31) sX mX args below meth cX D ad cA A 6 (0 + 1) (0 + 6) (vx_MQ below (QcW Φ D ad cA A) (fun _ _ _ => False) args sX 1 6 A)) (tb2_L_broken Φ) := ⟨sq_i2l X dL_broken_10, sq_last X dL_broken_11, sq_goto X (by decide) dL_broken_12, sq_iconst X (by decide) dL_broken_23, sh_iret X hr dL_broken_24, trivial⟩
    have t1 : tabOK (K pX l eX (rmX 31) sX mX args below meth cX D ad cA A 6 0 0 (vx_MQ below (QcW Φ D ad cA A) (fun _ _ _ => False) args sX 1 6 A)) (tb1_L_broken S_brokenC (wp (tb2_L_broken Φ) [] (fun _ _ _ _ => False) 100) (fun E σ' => (E = "java/lang/IllegalArgumentException" ∧ Φ (some (aI 1)) σ') ∨ (E = "java/lang/IllegalStateException" ∧ Φ (some (aI 2)) σ'))) := ⟨sq_aload X dL_broken_0, sq_iconst X (by decide) dL_broken_2, sq_aload_n X rfl dL_broken_3, sq_iload_n X rfl dL_broken_4, sq_iload_n X rfl dL_broken_5, sq_iload_n X rfl dL_broken_6, sx_cx X (c_brokenC l) ⟨_, _, rfl⟩ cw_L_39 ⟨rfl, by decide, by decide, by decide +kernel⟩ (by decide +kernel) (lev_okX (by decide) (by decide)) ⟨by decide, by decide⟩ (wp_sound t2 (fun _ _ _ _ h => h.elim) 100) hx dL_broken_7, trivial⟩
    refine wp_sound (ps := []) (C := fun _ _ _ _ => False) t1 (fun _ _ _ _ h => h.elim) 100 _ _ _ _ ?_
    have v01 : vp_in 0 1 := vp_in_nI (N := 1) Nat.one_pos (by decide)
    obtain ⟨Ds, hC, h1, h2⟩ := hS
    exact ⟨Ds, hC, fun z => Or.inl ⟨rfl, h1 z⟩, fun z => ⟨fun y => Or.inr ⟨rfl, (h2 z).1 y⟩, fun y D u a b e1 e2 e3 e4 => ⟨v01, (h2 z).2 y D u a b e1 e2 e3 e4⟩⟩⟩
def S_wpart : SpecT := fun av σ Φ => match av with
  | [Sum.inr (Sum.inr (Sum.inr q)), Sum.inr (Sum.inr (Sum.inr w))] => w = (35, 0) ∧ thisM q 0 (∃ Ds, DSt σ Ds ∧ (Ds.length = 0 → Φ (some (aI 1)) σ) ∧ (¬ Ds.length = 0 → Φ (some (aI 0)) (wrz σ 35 0 ((FP.ddiv (FP.i2d (nI (4096 * Ds.length - sumB (tC σ) Ds))) (FP.i2d (nI (4096 * Ds.length))))))))
  | _ => False
set_option maxRecDepth 100000 in
theorem cw_L_42 : ∀ w ∈ wsV RL 42 RX4 yX4_part [.code yX4_part cX4_part 2 (some .double)], w ∈ lw_tbl := memC5 (List.mem_of_getElem? (i := 417) rfl) (List.mem_of_getElem? (i := 418) rfl) (List.mem_of_getElem? (i := 419) rfl) (List.mem_of_getElem? (i := 30) rfl) (List.mem_of_getElem? (i := 420) rfl)
def tb1_L_part (S : SpecX) (W2 : Kt) (WX : PostX) : List (Nat × Tr) := [(0, tq_ald 1 1), (1, tq_push 0 2), (2, tq_ald 0 3), (3, tq_cx 4 1 S 6 W2 WX)]
def tb2_L_part (Φ : Post) : List (Nat × Tr) := [(6, tq_dast 7), (7, tq_goto 13), (13, tq_push 0 14), (14, tq_iret Φ)]
set_option maxRecDepth 100000 in
theorem c_wpart (l : Launch) : ConH l yL_part cL_part 3 (some .int) [(0, 7, 10, 15)] 2 32 S_wpart := by
  refine ConH.of (by decide) (by decide) ?_
  intro pX eX sX s0 a0 mX args below meth cX D ad cA A av σ Φ hnc hlen hS hr htab X
  match av, hS with
  | [Sum.inr (Sum.inr (Sum.inr q)), Sum.inr (Sum.inr (Sum.inr w))], hS =>
    obtain ⟨rfl, hS⟩ := hS
    obtain ⟨rfl, hS⟩ := thisM_out hS
    have hx : ∀ (lv : LV) (st : List AV) (E : String) (σ' : Mem) (ls : Array Slot) (H1 : Heap) (locs1 : List Loc) (q : Addr) (ce : Cell), lv_has ls 3 (lvl ad 0 lv) → (fun E σ' => E = "java/lang/IllegalStateException" ∧ Φ (some (aI 1)) σ') E σ' → va_P D vwCl (wld ad cA σ') H1 → va_D A (wld ad cA σ') → va_S A sX.heap H1 locs1 → H1[q]? = some ce → ce.vm = .none → sX.vm.findClass E = some ce.cls → vx_W pX l eX (rmX 32) sX mX args below meth cX H1 locs1 (0 + 1) (0 + 6) (vx_MQ below (QcW Φ D ad cA A) (fun _ _ _ => False) args sX 1 6 A) (F0 mX 3 ls (st.map (conc ad))) q := by
      rintro lv st E σ' ls H1 locs1 q ce hl ⟨rfl, hF⟩ hP1 hD1 hS1 hce hcv hcl
      exact vx_catch X.2.2.2.1 [] ⟨0, 7, 10, 15⟩ [] htab (fun z hz => nomatch hz) rfl (by decide) (X.w lk_15 rfl) (X.wx ca_IS (Or.inr (Or.inl ⟨_, _, rfl⟩))) hce hcv hcl (sx_hn1 X hr dL_part_10 rfl (by decide) dL_part_11 dL_part_12 (by decide) hl hF hP1 hD1 hS1)
    have t2 : tabOK (K pX l eX (rmX 32) sX mX args below meth cX D ad cA A 3 (0 + 1) (0 + 6) (vx_MQ below (QcW Φ D ad cA A) (fun _ _ _ => False) args sX 1 6 A)) (tb2_L_part Φ) := ⟨sq_dast X dL_part_6, sq_goto X (by decide) dL_part_7, sq_iconst X (by decide) dL_part_13, sh_iret X hr dL_part_14, trivial⟩
    have t1 : tabOK (K pX l eX (rmX 32) sX mX args below meth cX D ad cA A 3 0 0 (vx_MQ below (QcW Φ D ad cA A) (fun _ _ _ => False) args sX 1 6 A)) (tb1_L_part S_partC (wp (tb2_L_part Φ) [] (fun _ _ _ _ => False) 100) (fun E σ' => E = "java/lang/IllegalStateException" ∧ Φ (some (aI 1)) σ')) := ⟨sq_aload_n X rfl dL_part_0, sq_iconst X (by decide) dL_part_1, sq_aload_n X rfl dL_part_2, sx_cx X (c_partC l) ⟨_, _, rfl⟩ cw_L_42 ⟨rfl, by decide, by decide, by decide +kernel⟩ (by decide +kernel) (lev_okX (by decide) (by decide)) ⟨by decide, by decide⟩ (wp_sound t2 (fun _ _ _ _ h => h.elim) 100) hx dL_part_3, trivial⟩
    refine wp_sound (ps := []) (C := fun _ _ _ _ => False) t1 (fun _ _ _ _ h => h.elim) 100 _ _ _ _ ?_
    have v01 : vp_in 0 1 := vp_in_nI (N := 1) Nat.one_pos (by decide)
    obtain ⟨Ds, hC, h1, h2⟩ := hS
    exact ⟨Ds, hC, fun z => ⟨rfl, h1 z⟩, fun z => ⟨v01, h2 z⟩⟩
def S_wcount : SpecT := fun av σ Φ => match av with
  | [Sum.inr (Sum.inr (Sum.inr q)), Sum.inl k, Sum.inr (Sum.inr (Sum.inr w))] => w = (34, 0) ∧ thisM q 0 (∃ Ds, DSt σ Ds ∧ (¬ (0 ≤ k ∧ k ≤ 2) → Φ (some (aI 1)) σ) ∧ (0 ≤ k ∧ k ≤ 2 → Φ (some (aI 0)) (wrl σ 34 0 (Int32.toInt64 ((if k = 0 then rd σ 1 0 5 else if k = 1 then nI Ds.length else nI (numV (tC σ) Ds)))))))
  | _ => False
set_option maxRecDepth 100000 in
theorem cw_L_46 : ∀ w ∈ wsV RL 46 RX4 yX4_count [.code yX4_count cX4_count 2 (some .int)], w ∈ lw_tbl := memC5 (List.mem_of_getElem? (i := 429) rfl) (List.mem_of_getElem? (i := 430) rfl) (List.mem_of_getElem? (i := 431) rfl) (List.mem_of_getElem? (i := 30) rfl) (List.mem_of_getElem? (i := 432) rfl)
def tb1_L_count (S : SpecX) (W2 : Kt) (WX : PostX) : List (Nat × Tr) := [(0, tq_ald 2 1), (1, tq_push 0 2), (2, tq_ald 0 3), (3, tq_ild 1 4), (4, tq_cx 4 2 S 7 W2 WX)]
def tb2_L_count (Φ : Post) : List (Nat × Tr) := [(7, tq_i2l 8), (8, tq_last 9), (9, tq_goto 15), (15, tq_push 0 16), (16, tq_iret Φ)]
set_option maxRecDepth 100000 in
theorem c_wcount (l : Launch) : ConH l yL_count cL_count 4 (some .int) [(0, 9, 12, 13)] 3 32 S_wcount := by
  refine ConH.of (by decide) (by decide) ?_
  intro pX eX sX s0 a0 mX args below meth cX D ad cA A av σ Φ hnc hlen hS hr htab X
  match av, hS with
  | [Sum.inr (Sum.inr (Sum.inr q)), Sum.inl k, Sum.inr (Sum.inr (Sum.inr w))], hS =>
    obtain ⟨rfl, hS⟩ := hS
    obtain ⟨rfl, hS⟩ := thisM_out hS
    have hx : ∀ (lv : LV) (st : List AV) (E : String) (σ' : Mem) (ls : Array Slot) (H1 : Heap) (locs1 : List Loc) (q : Addr) (ce : Cell), lv_has ls 4 (lvl ad 0 lv) → (fun E σ' => E = "java/lang/IllegalArgumentException" ∧ Φ (some (aI 1)) σ') E σ' → va_P D vwCl (wld ad cA σ') H1 → va_D A (wld ad cA σ') → va_S A sX.heap H1 locs1 → H1[q]? = some ce → ce.vm = .none → sX.vm.findClass E = some ce.cls → vx_W pX l eX (rmX 32) sX mX args below meth cX H1 locs1 (0 + 1) (0 + 6) (vx_MQ below (QcW Φ D ad cA A) (fun _ _ _ => False) args sX 1 6 A) (F0 mX 4 ls (st.map (conc ad))) q := by
      rintro lv st E σ' ls H1 locs1 q ce hl ⟨rfl, hF⟩ hP1 hD1 hS1 hce hcv hcl
      exact vx_catch X.2.2.2.1 [] ⟨0, 9, 12, 13⟩ [] htab (fun z hz => nomatch hz) rfl (by decide) (X.w lk_13 rfl) (X.wx ca_IA (Or.inr (Or.inl ⟨_, _, rfl⟩))) hce hcv hcl (sx_hn1 X hr dL_count_12 rfl (by decide) dL_count_13 dL_count_14 (by decide) hl hF hP1 hD1 hS1)
    have t2 : tabOK (K pX l eX (rmX 32) sX mX args below meth cX D ad cA A 4 (0 + 1) (0 + 6) (vx_MQ below (QcW Φ D ad cA A) (fun _ _ _ => False) args sX 1 6 A)) (tb2_L_count Φ) := ⟨sq_i2l X dL_count_7, sq_last X dL_count_8, sq_goto X (by decide) dL_count_9, sq_iconst X (by decide) dL_count_15, sh_iret X hr dL_count_16, trivial⟩
    have t1 : tabOK (K pX l eX (rmX 32) sX mX args below meth cX D ad cA A 4 0 0 (vx_MQ below (QcW Φ D ad cA A) (fun _ _ _ => False) args sX 1 6 A)) (tb1_L_count S_countC (wp (tb2_L_count Φ) [] (fun _ _ _ _ => False) 100) (fun E σ' => E = "java/lang/IllegalArgumentException" ∧ Φ (some (aI 1)) σ')) := ⟨sq_aload_n X rfl dL_count_0, sq_iconst X (by decide) dL_count_1, sq_aload_n X rfl dL_count_2, sq_iload_n X rfl dL_count_3, sx_cx X (c_countC l) ⟨_, _, rfl⟩ cw_L_46 ⟨rfl, by decide, by decide, by decide +kernel⟩ (by decide +kernel) (lev_okX (by decide) (by decide)) ⟨by decide, by decide⟩ (wp_sound t2 (fun _ _ _ _ h => h.elim) 100) hx dL_count_4, trivial⟩
    refine wp_sound (ps := []) (C := fun _ _ _ _ => False) t1 (fun _ _ _ _ h => h.elim) 100 _ _ _ _ ?_
    have v01 : vp_in 0 1 := vp_in_nI (N := 1) Nat.one_pos (by decide)
    obtain ⟨Ds, hC, h1, h2⟩ := hS
    exact ⟨Ds, hC, fun z => ⟨rfl, h1 z⟩, fun z => ⟨v01, h2 z⟩⟩
