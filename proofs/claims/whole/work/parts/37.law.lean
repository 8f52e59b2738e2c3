/-! THE LAW, CASE BY CASE -/
def LX (p : Program) (l : Launch) (s : State) (m : MethodId) (meth : Method) (c : Code) (D : va_G) (ad : Nat → Nat → Nat) (cA : Nat → ClassId) (b L : Nat) (xs : Nat → Int32) : Prop :=
  Cx p l s #[Value.ref b] s m #[Value.ref b] meth c code 9 RL D ad cA (fun q => s.heap.size ≤ q) ∧ meth.sig.returnType = ret ∧ va_X (ad 43 0) L xs s s.heap ∧ ad 43 0 < s.heap.size ∧ L ≤ 2560 ∧ va_Nc "java/lang/IllegalStateException" "java/lang/IllegalArgumentException" s
abbrev KL (p : Program) (l : Launch) (e : Env) (s : State) (m : MethodId) (below : List Frame) (meth : Method) (c : Code) (D : va_G) (ad : Nat → Nat → Nat) (cA : Nat → ClassId) (b cl sl : Nat) : Kt := K p l e room_1 s m #[Value.ref b] below meth c D ad cA (fun q => s.heap.size ≤ q) 9 cl sl (lw_Z below #[Value.ref b] s)
def lvH (i : Nat) : LV := [some (aR 43 0), some (aR 0 0), some (aR 11 0), some (aR 34 0), some (aR 35 0), some (aI (nI i)), none, none, none]
def lvT (i : Nat) (k b : Int32) : LV := [some (aR 43 0), some (aR 0 0), some (aR 11 0), some (aR 34 0), some (aR 35 0), some (aI (nI i)), some (aI k), some (aI b), none]
def lvD (i : Nat) (k : Int32) (b : UInt64) : LV := [some (aR 43 0), some (aR 0 0), some (aR 11 0), some (aR 34 0), some (aR 35 0), some (aI (nI i)), some (aI k), some (aD b), none]
def C28 (i : Nat) : Kt := fun pc lv st σ => pc = 28 ∧ subl (lvH (i + 5)) lv ∧ st = [] ∧ ∃ Ds, INV σ Ds
def CT (t i : Nat) : Kt := fun pc lv st σ => pc = t ∧ st = [] ∧ ∃ (k b : Int32) (Ds : List Duty), subl (lvT i k b) lv ∧ rd σ 11 0 0 = k ∧ (k = 0 → rl σ 34 0 = b.toInt64) ∧ INV σ Ds
def CZ (t i : Nat) : Kt := fun pc lv st σ => pc = t ∧ st = [] ∧ ∃ (k b : Int32) (Ds : List Duty), subl (lvT i k b) lv ∧ rd σ 11 0 0 = k ∧ (k = 0 → rl σ 34 0 = (if b = 0 then 0 else 1)) ∧ INV σ Ds
def CD (t i : Nat) : Kt := fun pc lv st σ => pc = t ∧ st = [] ∧ ∃ (k : Int32) (b : UInt64) (Ds : List Duty), subl (lvD i k b) lv ∧ rd σ 11 0 0 = k ∧ (k = 0 → rz σ 35 0 = b ∧ vf_n64 b) ∧ INV σ Ds
theorem nI_5 (i : Nat) : nI i + 5 = nI (i + 5) := nI_add i 5
theorem vp_sc {i L k : Nat} (h : i + 5 ≤ L) (hL : L ≤ 2560) (hk : k < 5) : vp_in (nI i + nI k) L := by rw [nI_add]; exact vp_in_nI (by omega) (by omega)
theorem lg_self (x : Int64) : lg_cmp x x = 0 := by
  unfold lg_cmp
  simp
theorem INV_ref {σ : Mem} {Ds : List Duty} (v : Int32) (h : INV σ Ds) : INV (wr (wr σ 11 0 0 0) 11 0 0 v) Ds := INV_q0 (gs := []) (fs := [0]) h (((eqf.refl _ _ _).pf (by decide)).pf (by decide)) (by decide) (by decide) (by decide)
/-- both sides make one node more -/
theorem INV_make {σ : Mem} {Ds : List Duty} {kd a b c : Int32} {v : Int64} (hI : INV σ Ds) (hf : fitK (tC σ) (nC σ) kd a b c) (hlt : nC σ < 60) (h6 : hgt (tC σ) kd a b c ≤ 6) :
    MI (wrl (addC σ kd a b c (hgt (tC σ) kd a b c)) 34 0 v) ∧ tM (wrl (addC σ kd a b c (hgt (tC σ) kd a b c)) 34 0 v) = tC σ ∧ nM (wrl (addC σ kd a b c (hgt (tC σ) kd a b c)) 34 0 v) = nC σ ∧ rd (wrl (addC σ kd a b c (hgt (tC σ) kd a b c)) 34 0 v) 11 0 1 = rd σ 1 0 5 ∧
    INV (newM (wrl (addC σ kd a b c (hgt (tC σ) kd a b c)) 34 0 v) kd a b c (hgt (tC σ) kd a b c)) Ds ∧ rl (newM (wrl (addC σ kd a b c (hgt (tC σ) kd a b c)) 34 0 v) kd a b c (hgt (tC σ) kd a b c)) 34 0 = v := by
  obtain ⟨a1, a2, a3, a4, a5, a6, a7⟩ := addC_ok hI hf hlt rfl h6
  obtain ⟨et, en, hD, hM⟩ := id hI
  generalize hh : hgt (tC σ) kd a b c = h at *
  have b2 := MD_wrl (v := v) a2
  have e3 : tM (wrl (addC σ kd a b c h) 34 0 v) = tC σ := Eq.trans (show _ = tM (addC σ kd a b c h) from rfl) (a3.trans et.symm)
  have e4 : nM (wrl (addC σ kd a b c h) 34 0 v) = nC σ := Eq.trans (show _ = nM (addC σ kd a b c h) from rfl) (a4.trans en.symm)
  obtain ⟨n1, n2, n3, n4, n5⟩ := newM_ok (h := h) b2 (by rw [e3, e4]; exact hf) (by omega) (by rw [e3]; exact hh.symm) h6
  have fC : ∀ g i k, g < 11 ∨ 17 ≤ g → rd (newM (wrl (addC σ kd a b c h) 34 0 v) kd a b c h) g i k = rd (addC σ kd a b c h) g i k := fun g i k hg => n4 g i k (by omega)
  obtain ⟨d1, d2, d3⟩ := DSt_of (fun g i k hg => fC g i k (by omega)) a1
  refine ⟨b2.1, e3, e4, a7, ⟨?_, ?_, d1, n1⟩, ?_⟩
  · rw [d2, n2, a5, e3, e4, et, en]
  · rw [d3, n3, a6, e4, en]
  · unfold newM
    rw [rl_wr, rl_wrl, if_neg (fun z => absurd z.1 (by decide)), rl_wr, rl_wr, rl_wr, rl_wr, rl_wr, rl_wr, rl_34]
theorem nn_of {b : UInt64} (h : vf_n64 b) : FP.Core.dIsNaN b = false := by
  cases hb : FP.Core.dIsNaN b with
  | false => rfl
  | true =>
    have h2 := (FP.Core.isNaN_bits b).mp hb
    unfold vf_n64 at h
    rw [UInt64.le_iff_toNat_le, UInt64.toNat_and, show (0x7fffffffffffffff : UInt64).toNat = 2 ^ 63 - 1 from rfl, Nat.and_two_pow_sub_one_eq_mod, show (0x7ff0000000000000 : UInt64).toNat = 9218868437227405312 from rfl] at h
    omega
theorem dcmp_se {b : UInt64} (h : vf_n64 b) : Op.cmpValue (FP.dcmp b b) .l = 0 := by
  have : FP.dcmp b b = some .eq := FP.Core.dcmp_refl (nn_of h)
  rw [this]
  rfl
theorem INV_gs {σ σ' : Mem} {Ds : List Duty} (hI : INV σ Ds) (h : eqf [24, 25, 26, 27, 28, 29, 30] [0, 16, 17] σ σ') : INV σ' Ds := by
  obtain ⟨hM1, tm, nm⟩ := MI_eqf h (by decide) (by decide) hI.2.2.2.1
  refine INV_q hI h (by decide) (by decide) (MD_of (fun g k hg => h.1 g 0 k ?_ (fun z => by omega)) (h.1 11 0 12 (by decide) (by decide)) hM1 (by rw [tm]; exact fun _ _ _ => rfl) (by omega) hI.2.2.2)
  intro z
  simp only [List.mem_cons, List.not_mem_nil, or_false] at z
  omega
theorem INV_pr {σ σ1 : Mem} {Ds : List Duty} {v : Int64} (hI : INV σ Ds) (h1 : eqG 0 0 σ σ1) : MI (wrl σ1 34 0 v) ∧ tM (wrl σ1 34 0 v) = tC σ ∧ nM (wrl σ1 34 0 v) = nC σ ∧
    ∀ (All : List Duty) (σ2 : Mem), DSt σ1 All → All.length ≤ 16 → PRm All σ2 → (∀ i, i < All.length → rd σ2 31 0 i = 0) → eqf GP [0, 9, 12, 16, 17] (wrl σ1 34 0 v) σ2 → INV σ2 All ∧ rl σ2 34 0 = v := by
  obtain ⟨et, en, hD, hM⟩ := hI
  have f1 : ∀ g i k, g < 8 ∨ (10 < g ∧ g < 36) → rd σ1 g i k = rd σ g i k := fun g i k hk => h1.1 g i k (by omega) (by omega) (by omega)
  have tc1 : tC σ1 = tC σ := tC_of (fun g k _ _ => f1 g 0 k (by omega))
  have nc1 : nC σ1 = nC σ := by unfold nC; rw [f1 1 0 5 (by omega)]
  have tm1 : tM (wrl σ1 34 0 v) = tM σ := tM_of (fun g k _ _ => f1 g 0 k (by omega))
  have nm1 : nM (wrl σ1 34 0 v) = nM σ := by show ix (rd σ1 11 0 1) = ix (rd σ 11 0 1); rw [f1 11 0 1 (by omega)]
  have l1 : rl (wrl σ1 34 0 v) 17 = rl σ 17 := by
    funext k
    rw [rl_wrl, if_neg (fun z => absurd z.1 (by decide))]
    show σ1.2.1 17 k = σ.2.1 17 k
    rw [h1.2]
  have hM1 : MI (wrl σ1 34 0 v) := ⟨⟨by rw [nm1]; exact (f1 11 0 1 (by omega)).trans hM.1.1.1, by rw [nm1]; exact hM.1.1.2⟩, by rw [tm1, nm1]; exact hM.1.2.1, by rw [tm1, nm1, l1]; exact hM.1.2.2⟩
  refine ⟨hM1, by rw [tm1, et], by rw [nm1, en], fun All σ2 hD1 hl hP h31 h2 => ⟨?_, by rw [h2.rl, rl_34]⟩⟩
  obtain ⟨hM2, tm2, nm2⟩ := MI_eqf h2 (by decide) (by decide) hM1
  have f2 : ∀ g i k, g < 11 ∨ 32 ≤ g → rd σ2 g i k = rd σ1 g i k := fun g i k hk => h2.1 g i k (fun z => by simp only [GP, List.mem_cons, List.not_mem_nil, or_false] at z; omega) (fun z => by omega)
  obtain ⟨hD2, tc2, nc2⟩ := DSt_of (fun g i k hk => f2 g i k (by omega)) hD1
  refine ⟨by rw [tc2, tm2, tc1, tm1, et], by rw [nc2, nm2, nc1, nm1, en], hD2, hM2, hl, hP.1, ?_⟩
  obtain ⟨T, hT, hr⟩ := hP.2
  refine ⟨T, hT, fun i E hi => ⟨hr i E hi, ?_, Or.inl (h31 i (List.getElem?_eq_some_iff.mp hi).1)⟩⟩
  have := (hD1.2.2.2 i E hi).2
  rw [tm2, nm2, tm1, nm1, ← et, ← en, ← tc1, ← nc1]
  exact this
set_option maxRecDepth 100000 in
theorem cw_L_59 : ∀ w ∈ wsV RL 59 RX5 yX5_thrown [.code yX5_thrown cX5_thrown 1 (some .int)], w ∈ lw_tbl := memC5 (List.mem_of_getElem? (i := 531) rfl) (List.mem_of_getElem? (i := 532) rfl) (List.mem_of_getElem? (i := 533) rfl) (List.mem_of_getElem? (i := 35) rfl) (List.mem_of_getElem? (i := 534) rfl)
set_option maxRecDepth 100000 in
theorem cw_L_58 : ∀ w ∈ wsV RL 58 RX5 yX5_make [.code yX5_make cX5_make 6 (some .int)], w ∈ lw_tbl := memC5 (List.mem_of_getElem? (i := 535) rfl) (List.mem_of_getElem? (i := 536) rfl) (List.mem_of_getElem? (i := 537) rfl) (List.mem_of_getElem? (i := 35) rfl) (List.mem_of_getElem? (i := 538) rfl)
set_option maxRecDepth 100000 in
theorem ch_L_53 : ∀ w ∈ va_wsS RL 53 yL_make [.codeWith yL_make cL_make 7 (some .int) [(0, 14, 17, 13), (0, 14, 21, 15)]], w ∈ lw_tbl := memC4 (List.mem_of_getElem? (i := 164) rfl) (List.mem_of_getElem? (i := 165) rfl) (List.mem_of_getElem? (i := 29) rfl) (List.mem_of_getElem? (i := 166) rfl)
set_option maxRecDepth 100000 in
theorem cw_L_66 : ∀ w ∈ wsV RL 66 RX5 yX5_value [.code yX5_value cX5_value 3 (some .int)], w ∈ lw_tbl := memC5 (List.mem_of_getElem? (i := 576) rfl) (List.mem_of_getElem? (i := 577) rfl) (List.mem_of_getElem? (i := 578) rfl) (List.mem_of_getElem? (i := 35) rfl) (List.mem_of_getElem? (i := 579) rfl)
set_option maxRecDepth 100000 in
theorem ch_L_63 : ∀ w ∈ va_wsS RL 63 yL_value [.codeWith yL_value cL_value 5 (some .int) [(0, 10, 13, 13)]], w ∈ lw_tbl := memC4 (List.mem_of_getElem? (i := 286) rfl) (List.mem_of_getElem? (i := 287) rfl) (List.mem_of_getElem? (i := 29) rfl) (List.mem_of_getElem? (i := 288) rfl)
set_option maxRecDepth 100000 in
theorem cw_L_69 : ∀ w ∈ wsV RL 69 RX5 yX5_holds [.code yX5_holds cX5_holds 3 (some .boolean)], w ∈ lw_tbl := memC5 (List.mem_of_getElem? (i := 591) rfl) (List.mem_of_getElem? (i := 592) rfl) (List.mem_of_getElem? (i := 593) rfl) (List.mem_of_getElem? (i := 35) rfl) (List.mem_of_getElem? (i := 594) rfl)
set_option maxRecDepth 100000 in
theorem ch_L_67 : ∀ w ∈ va_wsS RL 67 yL_holds [.codeWith yL_holds cL_holds 5 (some .int) [(0, 17, 20, 13)]], w ∈ lw_tbl := memC4 (List.mem_of_getElem? (i := 302) rfl) (List.mem_of_getElem? (i := 303) rfl) (List.mem_of_getElem? (i := 29) rfl) (List.mem_of_getElem? (i := 304) rfl)
set_option maxRecDepth 100000 in
theorem cw_L_73 : ∀ w ∈ wsV RL 73 RX5 yX5_run [.code yX5_run cX5_run 9 (some .int)], w ∈ lw_tbl := memC5 (List.mem_of_getElem? (i := 599) rfl) (List.mem_of_getElem? (i := 600) rfl) (List.mem_of_getElem? (i := 601) rfl) (List.mem_of_getElem? (i := 35) rfl) (List.mem_of_getElem? (i := 602) rfl)
set_option maxRecDepth 100000 in
theorem ch_L_70 : ∀ w ∈ va_wsS RL 70 yL_run [.codeWith yL_run cL_run 6 (some .int) [(0, 12, 15, 13), (0, 12, 19, 15)]], w ∈ lw_tbl := memC4 (List.mem_of_getElem? (i := 314) rfl) (List.mem_of_getElem? (i := 315) rfl) (List.mem_of_getElem? (i := 29) rfl) (List.mem_of_getElem? (i := 316) rfl)
set_option maxRecDepth 100000 in
theorem cw_L_76 : ∀ w ∈ wsV RL 76 RX5 yX5_promise [.code yX5_promise cX5_promise 5 (some .int)], w ∈ lw_tbl := memC5 (List.mem_of_getElem? (i := 607) rfl) (List.mem_of_getElem? (i := 608) rfl) (List.mem_of_getElem? (i := 609) rfl) (List.mem_of_getElem? (i := 35) rfl) (List.mem_of_getElem? (i := 610) rfl)
set_option maxRecDepth 100000 in
theorem ch_L_74 : ∀ w ∈ va_wsS RL 74 yL_promise [.codeWith yL_promise cL_promise 6 (some .int) [(0, 12, 15, 13), (0, 12, 19, 15)]], w ∈ lw_tbl := memC4 (List.mem_of_getElem? (i := 338) rfl) (List.mem_of_getElem? (i := 339) rfl) (List.mem_of_getElem? (i := 29) rfl) (List.mem_of_getElem? (i := 340) rfl)
set_option maxRecDepth 100000 in
theorem cw_L_79 : ∀ w ∈ wsV RL 79 RX5 yX5_kept [.code yX5_kept cX5_kept 3 (some .boolean)], w ∈ lw_tbl := memC5 (List.mem_of_getElem? (i := 627) rfl) (List.mem_of_getElem? (i := 628) rfl) (List.mem_of_getElem? (i := 629) rfl) (List.mem_of_getElem? (i := 35) rfl) (List.mem_of_getElem? (i := 630) rfl)
set_option maxRecDepth 100000 in
theorem ch_L_77 : ∀ w ∈ va_wsS RL 77 yL_kept [.codeWith yL_kept cL_kept 5 (some .int) [(0, 17, 20, 13), (0, 17, 24, 15)]], w ∈ lw_tbl := memC4 (List.mem_of_getElem? (i := 365) rfl) (List.mem_of_getElem? (i := 366) rfl) (List.mem_of_getElem? (i := 29) rfl) (List.mem_of_getElem? (i := 367) rfl)
set_option maxRecDepth 100000 in
theorem cw_L_83 : ∀ w ∈ wsV RL 83 RX5 yX5_decide [.code yX5_decide cX5_decide 3 (some .int)], w ∈ lw_tbl := memC5 (List.mem_of_getElem? (i := 639) rfl) (List.mem_of_getElem? (i := 640) rfl) (List.mem_of_getElem? (i := 641) rfl) (List.mem_of_getElem? (i := 35) rfl) (List.mem_of_getElem? (i := 642) rfl)
set_option maxRecDepth 100000 in
theorem ch_L_80 : ∀ w ∈ va_wsS RL 80 yL_decide [.codeWith yL_decide cL_decide 4 (some .int) [(0, 9, 12, 15)]], w ∈ lw_tbl := memC4 (List.mem_of_getElem? (i := 391) rfl) (List.mem_of_getElem? (i := 392) rfl) (List.mem_of_getElem? (i := 29) rfl) (List.mem_of_getElem? (i := 393) rfl)
set_option maxRecDepth 100000 in
theorem cw_L_86 : ∀ w ∈ wsV RL 86 RX5 yX5_broken [.code yX5_broken cX5_broken 4 (some .int)], w ∈ lw_tbl := memC5 (List.mem_of_getElem? (i := 651) rfl) (List.mem_of_getElem? (i := 652) rfl) (List.mem_of_getElem? (i := 653) rfl) (List.mem_of_getElem? (i := 35) rfl) (List.mem_of_getElem? (i := 654) rfl)
set_option maxRecDepth 100000 in
theorem ch_L_84 : ∀ w ∈ va_wsS RL 84 yL_broken [.codeWith yL_broken cL_broken 6 (some .int) [(0, 12, 15, 13), (0, 12, 19, 15)]], w ∈ lw_tbl := memC4 (List.mem_of_getElem? (i := 403) rfl) (List.mem_of_getElem? (i := 404) rfl) (List.mem_of_getElem? (i := 29) rfl) (List.mem_of_getElem? (i := 405) rfl)
set_option maxRecDepth 100000 in
theorem cw_L_90 : ∀ w ∈ wsV RL 90 RX5 yX5_part [.code yX5_part cX5_part 3 (some .double)], w ∈ lw_tbl := memC5 (List.mem_of_getElem? (i := 659) rfl) (List.mem_of_getElem? (i := 660) rfl) (List.mem_of_getElem? (i := 661) rfl) (List.mem_of_getElem? (i := 35) rfl) (List.mem_of_getElem? (i := 662) rfl)
set_option maxRecDepth 100000 in
theorem ch_L_87 : ∀ w ∈ va_wsS RL 87 yL_part [.codeWith yL_part cL_part 3 (some .int) [(0, 7, 10, 15)]], w ∈ lw_tbl := memC4 (List.mem_of_getElem? (i := 414) rfl) (List.mem_of_getElem? (i := 415) rfl) (List.mem_of_getElem? (i := 29) rfl) (List.mem_of_getElem? (i := 416) rfl)
set_option maxRecDepth 100000 in
theorem cw_L_93 : ∀ w ∈ wsV RL 93 RX5 yX5_count [.code yX5_count cX5_count 4 (some .int)], w ∈ lw_tbl := memC5 (List.mem_of_getElem? (i := 663) rfl) (List.mem_of_getElem? (i := 664) rfl) (List.mem_of_getElem? (i := 665) rfl) (List.mem_of_getElem? (i := 35) rfl) (List.mem_of_getElem? (i := 666) rfl)
set_option maxRecDepth 100000 in
theorem ch_L_91 : ∀ w ∈ va_wsS RL 91 yL_count [.codeWith yL_count cL_count 4 (some .int) [(0, 9, 12, 13)]], w ∈ lw_tbl := memC4 (List.mem_of_getElem? (i := 426) rfl) (List.mem_of_getElem? (i := 427) rfl) (List.mem_of_getElem? (i := 29) rfl) (List.mem_of_getElem? (i := 428) rfl)
def tbT_make : List (Nat × Tr) := [(161, tq_ald 2 162), (162, tq_cv 5 1 S_thrown 165), (165, tq_ild 6 167), (167, tq_ic_eq 172 170), (170, tq_push 0 171), (171, tq_lret), (172, tq_ild 6 174), (174, tq_if_ne 189 177), (177, tq_ald 3 178), (178, tq_push 0 179), (179, tq_lald 180), (180, tq_ild 7 182), (182, tq_i2l 183), (183, tq_lcmp 184), (184, tq_if_eq 189 187), (187, tq_push 0 188), (188, tq_lret), (189, tq_goto 827), (827, tq_iinc 5 5 830), (830, tq_goto 28)]
set_option maxRecDepth 100000 in
theorem tl_make {p : Program} {l : Launch} {e : Env} {s : State} {m : MethodId} {below : List Frame} {meth : Method} {c : Code} {D : va_G} {ad : Nat → Nat → Nat} {cA : Nat → ClassId} {b L : Nat} {xs : Nat → Int32} {cl sl : Nat} (X : LX p l s m meth c D ad cA b L xs) {i : Nat} (hcl : cl ≤ 601024 ∧ sl ≤ 7293034) (hI : ∀ σ' Ds, INV σ' Ds → KL p l e s m below meth c D ad cA b cl sl 28 (lvH (i + 5)) [] σ') {k9 : Int32} {b9 : Int32} {σ : Mem} {Ds : List Duty} (h1 : rd σ 11 0 0 = k9) (h2 : k9 = 0 → rl σ 34 0 = b9.toInt64) (hInv : INV σ Ds) : KL p l e s m below meth c D ad cA b cl sl 161 (lvT i k9 b9) [] σ := by
  have v01 : vp_in 0 1 := vp_in_nI (N := 1) Nat.one_pos (by decide)
  have tb : tabOK (KL p l e s m below meth c D ad cA b cl sl) tbT_make := ⟨sq_aload_n X.1 rfl dL_law_161, sq_cv X.1 (c_thrown l) ⟨_, _, rfl⟩ cw_L_59 ⟨rfl, by decide, by decide, by decide +kernel⟩ (by decide +kernel) ⟨by decide, by decide⟩ hcl dL_law_162, sq_iload X.1 dL_law_165, sq_ic_eq X.1 (by decide) dL_law_167, sq_iconst X.1 (by decide) dL_law_170, sq_lret X.1 X.2.1 hcl dL_law_171, sq_iload X.1 dL_law_172, sq_if_ne X.1 (by decide) dL_law_174, sq_aload_n X.1 rfl dL_law_177, sq_iconst X.1 (by decide) dL_law_178, sq_lald X.1 dL_law_179, sq_iload X.1 dL_law_180, sq_i2l X.1 dL_law_182, sq_lcmp X.1 dL_law_183, sq_if_eq X.1 (by decide) dL_law_184, sq_iconst X.1 (by decide) dL_law_187, sq_lret X.1 X.2.1 hcl dL_law_188, sq_goto X.1 (by decide) dL_law_189, sq_iinc X.1 (by decide) (by decide) dL_law_827, sq_goto X.1 (by decide) dL_law_830, trivial⟩
  refine wp_sound (ps := [28]) (C := C28 i) tb (fun pc lv st σ' hC => ?_) 100 _ _ _ _ ?_
  · obtain ⟨rfl, hs, rfl, Ds', hv⟩ := hC
    exact K_sub hs (hI σ' Ds' hv)
  refine And.intro (fun _ => ?_) (fun (h : ¬ rd σ 11 0 0 = k9) => absurd h1 h)
  refine And.intro (fun (h : ¬ k9 = 0) => ?_) (fun (h : k9 = 0) => ?_)
  · exact ⟨rfl, ⟨rfl, rfl, rfl, rfl, rfl, by show some (some (aI (nI i + 5))) = some (some (aI (nI (i + 5)))); rw [nI_5], trivial⟩, rfl, Ds, hInv⟩
  · refine And.intro v01 ?_
    have e9 : lg_cmp (rl σ 34 0) b9.toInt64 = 0 := by rw [h2 h]; exact lg_self _
    refine And.intro (fun _ => ?_) (fun (h3 : ¬ lg_cmp (rl σ 34 0) b9.toInt64 = 0) => absurd e9 h3)
    exact ⟨rfl, ⟨rfl, rfl, rfl, rfl, rfl, by show some (some (aI (nI i + 5))) = some (some (aI (nI (i + 5)))); rw [nI_5], trivial⟩, rfl, Ds, hInv⟩
def tbA_make (L : Nat) (xs : Nat → Int32) (W2 : Kt) : List (Nat × Tr) := [(100, tq_ald 1 101), (101, tq_ald 0 102), (102, tq_ild 5 104), (104, tq_push 1 105), (105, tq_iadd 106), (106, tq_sl L xs 107), (107, tq_ald 0 108), (108, tq_ild 5 110), (110, tq_push 2 111), (111, tq_iadd 112), (112, tq_sl L xs 113), (113, tq_ald 0 114), (114, tq_ild 5 116), (116, tq_push 3 117), (117, tq_iadd 118), (118, tq_sl L xs 119), (119, tq_ald 0 120), (120, tq_ild 5 122), (122, tq_push 4 123), (123, tq_iadd 124), (124, tq_sl L xs 125), (125, tq_ald 3 126), (126, tq_ch 6 S_wmake 129 W2)]
def tbB_make (L : Nat) (xs : Nat → Int32) : List (Nat × Tr) := [(129, tq_ist 6 131), (131, tq_ald 2 132), (132, tq_ald 0 133), (133, tq_ild 5 135), (135, tq_push 1 136), (136, tq_iadd 137), (137, tq_sl L xs 138), (138, tq_ald 0 139), (139, tq_ild 5 141), (141, tq_push 2 142), (142, tq_iadd 143), (143, tq_sl L xs 144), (144, tq_ald 0 145), (145, tq_ild 5 147), (147, tq_push 3 148), (148, tq_iadd 149), (149, tq_sl L xs 150), (150, tq_ald 0 151), (151, tq_ild 5 153), (153, tq_push 4 154), (154, tq_iadd 155), (155, tq_sl L xs 156), (156, tq_cv 5 5 S_makeM 159), (159, tq_ist 7 161)]
set_option maxRecDepth 100000 in
theorem cs_make {p : Program} {l : Launch} {e : Env} {s : State} {m : MethodId} {below : List Frame} {meth : Method} {c : Code} {D : va_G} {ad : Nat → Nat → Nat} {cA : Nat → ClassId} {b L : Nat} {xs : Nat → Int32} {cl sl : Nat} (X : LX p l s m meth c D ad cA b L xs) {i : Nat} (hi : i + 5 ≤ L) (hc1 : cl + 1 ≤ 601024 ∧ sl + 6 ≤ 7293034) (hI : ∀ σ' Ds, INV σ' Ds → KL p l e s m below meth c D ad cA b (cl + 1) (sl + 6) 28 (lvH (i + 5)) [] σ') {σ : Mem} {Ds : List Duty} (hInv : INV σ Ds) : KL p l e s m below meth c D ad cA b cl sl 100 (lvH i) [] σ := by
  have hcl := hc1
  have t2 : tabOK (KL p l e s m below meth c D ad cA b (cl + 1) (sl + 6)) (tbB_make L xs) := ⟨sq_istore X.1 (by decide) dL_law_129, sq_aload_n X.1 rfl dL_law_131, sq_aload_n X.1 rfl dL_law_132, sq_iload X.1 dL_law_133, sq_iconst X.1 (by decide) dL_law_135, sq_iadd X.1 dL_law_136, sq_sl X.1 X.2.2.1 X.2.2.2.1 (Nat.not_le.mpr X.2.2.2.1) dL_law_137, sq_aload_n X.1 rfl dL_law_138, sq_iload X.1 dL_law_139, sq_iconst X.1 (by decide) dL_law_141, sq_iadd X.1 dL_law_142, sq_sl X.1 X.2.2.1 X.2.2.2.1 (Nat.not_le.mpr X.2.2.2.1) dL_law_143, sq_aload_n X.1 rfl dL_law_144, sq_iload X.1 dL_law_145, sq_iconst X.1 (by decide) dL_law_147, sq_iadd X.1 dL_law_148, sq_sl X.1 X.2.2.1 X.2.2.2.1 (Nat.not_le.mpr X.2.2.2.1) dL_law_149, sq_aload_n X.1 rfl dL_law_150, sq_iload X.1 dL_law_151, sq_iconst X.1 (by decide) dL_law_153, sq_iadd X.1 dL_law_154, sq_sl X.1 X.2.2.1 X.2.2.2.1 (Nat.not_le.mpr X.2.2.2.1) dL_law_155, sq_cv X.1 (c_makeM l) ⟨_, _, rfl⟩ cw_L_58 ⟨rfl, by decide, by decide, by decide +kernel⟩ (by decide +kernel) ⟨by decide, by decide⟩ hcl dL_law_156, sq_istore X.1 (by decide) dL_law_159, trivial⟩
  have hW : ∀ pc lv st σ, wp (tbB_make L xs) [161] (CT 161 i) 100 pc lv st σ → KL p l e s m below meth c D ad cA b (cl + 1) (sl + 6) pc lv st σ := wp_sound t2 (fun pc lv st σ' hC => by
    obtain ⟨rfl, rfl, k9, b9, Ds', hs, h1, h2, hv⟩ := hC
    exact K_sub hs (tl_make X hc1 hI h1 h2 hv)) 100
  have hcl : cl ≤ 601024 ∧ sl ≤ 7293034 := ⟨by omega, by omega⟩
  have t1 : tabOK (KL p l e s m below meth c D ad cA b cl sl) (tbA_make L xs (wp (tbB_make L xs) [161] (CT 161 i) 100)) := ⟨sq_aload_n X.1 rfl dL_law_100, sq_aload_n X.1 rfl dL_law_101, sq_iload X.1 dL_law_102, sq_iconst X.1 (by decide) dL_law_104, sq_iadd X.1 dL_law_105, sq_sl X.1 X.2.2.1 X.2.2.2.1 (Nat.not_le.mpr X.2.2.2.1) dL_law_106, sq_aload_n X.1 rfl dL_law_107, sq_iload X.1 dL_law_108, sq_iconst X.1 (by decide) dL_law_110, sq_iadd X.1 dL_law_111, sq_sl X.1 X.2.2.1 X.2.2.2.1 (Nat.not_le.mpr X.2.2.2.1) dL_law_112, sq_aload_n X.1 rfl dL_law_113, sq_iload X.1 dL_law_114, sq_iconst X.1 (by decide) dL_law_116, sq_iadd X.1 dL_law_117, sq_sl X.1 X.2.2.1 X.2.2.2.1 (Nat.not_le.mpr X.2.2.2.1) dL_law_118, sq_aload_n X.1 rfl dL_law_119, sq_iload X.1 dL_law_120, sq_iconst X.1 (by decide) dL_law_122, sq_iadd X.1 dL_law_123, sq_sl X.1 X.2.2.1 X.2.2.2.1 (Nat.not_le.mpr X.2.2.2.1) dL_law_124, sq_aload_n X.1 rfl dL_law_125, sq_ch X.1 (c_wmake l) X.2.2.2.2.2 ch_L_53 ⟨by decide, by decide, by decide +kernel⟩ (by decide +kernel) ⟨by decide, by decide⟩ hc1 hW dL_law_126, trivial⟩
  refine wp_sound (ps := []) (C := fun _ _ _ _ => False) t1 (fun _ _ _ _ h => h.elim) 100 _ _ _ _ ?_
  have leaf : ∀ (v : Int32) (r : Int32) (σ2 : Mem) (Ds2 : List Duty), rd σ2 11 0 0 = v → (v = 0 → rl σ2 34 0 = r.toInt64) → INV σ2 Ds2 → CT 161 i 161 (lvT i v r) [] σ2 := fun v r σ2 Ds2 h1 h2 h3 => ⟨rfl, rfl, v, r, Ds2, ⟨rfl, rfl, rfl, rfl, rfl, rfl, rfl, rfl, trivial⟩, h1, h2, h3⟩
  obtain ⟨et, en, hD, hM⟩ := id hInv
  have v1 : vp_in (nI i + 1) L := vp_sc (k := 1) hi X.2.2.2.2.1 (by decide)
  have v2 : vp_in (nI i + 2) L := vp_sc (k := 2) hi X.2.2.2.2.1 (by decide)
  have v3 : vp_in (nI i + 3) L := vp_sc (k := 3) hi X.2.2.2.2.1 (by decide)
  have v4 : vp_in (nI i + 4) L := vp_sc (k := 4) hi X.2.2.2.2.1 (by decide)
  refine (And.intro v1 (And.intro v2 (And.intro v3 (And.intro v4 ?_))))
  refine ⟨rfl, hD.1, fun z => ?_, fun z => ⟨fun y => ?_, fun y w => ?_⟩⟩
  · refine (And.intro v1 (And.intro v2 (And.intro v3 (And.intro v4 ?_))))
    exact ⟨hM.1, fun _ => leaf 1 0 _ Ds rfl (fun h => absurd h (by decide)) (INV_ref 1 hInv), fun z9 => absurd (by rw [et, en]; exact z9) z⟩
  · refine (And.intro v1 (And.intro v2 (And.intro v3 (And.intro v4 ?_))))
    refine ⟨hM.1, fun z9 => absurd (by rw [et, en] at z; exact z) z9, fun _ => ⟨fun _ => leaf 2 0 _ Ds rfl (fun h => absurd h (by decide)) (INV_ref 2 hInv), fun y9 w9 => ?_⟩⟩
    rw [et, en] at y
    rcases y with y | y
    · exact absurd y (Nat.ne_of_lt y9)
    · exact absurd w9 y
  · refine (And.intro v1 (And.intro v2 (And.intro v3 (And.intro v4 ?_))))
    obtain ⟨q1, q2, q3, q4, q5, q6⟩ := INV_make (v := (rd σ 1 0 5).toInt64) hInv z y w
    refine ⟨q1, fun z9 => absurd (by rw [q2, q3]; exact z) z9, fun _ => ⟨fun y9 => ?_, fun y9 w9 => ?_⟩⟩
    · rw [q2, q3] at y9
      rcases y9 with y9 | y9
      · exact absurd y9 (Nat.ne_of_lt y)
      · exact absurd w y9
    · rw [q2]
      exact leaf 0 _ _ Ds rfl (fun _ => by rw [q6, q4]) q5

def tbT_value : List (Nat × Tr) := [(229, tq_ald 2 230), (230, tq_cv 5 1 S_thrown 233), (233, tq_ild 6 235), (235, tq_ic_eq 240 238), (238, tq_push 0 239), (239, tq_lret), (240, tq_ild 6 242), (242, tq_if_ne 257 245), (245, tq_ald 3 246), (246, tq_push 0 247), (247, tq_lald 248), (248, tq_ild 7 250), (250, tq_i2l 251), (251, tq_lcmp 252), (252, tq_if_eq 257 255), (255, tq_push 0 256), (256, tq_lret), (257, tq_goto 827), (827, tq_iinc 5 5 830), (830, tq_goto 28)]
set_option maxRecDepth 100000 in
theorem tl_value {p : Program} {l : Launch} {e : Env} {s : State} {m : MethodId} {below : List Frame} {meth : Method} {c : Code} {D : va_G} {ad : Nat → Nat → Nat} {cA : Nat → ClassId} {b L : Nat} {xs : Nat → Int32} {cl sl : Nat} (X : LX p l s m meth c D ad cA b L xs) {i : Nat} (hcl : cl ≤ 601024 ∧ sl ≤ 7293034) (hI : ∀ σ' Ds, INV σ' Ds → KL p l e s m below meth c D ad cA b cl sl 28 (lvH (i + 5)) [] σ') {k9 : Int32} {b9 : Int32} {σ : Mem} {Ds : List Duty} (h1 : rd σ 11 0 0 = k9) (h2 : k9 = 0 → rl σ 34 0 = b9.toInt64) (hInv : INV σ Ds) : KL p l e s m below meth c D ad cA b cl sl 229 (lvT i k9 b9) [] σ := by
  have v01 : vp_in 0 1 := vp_in_nI (N := 1) Nat.one_pos (by decide)
  have tb : tabOK (KL p l e s m below meth c D ad cA b cl sl) tbT_value := ⟨sq_aload_n X.1 rfl dL_law_229, sq_cv X.1 (c_thrown l) ⟨_, _, rfl⟩ cw_L_59 ⟨rfl, by decide, by decide, by decide +kernel⟩ (by decide +kernel) ⟨by decide, by decide⟩ hcl dL_law_230, sq_iload X.1 dL_law_233, sq_ic_eq X.1 (by decide) dL_law_235, sq_iconst X.1 (by decide) dL_law_238, sq_lret X.1 X.2.1 hcl dL_law_239, sq_iload X.1 dL_law_240, sq_if_ne X.1 (by decide) dL_law_242, sq_aload_n X.1 rfl dL_law_245, sq_iconst X.1 (by decide) dL_law_246, sq_lald X.1 dL_law_247, sq_iload X.1 dL_law_248, sq_i2l X.1 dL_law_250, sq_lcmp X.1 dL_law_251, sq_if_eq X.1 (by decide) dL_law_252, sq_iconst X.1 (by decide) dL_law_255, sq_lret X.1 X.2.1 hcl dL_law_256, sq_goto X.1 (by decide) dL_law_257, sq_iinc X.1 (by decide) (by decide) dL_law_827, sq_goto X.1 (by decide) dL_law_830, trivial⟩
  refine wp_sound (ps := [28]) (C := C28 i) tb (fun pc lv st σ' hC => ?_) 100 _ _ _ _ ?_
  · obtain ⟨rfl, hs, rfl, Ds', hv⟩ := hC
    exact K_sub hs (hI σ' Ds' hv)
  refine And.intro (fun _ => ?_) (fun (h : ¬ rd σ 11 0 0 = k9) => absurd h1 h)
  refine And.intro (fun (h : ¬ k9 = 0) => ?_) (fun (h : k9 = 0) => ?_)
  · exact ⟨rfl, ⟨rfl, rfl, rfl, rfl, rfl, by show some (some (aI (nI i + 5))) = some (some (aI (nI (i + 5)))); rw [nI_5], trivial⟩, rfl, Ds, hInv⟩
  · refine And.intro v01 ?_
    have e9 : lg_cmp (rl σ 34 0) b9.toInt64 = 0 := by rw [h2 h]; exact lg_self _
    refine And.intro (fun _ => ?_) (fun (h3 : ¬ lg_cmp (rl σ 34 0) b9.toInt64 = 0) => absurd e9 h3)
    exact ⟨rfl, ⟨rfl, rfl, rfl, rfl, rfl, by show some (some (aI (nI i + 5))) = some (some (aI (nI (i + 5)))); rw [nI_5], trivial⟩, rfl, Ds, hInv⟩
def tbA_value (L : Nat) (xs : Nat → Int32) (W2 : Kt) : List (Nat × Tr) := [(192, tq_ald 1 193), (193, tq_ald 0 194), (194, tq_ild 5 196), (196, tq_push 1 197), (197, tq_iadd 198), (198, tq_sl L xs 199), (199, tq_ald 0 200), (200, tq_ild 5 202), (202, tq_push 2 203), (203, tq_iadd 204), (204, tq_sl L xs 205), (205, tq_ald 3 206), (206, tq_ch 4 S_wvalue 209 W2)]
def tbB_value (L : Nat) (xs : Nat → Int32) : List (Nat × Tr) := [(209, tq_ist 6 211), (211, tq_ald 2 212), (212, tq_ald 0 213), (213, tq_ild 5 215), (215, tq_push 1 216), (216, tq_iadd 217), (217, tq_sl L xs 218), (218, tq_ald 0 219), (219, tq_ild 5 221), (221, tq_push 2 222), (222, tq_iadd 223), (223, tq_sl L xs 224), (224, tq_cv 5 3 S_valueM 227), (227, tq_ist 7 229)]
set_option maxRecDepth 100000 in
theorem cs_value {p : Program} {l : Launch} {e : Env} {s : State} {m : MethodId} {below : List Frame} {meth : Method} {c : Code} {D : va_G} {ad : Nat → Nat → Nat} {cA : Nat → ClassId} {b L : Nat} {xs : Nat → Int32} {cl sl : Nat} (X : LX p l s m meth c D ad cA b L xs) {i : Nat} (hi : i + 5 ≤ L) (hc1 : cl + 1 ≤ 601024 ∧ sl + 6 ≤ 7293034) (hI : ∀ σ' Ds, INV σ' Ds → KL p l e s m below meth c D ad cA b (cl + 1) (sl + 6) 28 (lvH (i + 5)) [] σ') {σ : Mem} {Ds : List Duty} (hInv : INV σ Ds) : KL p l e s m below meth c D ad cA b cl sl 192 (lvH i) [] σ := by
  have hcl := hc1
  have t2 : tabOK (KL p l e s m below meth c D ad cA b (cl + 1) (sl + 6)) (tbB_value L xs) := ⟨sq_istore X.1 (by decide) dL_law_209, sq_aload_n X.1 rfl dL_law_211, sq_aload_n X.1 rfl dL_law_212, sq_iload X.1 dL_law_213, sq_iconst X.1 (by decide) dL_law_215, sq_iadd X.1 dL_law_216, sq_sl X.1 X.2.2.1 X.2.2.2.1 (Nat.not_le.mpr X.2.2.2.1) dL_law_217, sq_aload_n X.1 rfl dL_law_218, sq_iload X.1 dL_law_219, sq_iconst X.1 (by decide) dL_law_221, sq_iadd X.1 dL_law_222, sq_sl X.1 X.2.2.1 X.2.2.2.1 (Nat.not_le.mpr X.2.2.2.1) dL_law_223, sq_cv X.1 (c_valueM l) ⟨_, _, rfl⟩ cw_L_66 ⟨rfl, by decide, by decide, by decide +kernel⟩ (by decide +kernel) ⟨by decide, by decide⟩ hcl dL_law_224, sq_istore X.1 (by decide) dL_law_227, trivial⟩
  have hW : ∀ pc lv st σ, wp (tbB_value L xs) [229] (CT 229 i) 100 pc lv st σ → KL p l e s m below meth c D ad cA b (cl + 1) (sl + 6) pc lv st σ := wp_sound t2 (fun pc lv st σ' hC => by
    obtain ⟨rfl, rfl, k9, b9, Ds', hs, h1, h2, hv⟩ := hC
    exact K_sub hs (tl_value X hc1 hI h1 h2 hv)) 100
  have hcl : cl ≤ 601024 ∧ sl ≤ 7293034 := ⟨by omega, by omega⟩
  have t1 : tabOK (KL p l e s m below meth c D ad cA b cl sl) (tbA_value L xs (wp (tbB_value L xs) [229] (CT 229 i) 100)) := ⟨sq_aload_n X.1 rfl dL_law_192, sq_aload_n X.1 rfl dL_law_193, sq_iload X.1 dL_law_194, sq_iconst X.1 (by decide) dL_law_196, sq_iadd X.1 dL_law_197, sq_sl X.1 X.2.2.1 X.2.2.2.1 (Nat.not_le.mpr X.2.2.2.1) dL_law_198, sq_aload_n X.1 rfl dL_law_199, sq_iload X.1 dL_law_200, sq_iconst X.1 (by decide) dL_law_202, sq_iadd X.1 dL_law_203, sq_sl X.1 X.2.2.1 X.2.2.2.1 (Nat.not_le.mpr X.2.2.2.1) dL_law_204, sq_aload_n X.1 rfl dL_law_205, sq_ch X.1 (c_wvalue l) X.2.2.2.2.2 ch_L_63 ⟨by decide, by decide, by decide +kernel⟩ (by decide +kernel) ⟨by decide, by decide⟩ hc1 hW dL_law_206, trivial⟩
  refine wp_sound (ps := []) (C := fun _ _ _ _ => False) t1 (fun _ _ _ _ h => h.elim) 100 _ _ _ _ ?_
  have leaf : ∀ (v : Int32) (r : Int32) (σ2 : Mem) (Ds2 : List Duty), rd σ2 11 0 0 = v → (v = 0 → rl σ2 34 0 = r.toInt64) → INV σ2 Ds2 → CT 229 i 229 (lvT i v r) [] σ2 := fun v r σ2 Ds2 h1 h2 h3 => ⟨rfl, rfl, v, r, Ds2, ⟨rfl, rfl, rfl, rfl, rfl, rfl, rfl, rfl, trivial⟩, h1, h2, h3⟩
  obtain ⟨et, en, hD, hM⟩ := id hInv
  have v1 : vp_in (nI i + 1) L := vp_sc (k := 1) hi X.2.2.2.2.1 (by decide)
  have v2 : vp_in (nI i + 2) L := vp_sc (k := 2) hi X.2.2.2.2.1 (by decide)
  refine (And.intro v1 (And.intro v2 ?_))
  refine ⟨rfl, hD.1, fun z => ?_, fun z => ?_⟩
  · refine (And.intro v1 (And.intro v2 ?_))
    exact ⟨hM.1, fun _ σ2 h0 he => leaf 1 0 σ2 Ds h0 (fun h => absurd h (by decide)) (INV_q0 hInv he (by decide) (by decide) (by decide)), fun z9 => absurd (by rw [et, en]; exact z9) z⟩
  · refine (And.intro v1 (And.intro v2 ?_))
    have z' : isN (tM σ) (nM σ) 0 4 (xs (ix (nI i + 1))) ∧ rng (xs (ix (nI i + 2))) := by rw [← et, ← en]; exact z
    refine ⟨(MD_wrl hM).1, fun z9 => absurd z' z9, fun _ σ2 h0 he => leaf 0 _ σ2 Ds h0 (fun _ => ?_) (INV_q0 (INV_wrl hInv) he (by decide) (by decide) (by decide))⟩
    rw [he.rl, rl_34, et]
    rfl

def tbT_holds : List (Nat × Tr) := [(297, tq_ald 2 298), (298, tq_cv 5 1 S_thrown 301), (301, tq_ild 6 303), (303, tq_ic_eq 308 306), (306, tq_push 0 307), (307, tq_lret), (308, tq_ild 6 310), (310, tq_if_ne 332 313), (313, tq_ald 3 314), (314, tq_push 0 315), (315, tq_lald 316), (316, tq_ild 7 318), (318, tq_if_eq 325 321), (321, tq_pushL 1 322), (322, tq_goto 326), (325, tq_pushL 0 326), (326, tq_lcmp 327), (327, tq_if_eq 332 330), (330, tq_push 0 331), (331, tq_lret), (332, tq_goto 827), (827, tq_iinc 5 5 830), (830, tq_goto 28)]
set_option maxRecDepth 100000 in
theorem tl_holds {p : Program} {l : Launch} {e : Env} {s : State} {m : MethodId} {below : List Frame} {meth : Method} {c : Code} {D : va_G} {ad : Nat → Nat → Nat} {cA : Nat → ClassId} {b L : Nat} {xs : Nat → Int32} {cl sl : Nat} (X : LX p l s m meth c D ad cA b L xs) {i : Nat} (hcl : cl ≤ 601024 ∧ sl ≤ 7293034) (hI : ∀ σ' Ds, INV σ' Ds → KL p l e s m below meth c D ad cA b cl sl 28 (lvH (i + 5)) [] σ') {k9 : Int32} {b9 : Int32} {σ : Mem} {Ds : List Duty} (h1 : rd σ 11 0 0 = k9) (h2 : k9 = 0 → rl σ 34 0 = (if b9 = 0 then 0 else 1)) (hInv : INV σ Ds) : KL p l e s m below meth c D ad cA b cl sl 297 (lvT i k9 b9) [] σ := by
  have v01 : vp_in 0 1 := vp_in_nI (N := 1) Nat.one_pos (by decide)
  have tb : tabOK (KL p l e s m below meth c D ad cA b cl sl) tbT_holds := ⟨sq_aload_n X.1 rfl dL_law_297, sq_cv X.1 (c_thrown l) ⟨_, _, rfl⟩ cw_L_59 ⟨rfl, by decide, by decide, by decide +kernel⟩ (by decide +kernel) ⟨by decide, by decide⟩ hcl dL_law_298, sq_iload X.1 dL_law_301, sq_ic_eq X.1 (by decide) dL_law_303, sq_iconst X.1 (by decide) dL_law_306, sq_lret X.1 X.2.1 hcl dL_law_307, sq_iload X.1 dL_law_308, sq_if_ne X.1 (by decide) dL_law_310, sq_aload_n X.1 rfl dL_law_313, sq_iconst X.1 (by decide) dL_law_314, sq_lald X.1 dL_law_315, sq_iload X.1 dL_law_316, sq_if_eq X.1 (by decide) dL_law_318, sq_lconst X.1 (by decide) dL_law_321, sq_goto X.1 (by decide) dL_law_322, sq_lconst X.1 (by decide) dL_law_325, sq_lcmp X.1 dL_law_326, sq_if_eq X.1 (by decide) dL_law_327, sq_iconst X.1 (by decide) dL_law_330, sq_lret X.1 X.2.1 hcl dL_law_331, sq_goto X.1 (by decide) dL_law_332, sq_iinc X.1 (by decide) (by decide) dL_law_827, sq_goto X.1 (by decide) dL_law_830, trivial⟩
  refine wp_sound (ps := [28]) (C := C28 i) tb (fun pc lv st σ' hC => ?_) 100 _ _ _ _ ?_
  · obtain ⟨rfl, hs, rfl, Ds', hv⟩ := hC
    exact K_sub hs (hI σ' Ds' hv)
  refine And.intro (fun _ => ?_) (fun (h : ¬ rd σ 11 0 0 = k9) => absurd h1 h)
  refine And.intro (fun (h : ¬ k9 = 0) => ?_) (fun (h : k9 = 0) => ?_)
  · exact ⟨rfl, ⟨rfl, rfl, rfl, rfl, rfl, by show some (some (aI (nI i + 5))) = some (some (aI (nI (i + 5)))); rw [nI_5], trivial⟩, rfl, Ds, hInv⟩
  · have h2 := h2 h
    refine And.intro v01 ?_
    refine And.intro (fun (hb : b9 = 0) => ?_) (fun (hb : ¬ b9 = 0) => ?_)
    · rw [if_pos hb] at h2
      have e9 : lg_cmp (rl σ 34 0) 0 = 0 := by rw [h2]; exact lg_self _
      refine And.intro (fun _ => ?_) (fun (h3 : ¬ lg_cmp (rl σ 34 0) 0 = 0) => absurd e9 h3)
      exact ⟨rfl, ⟨rfl, rfl, rfl, rfl, rfl, by show some (some (aI (nI i + 5))) = some (some (aI (nI (i + 5)))); rw [nI_5], trivial⟩, rfl, Ds, hInv⟩
    · rw [if_neg hb] at h2
      have e9 : lg_cmp (rl σ 34 0) 1 = 0 := by rw [h2]; exact lg_self _
      refine And.intro (fun _ => ?_) (fun (h3 : ¬ lg_cmp (rl σ 34 0) 1 = 0) => absurd e9 h3)
      exact ⟨rfl, ⟨rfl, rfl, rfl, rfl, rfl, by show some (some (aI (nI i + 5))) = some (some (aI (nI (i + 5)))); rw [nI_5], trivial⟩, rfl, Ds, hInv⟩
def tbA_holds (L : Nat) (xs : Nat → Int32) (W2 : Kt) : List (Nat × Tr) := [(260, tq_ald 1 261), (261, tq_ald 0 262), (262, tq_ild 5 264), (264, tq_push 1 265), (265, tq_iadd 266), (266, tq_sl L xs 267), (267, tq_ald 0 268), (268, tq_ild 5 270), (270, tq_push 2 271), (271, tq_iadd 272), (272, tq_sl L xs 273), (273, tq_ald 3 274), (274, tq_ch 4 S_wholds 277 W2)]
def tbB_holds (L : Nat) (xs : Nat → Int32) : List (Nat × Tr) := [(277, tq_ist 6 279), (279, tq_ald 2 280), (280, tq_ald 0 281), (281, tq_ild 5 283), (283, tq_push 1 284), (284, tq_iadd 285), (285, tq_sl L xs 286), (286, tq_ald 0 287), (287, tq_ild 5 289), (289, tq_push 2 290), (290, tq_iadd 291), (291, tq_sl L xs 292), (292, tq_cv 5 3 S_holdsM 295), (295, tq_ist 7 297)]
set_option maxRecDepth 100000 in
theorem cs_holds {p : Program} {l : Launch} {e : Env} {s : State} {m : MethodId} {below : List Frame} {meth : Method} {c : Code} {D : va_G} {ad : Nat → Nat → Nat} {cA : Nat → ClassId} {b L : Nat} {xs : Nat → Int32} {cl sl : Nat} (X : LX p l s m meth c D ad cA b L xs) {i : Nat} (hi : i + 5 ≤ L) (hc1 : cl + 1 ≤ 601024 ∧ sl + 6 ≤ 7293034) (hI : ∀ σ' Ds, INV σ' Ds → KL p l e s m below meth c D ad cA b (cl + 1) (sl + 6) 28 (lvH (i + 5)) [] σ') {σ : Mem} {Ds : List Duty} (hInv : INV σ Ds) : KL p l e s m below meth c D ad cA b cl sl 260 (lvH i) [] σ := by
  have hcl := hc1
  have t2 : tabOK (KL p l e s m below meth c D ad cA b (cl + 1) (sl + 6)) (tbB_holds L xs) := ⟨sq_istore X.1 (by decide) dL_law_277, sq_aload_n X.1 rfl dL_law_279, sq_aload_n X.1 rfl dL_law_280, sq_iload X.1 dL_law_281, sq_iconst X.1 (by decide) dL_law_283, sq_iadd X.1 dL_law_284, sq_sl X.1 X.2.2.1 X.2.2.2.1 (Nat.not_le.mpr X.2.2.2.1) dL_law_285, sq_aload_n X.1 rfl dL_law_286, sq_iload X.1 dL_law_287, sq_iconst X.1 (by decide) dL_law_289, sq_iadd X.1 dL_law_290, sq_sl X.1 X.2.2.1 X.2.2.2.1 (Nat.not_le.mpr X.2.2.2.1) dL_law_291, sq_cv X.1 (c_holdsM l) ⟨_, _, rfl⟩ cw_L_69 ⟨rfl, by decide, by decide, by decide +kernel⟩ (by decide +kernel) ⟨by decide, by decide⟩ hcl dL_law_292, sq_istore X.1 (by decide) dL_law_295, trivial⟩
  have hW : ∀ pc lv st σ, wp (tbB_holds L xs) [297] (CZ 297 i) 100 pc lv st σ → KL p l e s m below meth c D ad cA b (cl + 1) (sl + 6) pc lv st σ := wp_sound t2 (fun pc lv st σ' hC => by
    obtain ⟨rfl, rfl, k9, b9, Ds', hs, h1, h2, hv⟩ := hC
    exact K_sub hs (tl_holds X hc1 hI h1 h2 hv)) 100
  have hcl : cl ≤ 601024 ∧ sl ≤ 7293034 := ⟨by omega, by omega⟩
  have t1 : tabOK (KL p l e s m below meth c D ad cA b cl sl) (tbA_holds L xs (wp (tbB_holds L xs) [297] (CZ 297 i) 100)) := ⟨sq_aload_n X.1 rfl dL_law_260, sq_aload_n X.1 rfl dL_law_261, sq_iload X.1 dL_law_262, sq_iconst X.1 (by decide) dL_law_264, sq_iadd X.1 dL_law_265, sq_sl X.1 X.2.2.1 X.2.2.2.1 (Nat.not_le.mpr X.2.2.2.1) dL_law_266, sq_aload_n X.1 rfl dL_law_267, sq_iload X.1 dL_law_268, sq_iconst X.1 (by decide) dL_law_270, sq_iadd X.1 dL_law_271, sq_sl X.1 X.2.2.1 X.2.2.2.1 (Nat.not_le.mpr X.2.2.2.1) dL_law_272, sq_aload_n X.1 rfl dL_law_273, sq_ch X.1 (c_wholds l) X.2.2.2.2.2 ch_L_67 ⟨by decide, by decide, by decide +kernel⟩ (by decide +kernel) ⟨by decide, by decide⟩ hc1 hW dL_law_274, trivial⟩
  refine wp_sound (ps := []) (C := fun _ _ _ _ => False) t1 (fun _ _ _ _ h => h.elim) 100 _ _ _ _ ?_
  have leaf : ∀ (v : Int32) (r : Int32) (σ2 : Mem) (Ds2 : List Duty), rd σ2 11 0 0 = v → (v = 0 → rl σ2 34 0 = (if r = 0 then 0 else 1)) → INV σ2 Ds2 → CZ 297 i 297 (lvT i v r) [] σ2 := fun v r σ2 Ds2 h1 h2 h3 => ⟨rfl, rfl, v, r, Ds2, ⟨rfl, rfl, rfl, rfl, rfl, rfl, rfl, rfl, trivial⟩, h1, h2, h3⟩
  obtain ⟨et, en, hD, hM⟩ := id hInv
  have v1 : vp_in (nI i + 1) L := vp_sc (k := 1) hi X.2.2.2.2.1 (by decide)
  have v2 : vp_in (nI i + 2) L := vp_sc (k := 2) hi X.2.2.2.2.1 (by decide)
  refine (And.intro v1 (And.intro v2 ?_))
  refine ⟨rfl, hD.1, fun z => ?_, fun z => ?_⟩
  · refine (And.intro v1 (And.intro v2 ?_))
    exact ⟨hM.1, fun _ σ2 h0 he => leaf 1 0 σ2 Ds h0 (fun h => absurd h (by decide)) (INV_q0 hInv he (by decide) (by decide) (by decide)), fun z9 => absurd (by rw [et, en]; exact z9) z⟩
  · refine (And.intro v1 (And.intro v2 ?_))
    have z' : isN (tM σ) (nM σ) 5 10 (xs (ix (nI i + 1))) ∧ rng (xs (ix (nI i + 2))) := by rw [← et, ← en]; exact z
    refine ⟨(MD_wrl hM).1, fun z9 => absurd z' z9, fun _ σ2 h0 he => leaf 0 _ σ2 Ds h0 (fun _ => ?_) (INV_q0 (INV_wrl hInv) he (by decide) (by decide) (by decide))⟩
    rw [he.rl, rl_34, et]
    rfl

def tbT_run : List (Nat × Tr) := [(384, tq_ald 2 385), (385, tq_cv 5 1 S_thrown 388), (388, tq_ild 6 390), (390, tq_ic_eq 395 393), (393, tq_push 0 394), (394, tq_lret), (395, tq_ild 6 397), (397, tq_if_ne 412 400), (400, tq_ald 3 401), (401, tq_push 0 402), (402, tq_lald 403), (403, tq_ild 7 405), (405, tq_i2l 406), (406, tq_lcmp 407), (407, tq_if_eq 412 410), (410, tq_push 0 411), (411, tq_lret), (412, tq_goto 827), (827, tq_iinc 5 5 830), (830, tq_goto 28)]
set_option maxRecDepth 100000 in
theorem tl_run {p : Program} {l : Launch} {e : Env} {s : State} {m : MethodId} {below : List Frame} {meth : Method} {c : Code} {D : va_G} {ad : Nat → Nat → Nat} {cA : Nat → ClassId} {b L : Nat} {xs : Nat → Int32} {cl sl : Nat} (X : LX p l s m meth c D ad cA b L xs) {i : Nat} (hcl : cl ≤ 601024 ∧ sl ≤ 7293034) (hI : ∀ σ' Ds, INV σ' Ds → KL p l e s m below meth c D ad cA b cl sl 28 (lvH (i + 5)) [] σ') {k9 : Int32} {b9 : Int32} {σ : Mem} {Ds : List Duty} (h1 : rd σ 11 0 0 = k9) (h2 : k9 = 0 → rl σ 34 0 = b9.toInt64) (hInv : INV σ Ds) : KL p l e s m below meth c D ad cA b cl sl 384 (lvT i k9 b9) [] σ := by
  have v01 : vp_in 0 1 := vp_in_nI (N := 1) Nat.one_pos (by decide)
  have tb : tabOK (KL p l e s m below meth c D ad cA b cl sl) tbT_run := ⟨sq_aload_n X.1 rfl dL_law_384, sq_cv X.1 (c_thrown l) ⟨_, _, rfl⟩ cw_L_59 ⟨rfl, by decide, by decide, by decide +kernel⟩ (by decide +kernel) ⟨by decide, by decide⟩ hcl dL_law_385, sq_iload X.1 dL_law_388, sq_ic_eq X.1 (by decide) dL_law_390, sq_iconst X.1 (by decide) dL_law_393, sq_lret X.1 X.2.1 hcl dL_law_394, sq_iload X.1 dL_law_395, sq_if_ne X.1 (by decide) dL_law_397, sq_aload_n X.1 rfl dL_law_400, sq_iconst X.1 (by decide) dL_law_401, sq_lald X.1 dL_law_402, sq_iload X.1 dL_law_403, sq_i2l X.1 dL_law_405, sq_lcmp X.1 dL_law_406, sq_if_eq X.1 (by decide) dL_law_407, sq_iconst X.1 (by decide) dL_law_410, sq_lret X.1 X.2.1 hcl dL_law_411, sq_goto X.1 (by decide) dL_law_412, sq_iinc X.1 (by decide) (by decide) dL_law_827, sq_goto X.1 (by decide) dL_law_830, trivial⟩
  refine wp_sound (ps := [28]) (C := C28 i) tb (fun pc lv st σ' hC => ?_) 100 _ _ _ _ ?_
  · obtain ⟨rfl, hs, rfl, Ds', hv⟩ := hC
    exact K_sub hs (hI σ' Ds' hv)
  refine And.intro (fun _ => ?_) (fun (h : ¬ rd σ 11 0 0 = k9) => absurd h1 h)
  refine And.intro (fun (h : ¬ k9 = 0) => ?_) (fun (h : k9 = 0) => ?_)
  · exact ⟨rfl, ⟨rfl, rfl, rfl, rfl, rfl, by show some (some (aI (nI i + 5))) = some (some (aI (nI (i + 5)))); rw [nI_5], trivial⟩, rfl, Ds, hInv⟩
  · refine And.intro v01 ?_
    have e9 : lg_cmp (rl σ 34 0) b9.toInt64 = 0 := by rw [h2 h]; exact lg_self _
    refine And.intro (fun _ => ?_) (fun (h3 : ¬ lg_cmp (rl σ 34 0) b9.toInt64 = 0) => absurd e9 h3)
    exact ⟨rfl, ⟨rfl, rfl, rfl, rfl, rfl, by show some (some (aI (nI i + 5))) = some (some (aI (nI (i + 5)))); rw [nI_5], trivial⟩, rfl, Ds, hInv⟩
def tbA_run (L : Nat) (xs : Nat → Int32) (W2 : Kt) : List (Nat × Tr) := [(335, tq_ald 1 336), (336, tq_ald 0 337), (337, tq_ild 5 339), (339, tq_push 1 340), (340, tq_iadd 341), (341, tq_sl L xs 342), (342, tq_ald 0 343), (343, tq_ild 5 345), (345, tq_push 2 346), (346, tq_iadd 347), (347, tq_sl L xs 348), (348, tq_ald 0 349), (349, tq_ild 5 351), (351, tq_push 3 352), (352, tq_iadd 353), (353, tq_sl L xs 354), (354, tq_ald 3 355), (355, tq_ch 5 S_wrun 358 W2)]
def tbB_run (L : Nat) (xs : Nat → Int32) : List (Nat × Tr) := [(358, tq_ist 6 360), (360, tq_ald 2 361), (361, tq_ald 0 362), (362, tq_ild 5 364), (364, tq_push 1 365), (365, tq_iadd 366), (366, tq_sl L xs 367), (367, tq_ald 0 368), (368, tq_ild 5 370), (370, tq_push 2 371), (371, tq_iadd 372), (372, tq_sl L xs 373), (373, tq_ald 0 374), (374, tq_ild 5 376), (376, tq_push 3 377), (377, tq_iadd 378), (378, tq_sl L xs 379), (379, tq_cv 5 4 S_runM 382), (382, tq_ist 7 384)]
set_option maxRecDepth 100000 in
theorem cs_run {p : Program} {l : Launch} {e : Env} {s : State} {m : MethodId} {below : List Frame} {meth : Method} {c : Code} {D : va_G} {ad : Nat → Nat → Nat} {cA : Nat → ClassId} {b L : Nat} {xs : Nat → Int32} {cl sl : Nat} (X : LX p l s m meth c D ad cA b L xs) {i : Nat} (hi : i + 5 ≤ L) (hc1 : cl + 1 ≤ 601024 ∧ sl + 6 ≤ 7293034) (hI : ∀ σ' Ds, INV σ' Ds → KL p l e s m below meth c D ad cA b (cl + 1) (sl + 6) 28 (lvH (i + 5)) [] σ') {σ : Mem} {Ds : List Duty} (hInv : INV σ Ds) : KL p l e s m below meth c D ad cA b cl sl 335 (lvH i) [] σ := by
  have hcl := hc1
  have t2 : tabOK (KL p l e s m below meth c D ad cA b (cl + 1) (sl + 6)) (tbB_run L xs) := ⟨sq_istore X.1 (by decide) dL_law_358, sq_aload_n X.1 rfl dL_law_360, sq_aload_n X.1 rfl dL_law_361, sq_iload X.1 dL_law_362, sq_iconst X.1 (by decide) dL_law_364, sq_iadd X.1 dL_law_365, sq_sl X.1 X.2.2.1 X.2.2.2.1 (Nat.not_le.mpr X.2.2.2.1) dL_law_366, sq_aload_n X.1 rfl dL_law_367, sq_iload X.1 dL_law_368, sq_iconst X.1 (by decide) dL_law_370, sq_iadd X.1 dL_law_371, sq_sl X.1 X.2.2.1 X.2.2.2.1 (Nat.not_le.mpr X.2.2.2.1) dL_law_372, sq_aload_n X.1 rfl dL_law_373, sq_iload X.1 dL_law_374, sq_iconst X.1 (by decide) dL_law_376, sq_iadd X.1 dL_law_377, sq_sl X.1 X.2.2.1 X.2.2.2.1 (Nat.not_le.mpr X.2.2.2.1) dL_law_378, sq_cv X.1 (c_runM l) ⟨_, _, rfl⟩ cw_L_73 ⟨rfl, by decide, by decide, by decide +kernel⟩ (by decide +kernel) ⟨by decide, by decide⟩ hcl dL_law_379, sq_istore X.1 (by decide) dL_law_382, trivial⟩
  have hW : ∀ pc lv st σ, wp (tbB_run L xs) [384] (CT 384 i) 100 pc lv st σ → KL p l e s m below meth c D ad cA b (cl + 1) (sl + 6) pc lv st σ := wp_sound t2 (fun pc lv st σ' hC => by
    obtain ⟨rfl, rfl, k9, b9, Ds', hs, h1, h2, hv⟩ := hC
    exact K_sub hs (tl_run X hc1 hI h1 h2 hv)) 100
  have hcl : cl ≤ 601024 ∧ sl ≤ 7293034 := ⟨by omega, by omega⟩
  have t1 : tabOK (KL p l e s m below meth c D ad cA b cl sl) (tbA_run L xs (wp (tbB_run L xs) [384] (CT 384 i) 100)) := ⟨sq_aload_n X.1 rfl dL_law_335, sq_aload_n X.1 rfl dL_law_336, sq_iload X.1 dL_law_337, sq_iconst X.1 (by decide) dL_law_339, sq_iadd X.1 dL_law_340, sq_sl X.1 X.2.2.1 X.2.2.2.1 (Nat.not_le.mpr X.2.2.2.1) dL_law_341, sq_aload_n X.1 rfl dL_law_342, sq_iload X.1 dL_law_343, sq_iconst X.1 (by decide) dL_law_345, sq_iadd X.1 dL_law_346, sq_sl X.1 X.2.2.1 X.2.2.2.1 (Nat.not_le.mpr X.2.2.2.1) dL_law_347, sq_aload_n X.1 rfl dL_law_348, sq_iload X.1 dL_law_349, sq_iconst X.1 (by decide) dL_law_351, sq_iadd X.1 dL_law_352, sq_sl X.1 X.2.2.1 X.2.2.2.1 (Nat.not_le.mpr X.2.2.2.1) dL_law_353, sq_aload_n X.1 rfl dL_law_354, sq_ch X.1 (c_wrun l) X.2.2.2.2.2 ch_L_70 ⟨by decide, by decide, by decide +kernel⟩ (by decide +kernel) ⟨by decide, by decide⟩ hc1 hW dL_law_355, trivial⟩
  refine wp_sound (ps := []) (C := fun _ _ _ _ => False) t1 (fun _ _ _ _ h => h.elim) 100 _ _ _ _ ?_
  have leaf : ∀ (v : Int32) (r : Int32) (σ2 : Mem) (Ds2 : List Duty), rd σ2 11 0 0 = v → (v = 0 → rl σ2 34 0 = r.toInt64) → INV σ2 Ds2 → CT 384 i 384 (lvT i v r) [] σ2 := fun v r σ2 Ds2 h1 h2 h3 => ⟨rfl, rfl, v, r, Ds2, ⟨rfl, rfl, rfl, rfl, rfl, rfl, rfl, rfl, trivial⟩, h1, h2, h3⟩
  obtain ⟨et, en, hD, hM⟩ := id hInv
  have v1 : vp_in (nI i + 1) L := vp_sc (k := 1) hi X.2.2.2.2.1 (by decide)
  have v2 : vp_in (nI i + 2) L := vp_sc (k := 2) hi X.2.2.2.2.1 (by decide)
  have v3 : vp_in (nI i + 3) L := vp_sc (k := 3) hi X.2.2.2.2.1 (by decide)
  refine (And.intro v1 (And.intro v2 (And.intro v3 ?_)))
  refine ⟨rfl, hD.1, fun z => ?_, fun z fn res σ1 e1 e2 e3 e4 => ⟨fun y => ?_, fun r y => ?_⟩⟩
  · refine (And.intro v1 (And.intro v2 (And.intro v3 ?_)))
    exact ⟨hM.1, fun _ σ2 h0 he => leaf 1 0 σ2 Ds h0 (fun h => absurd h (by decide)) (INV_q0 hInv he (by decide) (by decide) (by decide)), fun z9 => absurd (by rw [et, en]; exact z9) z⟩
  · refine (And.intro v1 (And.intro v2 (And.intro v3 ?_)))
    have hI1 := INV_7 hInv e3
    obtain ⟨hM1, tm, nm⟩ := MI_eqx e3 (by decide) hM.1
    subst y
    refine ⟨hM1, fun z9 => absurd (by rw [tm, nm, ← et, ← en]; exact z) z9, fun _ => ⟨fn, none, e1, e2, by rw [tm, ← et]; exact e4, fun σ2 h0 he => leaf 2 _ σ2 Ds h0 (fun h => absurd h (by decide)) (INV_q0 hI1 he (by decide) (by decide) (by decide))⟩⟩
  · refine (And.intro v1 (And.intro v2 (And.intro v3 ?_)))
    have hI1 := INV_7 hInv e3
    obtain ⟨hM1, tm, nm⟩ := MI_eqx e3 (by decide) hM.1
    subst y
    have tm' : tM (wrl σ1 34 0 r.toInt64) = tM σ := tm
    have nm' : nM (wrl σ1 34 0 r.toInt64) = nM σ := nm
    refine ⟨(MD_wrl hI1.2.2.2).1, fun z9 => absurd (by rw [tm', nm', ← et, ← en]; exact z) z9, fun _ => ⟨fn, some r, e1, e2, by rw [tm', ← et]; exact e4, fun σ2 h0 he => leaf 0 r σ2 Ds h0 (fun _ => by rw [he.rl, rl_34]) (INV_q0 (INV_wrl hI1) he (by decide) (by decide) (by decide))⟩⟩

def tbT_promise : List (Nat × Tr) := [(464, tq_ald 2 465), (465, tq_cv 5 1 S_thrown 468), (468, tq_ild 6 470), (470, tq_ic_eq 475 473), (473, tq_push 0 474), (474, tq_lret), (475, tq_ild 6 477), (477, tq_if_ne 492 480), (480, tq_ald 3 481), (481, tq_push 0 482), (482, tq_lald 483), (483, tq_ild 7 485), (485, tq_i2l 486), (486, tq_lcmp 487), (487, tq_if_eq 492 490), (490, tq_push 0 491), (491, tq_lret), (492, tq_goto 827), (827, tq_iinc 5 5 830), (830, tq_goto 28)]
set_option maxRecDepth 100000 in
theorem tl_promise {p : Program} {l : Launch} {e : Env} {s : State} {m : MethodId} {below : List Frame} {meth : Method} {c : Code} {D : va_G} {ad : Nat → Nat → Nat} {cA : Nat → ClassId} {b L : Nat} {xs : Nat → Int32} {cl sl : Nat} (X : LX p l s m meth c D ad cA b L xs) {i : Nat} (hcl : cl ≤ 601024 ∧ sl ≤ 7293034) (hI : ∀ σ' Ds, INV σ' Ds → KL p l e s m below meth c D ad cA b cl sl 28 (lvH (i + 5)) [] σ') {k9 : Int32} {b9 : Int32} {σ : Mem} {Ds : List Duty} (h1 : rd σ 11 0 0 = k9) (h2 : k9 = 0 → rl σ 34 0 = b9.toInt64) (hInv : INV σ Ds) : KL p l e s m below meth c D ad cA b cl sl 464 (lvT i k9 b9) [] σ := by
  have v01 : vp_in 0 1 := vp_in_nI (N := 1) Nat.one_pos (by decide)
  have tb : tabOK (KL p l e s m below meth c D ad cA b cl sl) tbT_promise := ⟨sq_aload_n X.1 rfl dL_law_464, sq_cv X.1 (c_thrown l) ⟨_, _, rfl⟩ cw_L_59 ⟨rfl, by decide, by decide, by decide +kernel⟩ (by decide +kernel) ⟨by decide, by decide⟩ hcl dL_law_465, sq_iload X.1 dL_law_468, sq_ic_eq X.1 (by decide) dL_law_470, sq_iconst X.1 (by decide) dL_law_473, sq_lret X.1 X.2.1 hcl dL_law_474, sq_iload X.1 dL_law_475, sq_if_ne X.1 (by decide) dL_law_477, sq_aload_n X.1 rfl dL_law_480, sq_iconst X.1 (by decide) dL_law_481, sq_lald X.1 dL_law_482, sq_iload X.1 dL_law_483, sq_i2l X.1 dL_law_485, sq_lcmp X.1 dL_law_486, sq_if_eq X.1 (by decide) dL_law_487, sq_iconst X.1 (by decide) dL_law_490, sq_lret X.1 X.2.1 hcl dL_law_491, sq_goto X.1 (by decide) dL_law_492, sq_iinc X.1 (by decide) (by decide) dL_law_827, sq_goto X.1 (by decide) dL_law_830, trivial⟩
  refine wp_sound (ps := [28]) (C := C28 i) tb (fun pc lv st σ' hC => ?_) 100 _ _ _ _ ?_
  · obtain ⟨rfl, hs, rfl, Ds', hv⟩ := hC
    exact K_sub hs (hI σ' Ds' hv)
  refine And.intro (fun _ => ?_) (fun (h : ¬ rd σ 11 0 0 = k9) => absurd h1 h)
  refine And.intro (fun (h : ¬ k9 = 0) => ?_) (fun (h : k9 = 0) => ?_)
  · exact ⟨rfl, ⟨rfl, rfl, rfl, rfl, rfl, by show some (some (aI (nI i + 5))) = some (some (aI (nI (i + 5)))); rw [nI_5], trivial⟩, rfl, Ds, hInv⟩
  · refine And.intro v01 ?_
    have e9 : lg_cmp (rl σ 34 0) b9.toInt64 = 0 := by rw [h2 h]; exact lg_self _
    refine And.intro (fun _ => ?_) (fun (h3 : ¬ lg_cmp (rl σ 34 0) b9.toInt64 = 0) => absurd e9 h3)
    exact ⟨rfl, ⟨rfl, rfl, rfl, rfl, rfl, by show some (some (aI (nI i + 5))) = some (some (aI (nI (i + 5)))); rw [nI_5], trivial⟩, rfl, Ds, hInv⟩
def tbA_promise (L : Nat) (xs : Nat → Int32) (W2 : Kt) : List (Nat × Tr) := [(415, tq_ald 1 416), (416, tq_ald 0 417), (417, tq_ild 5 419), (419, tq_push 1 420), (420, tq_iadd 421), (421, tq_sl L xs 422), (422, tq_ald 0 423), (423, tq_ild 5 425), (425, tq_push 2 426), (426, tq_iadd 427), (427, tq_sl L xs 428), (428, tq_ald 0 429), (429, tq_ild 5 431), (431, tq_push 3 432), (432, tq_iadd 433), (433, tq_sl L xs 434), (434, tq_ald 3 435), (435, tq_ch 5 S_wpromise 438 W2)]
def tbB_promise (L : Nat) (xs : Nat → Int32) : List (Nat × Tr) := [(438, tq_ist 6 440), (440, tq_ald 2 441), (441, tq_ald 0 442), (442, tq_ild 5 444), (444, tq_push 1 445), (445, tq_iadd 446), (446, tq_sl L xs 447), (447, tq_ald 0 448), (448, tq_ild 5 450), (450, tq_push 2 451), (451, tq_iadd 452), (452, tq_sl L xs 453), (453, tq_ald 0 454), (454, tq_ild 5 456), (456, tq_push 3 457), (457, tq_iadd 458), (458, tq_sl L xs 459), (459, tq_cv 5 4 S_promiseM 462), (462, tq_ist 7 464)]
set_option maxRecDepth 100000 in
theorem cs_promise {p : Program} {l : Launch} {e : Env} {s : State} {m : MethodId} {below : List Frame} {meth : Method} {c : Code} {D : va_G} {ad : Nat → Nat → Nat} {cA : Nat → ClassId} {b L : Nat} {xs : Nat → Int32} {cl sl : Nat} (X : LX p l s m meth c D ad cA b L xs) {i : Nat} (hi : i + 5 ≤ L) (hc1 : cl + 1 ≤ 601024 ∧ sl + 6 ≤ 7293034) (hI : ∀ σ' Ds, INV σ' Ds → KL p l e s m below meth c D ad cA b (cl + 1) (sl + 6) 28 (lvH (i + 5)) [] σ') {σ : Mem} {Ds : List Duty} (hInv : INV σ Ds) : KL p l e s m below meth c D ad cA b cl sl 415 (lvH i) [] σ := by
  have hcl := hc1
  have t2 : tabOK (KL p l e s m below meth c D ad cA b (cl + 1) (sl + 6)) (tbB_promise L xs) := ⟨sq_istore X.1 (by decide) dL_law_438, sq_aload_n X.1 rfl dL_law_440, sq_aload_n X.1 rfl dL_law_441, sq_iload X.1 dL_law_442, sq_iconst X.1 (by decide) dL_law_444, sq_iadd X.1 dL_law_445, sq_sl X.1 X.2.2.1 X.2.2.2.1 (Nat.not_le.mpr X.2.2.2.1) dL_law_446, sq_aload_n X.1 rfl dL_law_447, sq_iload X.1 dL_law_448, sq_iconst X.1 (by decide) dL_law_450, sq_iadd X.1 dL_law_451, sq_sl X.1 X.2.2.1 X.2.2.2.1 (Nat.not_le.mpr X.2.2.2.1) dL_law_452, sq_aload_n X.1 rfl dL_law_453, sq_iload X.1 dL_law_454, sq_iconst X.1 (by decide) dL_law_456, sq_iadd X.1 dL_law_457, sq_sl X.1 X.2.2.1 X.2.2.2.1 (Nat.not_le.mpr X.2.2.2.1) dL_law_458, sq_cv X.1 (c_promiseM l) ⟨_, _, rfl⟩ cw_L_76 ⟨rfl, by decide, by decide, by decide +kernel⟩ (by decide +kernel) ⟨by decide, by decide⟩ hcl dL_law_459, sq_istore X.1 (by decide) dL_law_462, trivial⟩
  have hW : ∀ pc lv st σ, wp (tbB_promise L xs) [464] (CT 464 i) 100 pc lv st σ → KL p l e s m below meth c D ad cA b (cl + 1) (sl + 6) pc lv st σ := wp_sound t2 (fun pc lv st σ' hC => by
    obtain ⟨rfl, rfl, k9, b9, Ds', hs, h1, h2, hv⟩ := hC
    exact K_sub hs (tl_promise X hc1 hI h1 h2 hv)) 100
  have hcl : cl ≤ 601024 ∧ sl ≤ 7293034 := ⟨by omega, by omega⟩
  have t1 : tabOK (KL p l e s m below meth c D ad cA b cl sl) (tbA_promise L xs (wp (tbB_promise L xs) [464] (CT 464 i) 100)) := ⟨sq_aload_n X.1 rfl dL_law_415, sq_aload_n X.1 rfl dL_law_416, sq_iload X.1 dL_law_417, sq_iconst X.1 (by decide) dL_law_419, sq_iadd X.1 dL_law_420, sq_sl X.1 X.2.2.1 X.2.2.2.1 (Nat.not_le.mpr X.2.2.2.1) dL_law_421, sq_aload_n X.1 rfl dL_law_422, sq_iload X.1 dL_law_423, sq_iconst X.1 (by decide) dL_law_425, sq_iadd X.1 dL_law_426, sq_sl X.1 X.2.2.1 X.2.2.2.1 (Nat.not_le.mpr X.2.2.2.1) dL_law_427, sq_aload_n X.1 rfl dL_law_428, sq_iload X.1 dL_law_429, sq_iconst X.1 (by decide) dL_law_431, sq_iadd X.1 dL_law_432, sq_sl X.1 X.2.2.1 X.2.2.2.1 (Nat.not_le.mpr X.2.2.2.1) dL_law_433, sq_aload_n X.1 rfl dL_law_434, sq_ch X.1 (c_wpromise l) X.2.2.2.2.2 ch_L_74 ⟨by decide, by decide, by decide +kernel⟩ (by decide +kernel) ⟨by decide, by decide⟩ hc1 hW dL_law_435, trivial⟩
  refine wp_sound (ps := []) (C := fun _ _ _ _ => False) t1 (fun _ _ _ _ h => h.elim) 100 _ _ _ _ ?_
  have leaf : ∀ (v : Int32) (r : Int32) (σ2 : Mem) (Ds2 : List Duty), rd σ2 11 0 0 = v → (v = 0 → rl σ2 34 0 = r.toInt64) → INV σ2 Ds2 → CT 464 i 464 (lvT i v r) [] σ2 := fun v r σ2 Ds2 h1 h2 h3 => ⟨rfl, rfl, v, r, Ds2, ⟨rfl, rfl, rfl, rfl, rfl, rfl, rfl, rfl, trivial⟩, h1, h2, h3⟩
  obtain ⟨et, en, hD, hM⟩ := id hInv
  have v1 : vp_in (nI i + 1) L := vp_sc (k := 1) hi X.2.2.2.2.1 (by decide)
  have v2 : vp_in (nI i + 2) L := vp_sc (k := 2) hi X.2.2.2.2.1 (by decide)
  have v3 : vp_in (nI i + 3) L := vp_sc (k := 3) hi X.2.2.2.2.1 (by decide)
  refine (And.intro v1 (And.intro v2 (And.intro v3 ?_)))
  refine ⟨rfl, hD.1, fun z => ?_, fun z => ⟨fun y => ?_, fun y σ1 g1 g2 => ?_⟩⟩
  · refine (And.intro v1 (And.intro v2 (And.intro v3 ?_)))
    exact ⟨hM.1, fun _ => leaf 1 0 _ Ds rfl (fun h => absurd h (by decide)) (INV_ref 1 hInv), fun z9 => absurd (by rw [et, en]; exact z9) z⟩
  · refine (And.intro v1 (And.intro v2 (And.intro v3 ?_)))
    refine ⟨hM.1, fun z9 => absurd (by rw [← et, ← en]; exact z) z9, fun _ => ⟨fun _ σ2 h0 he => leaf 2 0 σ2 Ds h0 (fun h => absurd h (by decide)) (INV_gs hInv he), fun y9 => ?_⟩⟩
    rw [← et] at y9
    exact absurd y (Nat.not_lt.mpr y9)
  · refine (And.intro v1 (And.intro v2 (And.intro v3 ?_)))
    obtain ⟨q1, q2, q3, q4⟩ := INV_pr (v := (nI (allD (tC σ) (xs (ix (nI i + 1))) (xs (ix (nI i + 2))) (xs (ix (nI i + 3)))).length).toInt64) hInv g1
    refine ⟨q1, fun z9 => absurd (by rw [q2, q3]; exact z) z9, fun _ => ⟨fun y9 => ?_, fun y9 σ2 h0 hP h31 he => ?_⟩⟩
    · rw [q2] at y9
      exact absurd y9 (Nat.not_lt.mpr y)
    · rw [q2] at hP h31 y9
      obtain ⟨r1, r2⟩ := q4 _ σ2 g2 y hP h31 he
      rw [q2]
      exact leaf 0 _ σ2 _ h0 (fun _ => r2) r1

def tbT_kept : List (Nat × Tr) := [(532, tq_ald 2 533), (533, tq_cv 5 1 S_thrown 536), (536, tq_ild 6 538), (538, tq_ic_eq 543 541), (541, tq_push 0 542), (542, tq_lret), (543, tq_ild 6 545), (545, tq_if_ne 567 548), (548, tq_ald 3 549), (549, tq_push 0 550), (550, tq_lald 551), (551, tq_ild 7 553), (553, tq_if_eq 560 556), (556, tq_pushL 1 557), (557, tq_goto 561), (560, tq_pushL 0 561), (561, tq_lcmp 562), (562, tq_if_eq 567 565), (565, tq_push 0 566), (566, tq_lret), (567, tq_goto 827), (827, tq_iinc 5 5 830), (830, tq_goto 28)]
set_option maxRecDepth 100000 in
theorem tl_kept {p : Program} {l : Launch} {e : Env} {s : State} {m : MethodId} {below : List Frame} {meth : Method} {c : Code} {D : va_G} {ad : Nat → Nat → Nat} {cA : Nat → ClassId} {b L : Nat} {xs : Nat → Int32} {cl sl : Nat} (X : LX p l s m meth c D ad cA b L xs) {i : Nat} (hcl : cl ≤ 601024 ∧ sl ≤ 7293034) (hI : ∀ σ' Ds, INV σ' Ds → KL p l e s m below meth c D ad cA b cl sl 28 (lvH (i + 5)) [] σ') {k9 : Int32} {b9 : Int32} {σ : Mem} {Ds : List Duty} (h1 : rd σ 11 0 0 = k9) (h2 : k9 = 0 → rl σ 34 0 = (if b9 = 0 then 0 else 1)) (hInv : INV σ Ds) : KL p l e s m below meth c D ad cA b cl sl 532 (lvT i k9 b9) [] σ := by
  have v01 : vp_in 0 1 := vp_in_nI (N := 1) Nat.one_pos (by decide)
  have tb : tabOK (KL p l e s m below meth c D ad cA b cl sl) tbT_kept := ⟨sq_aload_n X.1 rfl dL_law_532, sq_cv X.1 (c_thrown l) ⟨_, _, rfl⟩ cw_L_59 ⟨rfl, by decide, by decide, by decide +kernel⟩ (by decide +kernel) ⟨by decide, by decide⟩ hcl dL_law_533, sq_iload X.1 dL_law_536, sq_ic_eq X.1 (by decide) dL_law_538, sq_iconst X.1 (by decide) dL_law_541, sq_lret X.1 X.2.1 hcl dL_law_542, sq_iload X.1 dL_law_543, sq_if_ne X.1 (by decide) dL_law_545, sq_aload_n X.1 rfl dL_law_548, sq_iconst X.1 (by decide) dL_law_549, sq_lald X.1 dL_law_550, sq_iload X.1 dL_law_551, sq_if_eq X.1 (by decide) dL_law_553, sq_lconst X.1 (by decide) dL_law_556, sq_goto X.1 (by decide) dL_law_557, sq_lconst X.1 (by decide) dL_law_560, sq_lcmp X.1 dL_law_561, sq_if_eq X.1 (by decide) dL_law_562, sq_iconst X.1 (by decide) dL_law_565, sq_lret X.1 X.2.1 hcl dL_law_566, sq_goto X.1 (by decide) dL_law_567, sq_iinc X.1 (by decide) (by decide) dL_law_827, sq_goto X.1 (by decide) dL_law_830, trivial⟩
  refine wp_sound (ps := [28]) (C := C28 i) tb (fun pc lv st σ' hC => ?_) 100 _ _ _ _ ?_
  · obtain ⟨rfl, hs, rfl, Ds', hv⟩ := hC
    exact K_sub hs (hI σ' Ds' hv)
  refine And.intro (fun _ => ?_) (fun (h : ¬ rd σ 11 0 0 = k9) => absurd h1 h)
  refine And.intro (fun (h : ¬ k9 = 0) => ?_) (fun (h : k9 = 0) => ?_)
  · exact ⟨rfl, ⟨rfl, rfl, rfl, rfl, rfl, by show some (some (aI (nI i + 5))) = some (some (aI (nI (i + 5)))); rw [nI_5], trivial⟩, rfl, Ds, hInv⟩
  · have h2 := h2 h
    refine And.intro v01 ?_
    refine And.intro (fun (hb : b9 = 0) => ?_) (fun (hb : ¬ b9 = 0) => ?_)
    · rw [if_pos hb] at h2
      have e9 : lg_cmp (rl σ 34 0) 0 = 0 := by rw [h2]; exact lg_self _
      refine And.intro (fun _ => ?_) (fun (h3 : ¬ lg_cmp (rl σ 34 0) 0 = 0) => absurd e9 h3)
      exact ⟨rfl, ⟨rfl, rfl, rfl, rfl, rfl, by show some (some (aI (nI i + 5))) = some (some (aI (nI (i + 5)))); rw [nI_5], trivial⟩, rfl, Ds, hInv⟩
    · rw [if_neg hb] at h2
      have e9 : lg_cmp (rl σ 34 0) 1 = 0 := by rw [h2]; exact lg_self _
      refine And.intro (fun _ => ?_) (fun (h3 : ¬ lg_cmp (rl σ 34 0) 1 = 0) => absurd e9 h3)
      exact ⟨rfl, ⟨rfl, rfl, rfl, rfl, rfl, by show some (some (aI (nI i + 5))) = some (some (aI (nI (i + 5)))); rw [nI_5], trivial⟩, rfl, Ds, hInv⟩
def tbA_kept (L : Nat) (xs : Nat → Int32) (W2 : Kt) : List (Nat × Tr) := [(495, tq_ald 1 496), (496, tq_ald 0 497), (497, tq_ild 5 499), (499, tq_push 1 500), (500, tq_iadd 501), (501, tq_sl L xs 502), (502, tq_ald 0 503), (503, tq_ild 5 505), (505, tq_push 2 506), (506, tq_iadd 507), (507, tq_sl L xs 508), (508, tq_ald 3 509), (509, tq_ch 4 S_wkept 512 W2)]
def tbB_kept (L : Nat) (xs : Nat → Int32) : List (Nat × Tr) := [(512, tq_ist 6 514), (514, tq_ald 2 515), (515, tq_ald 0 516), (516, tq_ild 5 518), (518, tq_push 1 519), (519, tq_iadd 520), (520, tq_sl L xs 521), (521, tq_ald 0 522), (522, tq_ild 5 524), (524, tq_push 2 525), (525, tq_iadd 526), (526, tq_sl L xs 527), (527, tq_cv 5 3 S_keptM 530), (530, tq_ist 7 532)]
set_option maxRecDepth 100000 in
theorem cs_kept {p : Program} {l : Launch} {e : Env} {s : State} {m : MethodId} {below : List Frame} {meth : Method} {c : Code} {D : va_G} {ad : Nat → Nat → Nat} {cA : Nat → ClassId} {b L : Nat} {xs : Nat → Int32} {cl sl : Nat} (X : LX p l s m meth c D ad cA b L xs) {i : Nat} (hi : i + 5 ≤ L) (hc1 : cl + 1 ≤ 601024 ∧ sl + 6 ≤ 7293034) (hI : ∀ σ' Ds, INV σ' Ds → KL p l e s m below meth c D ad cA b (cl + 1) (sl + 6) 28 (lvH (i + 5)) [] σ') {σ : Mem} {Ds : List Duty} (hInv : INV σ Ds) : KL p l e s m below meth c D ad cA b cl sl 495 (lvH i) [] σ := by
  have hcl := hc1
  have t2 : tabOK (KL p l e s m below meth c D ad cA b (cl + 1) (sl + 6)) (tbB_kept L xs) := ⟨sq_istore X.1 (by decide) dL_law_512, sq_aload_n X.1 rfl dL_law_514, sq_aload_n X.1 rfl dL_law_515, sq_iload X.1 dL_law_516, sq_iconst X.1 (by decide) dL_law_518, sq_iadd X.1 dL_law_519, sq_sl X.1 X.2.2.1 X.2.2.2.1 (Nat.not_le.mpr X.2.2.2.1) dL_law_520, sq_aload_n X.1 rfl dL_law_521, sq_iload X.1 dL_law_522, sq_iconst X.1 (by decide) dL_law_524, sq_iadd X.1 dL_law_525, sq_sl X.1 X.2.2.1 X.2.2.2.1 (Nat.not_le.mpr X.2.2.2.1) dL_law_526, sq_cv X.1 (c_keptM l) ⟨_, _, rfl⟩ cw_L_79 ⟨rfl, by decide, by decide, by decide +kernel⟩ (by decide +kernel) ⟨by decide, by decide⟩ hcl dL_law_527, sq_istore X.1 (by decide) dL_law_530, trivial⟩
  have hW : ∀ pc lv st σ, wp (tbB_kept L xs) [532] (CZ 532 i) 100 pc lv st σ → KL p l e s m below meth c D ad cA b (cl + 1) (sl + 6) pc lv st σ := wp_sound t2 (fun pc lv st σ' hC => by
    obtain ⟨rfl, rfl, k9, b9, Ds', hs, h1, h2, hv⟩ := hC
    exact K_sub hs (tl_kept X hc1 hI h1 h2 hv)) 100
  have hcl : cl ≤ 601024 ∧ sl ≤ 7293034 := ⟨by omega, by omega⟩
  have t1 : tabOK (KL p l e s m below meth c D ad cA b cl sl) (tbA_kept L xs (wp (tbB_kept L xs) [532] (CZ 532 i) 100)) := ⟨sq_aload_n X.1 rfl dL_law_495, sq_aload_n X.1 rfl dL_law_496, sq_iload X.1 dL_law_497, sq_iconst X.1 (by decide) dL_law_499, sq_iadd X.1 dL_law_500, sq_sl X.1 X.2.2.1 X.2.2.2.1 (Nat.not_le.mpr X.2.2.2.1) dL_law_501, sq_aload_n X.1 rfl dL_law_502, sq_iload X.1 dL_law_503, sq_iconst X.1 (by decide) dL_law_505, sq_iadd X.1 dL_law_506, sq_sl X.1 X.2.2.1 X.2.2.2.1 (Nat.not_le.mpr X.2.2.2.1) dL_law_507, sq_aload_n X.1 rfl dL_law_508, sq_ch X.1 (c_wkept l) X.2.2.2.2.2 ch_L_77 ⟨by decide, by decide, by decide +kernel⟩ (by decide +kernel) ⟨by decide, by decide⟩ hc1 hW dL_law_509, trivial⟩
  refine wp_sound (ps := []) (C := fun _ _ _ _ => False) t1 (fun _ _ _ _ h => h.elim) 100 _ _ _ _ ?_
  have leaf : ∀ (v : Int32) (r : Int32) (σ2 : Mem) (Ds2 : List Duty), rd σ2 11 0 0 = v → (v = 0 → rl σ2 34 0 = (if r = 0 then 0 else 1)) → INV σ2 Ds2 → CZ 532 i 532 (lvT i v r) [] σ2 := fun v r σ2 Ds2 h1 h2 h3 => ⟨rfl, rfl, v, r, Ds2, ⟨rfl, rfl, rfl, rfl, rfl, rfl, rfl, rfl, trivial⟩, h1, h2, h3⟩
  obtain ⟨et, en, hD, hM⟩ := id hInv
  have v1 : vp_in (nI i + 1) L := vp_sc (k := 1) hi X.2.2.2.2.1 (by decide)
  have v2 : vp_in (nI i + 2) L := vp_sc (k := 2) hi X.2.2.2.2.1 (by decide)
  refine (And.intro v1 (And.intro v2 ?_))
  refine ⟨rfl, Ds, hD, fun z => ?_, fun z y => ?_, fun z y E hE => ?_⟩
  · refine (And.intro v1 (And.intro v2 ?_))
    exact ⟨Ds, hM, fun _ => leaf 1 0 _ Ds rfl (fun h => absurd h (by decide)) (INV_ref 1 hInv), fun z9 => absurd z9 z, fun z9 => absurd z9 z⟩
  · refine (And.intro v1 (And.intro v2 ?_))
    exact ⟨Ds, hM, fun z9 => absurd z z9, fun _ _ => leaf 2 0 _ Ds rfl (fun h => absurd h (by decide)) (INV_ref 2 hInv), fun _ y9 => absurd y9 y⟩
  · refine (And.intro v1 (And.intro v2 ?_))
    refine ⟨Ds, MD_wrl hM, fun z9 => absurd z z9, fun _ y9 => absurd y y9, fun _ _ E9 hE9 σ2 h0 he => leaf 0 _ σ2 Ds h0 (fun _ => ?_) (INV_q0 (INV_wrl hInv) he (by decide) (by decide) (by decide))⟩
    have : E9 = E := Option.some.inj (hE9.symm.trans hE)
    rw [he.rl, rl_34, et, this]
    rfl

def tbT_decide : List (Nat × Tr) := [(595, tq_ald 2 596), (596, tq_cv 5 1 S_thrown 599), (599, tq_ild 6 601), (601, tq_ic_eq 606 604), (604, tq_push 0 605), (605, tq_lret), (606, tq_ild 6 608), (608, tq_if_ne 623 611), (611, tq_ald 3 612), (612, tq_push 0 613), (613, tq_lald 614), (614, tq_ild 7 616), (616, tq_i2l 617), (617, tq_lcmp 618), (618, tq_if_eq 623 621), (621, tq_push 0 622), (622, tq_lret), (623, tq_goto 827), (827, tq_iinc 5 5 830), (830, tq_goto 28)]
set_option maxRecDepth 100000 in
theorem tl_decide {p : Program} {l : Launch} {e : Env} {s : State} {m : MethodId} {below : List Frame} {meth : Method} {c : Code} {D : va_G} {ad : Nat → Nat → Nat} {cA : Nat → ClassId} {b L : Nat} {xs : Nat → Int32} {cl sl : Nat} (X : LX p l s m meth c D ad cA b L xs) {i : Nat} (hcl : cl ≤ 601024 ∧ sl ≤ 7293034) (hI : ∀ σ' Ds, INV σ' Ds → KL p l e s m below meth c D ad cA b cl sl 28 (lvH (i + 5)) [] σ') {k9 : Int32} {b9 : Int32} {σ : Mem} {Ds : List Duty} (h1 : rd σ 11 0 0 = k9) (h2 : k9 = 0 → rl σ 34 0 = b9.toInt64) (hInv : INV σ Ds) : KL p l e s m below meth c D ad cA b cl sl 595 (lvT i k9 b9) [] σ := by
  have v01 : vp_in 0 1 := vp_in_nI (N := 1) Nat.one_pos (by decide)
  have tb : tabOK (KL p l e s m below meth c D ad cA b cl sl) tbT_decide := ⟨sq_aload_n X.1 rfl dL_law_595, sq_cv X.1 (c_thrown l) ⟨_, _, rfl⟩ cw_L_59 ⟨rfl, by decide, by decide, by decide +kernel⟩ (by decide +kernel) ⟨by decide, by decide⟩ hcl dL_law_596, sq_iload X.1 dL_law_599, sq_ic_eq X.1 (by decide) dL_law_601, sq_iconst X.1 (by decide) dL_law_604, sq_lret X.1 X.2.1 hcl dL_law_605, sq_iload X.1 dL_law_606, sq_if_ne X.1 (by decide) dL_law_608, sq_aload_n X.1 rfl dL_law_611, sq_iconst X.1 (by decide) dL_law_612, sq_lald X.1 dL_law_613, sq_iload X.1 dL_law_614, sq_i2l X.1 dL_law_616, sq_lcmp X.1 dL_law_617, sq_if_eq X.1 (by decide) dL_law_618, sq_iconst X.1 (by decide) dL_law_621, sq_lret X.1 X.2.1 hcl dL_law_622, sq_goto X.1 (by decide) dL_law_623, sq_iinc X.1 (by decide) (by decide) dL_law_827, sq_goto X.1 (by decide) dL_law_830, trivial⟩
  refine wp_sound (ps := [28]) (C := C28 i) tb (fun pc lv st σ' hC => ?_) 100 _ _ _ _ ?_
  · obtain ⟨rfl, hs, rfl, Ds', hv⟩ := hC
    exact K_sub hs (hI σ' Ds' hv)
  refine And.intro (fun _ => ?_) (fun (h : ¬ rd σ 11 0 0 = k9) => absurd h1 h)
  refine And.intro (fun (h : ¬ k9 = 0) => ?_) (fun (h : k9 = 0) => ?_)
  · exact ⟨rfl, ⟨rfl, rfl, rfl, rfl, rfl, by show some (some (aI (nI i + 5))) = some (some (aI (nI (i + 5)))); rw [nI_5], trivial⟩, rfl, Ds, hInv⟩
  · refine And.intro v01 ?_
    have e9 : lg_cmp (rl σ 34 0) b9.toInt64 = 0 := by rw [h2 h]; exact lg_self _
    refine And.intro (fun _ => ?_) (fun (h3 : ¬ lg_cmp (rl σ 34 0) b9.toInt64 = 0) => absurd e9 h3)
    exact ⟨rfl, ⟨rfl, rfl, rfl, rfl, rfl, by show some (some (aI (nI i + 5))) = some (some (aI (nI (i + 5)))); rw [nI_5], trivial⟩, rfl, Ds, hInv⟩
def tbA_decide (L : Nat) (xs : Nat → Int32) (W2 : Kt) : List (Nat × Tr) := [(570, tq_ald 1 571), (571, tq_ald 0 572), (572, tq_ild 5 574), (574, tq_push 1 575), (575, tq_iadd 576), (576, tq_sl L xs 577), (577, tq_ald 3 578), (578, tq_ch 3 S_wdecide 581 W2)]
def tbB_decide (L : Nat) (xs : Nat → Int32) : List (Nat × Tr) := [(581, tq_ist 6 583), (583, tq_ald 2 584), (584, tq_ald 0 585), (585, tq_ild 5 587), (587, tq_push 1 588), (588, tq_iadd 589), (589, tq_sl L xs 590), (590, tq_cv 5 2 S_decideM 593), (593, tq_ist 7 595)]
set_option maxRecDepth 100000 in
theorem cs_decide {p : Program} {l : Launch} {e : Env} {s : State} {m : MethodId} {below : List Frame} {meth : Method} {c : Code} {D : va_G} {ad : Nat → Nat → Nat} {cA : Nat → ClassId} {b L : Nat} {xs : Nat → Int32} {cl sl : Nat} (X : LX p l s m meth c D ad cA b L xs) {i : Nat} (hi : i + 5 ≤ L) (hc1 : cl + 1 ≤ 601024 ∧ sl + 6 ≤ 7293034) (hI : ∀ σ' Ds, INV σ' Ds → KL p l e s m below meth c D ad cA b (cl + 1) (sl + 6) 28 (lvH (i + 5)) [] σ') {σ : Mem} {Ds : List Duty} (hInv : INV σ Ds) : KL p l e s m below meth c D ad cA b cl sl 570 (lvH i) [] σ := by
  have hcl := hc1
  have t2 : tabOK (KL p l e s m below meth c D ad cA b (cl + 1) (sl + 6)) (tbB_decide L xs) := ⟨sq_istore X.1 (by decide) dL_law_581, sq_aload_n X.1 rfl dL_law_583, sq_aload_n X.1 rfl dL_law_584, sq_iload X.1 dL_law_585, sq_iconst X.1 (by decide) dL_law_587, sq_iadd X.1 dL_law_588, sq_sl X.1 X.2.2.1 X.2.2.2.1 (Nat.not_le.mpr X.2.2.2.1) dL_law_589, sq_cv X.1 (c_decideM l) ⟨_, _, rfl⟩ cw_L_83 ⟨rfl, by decide, by decide, by decide +kernel⟩ (by decide +kernel) ⟨by decide, by decide⟩ hcl dL_law_590, sq_istore X.1 (by decide) dL_law_593, trivial⟩
  have hW : ∀ pc lv st σ, wp (tbB_decide L xs) [595] (CT 595 i) 100 pc lv st σ → KL p l e s m below meth c D ad cA b (cl + 1) (sl + 6) pc lv st σ := wp_sound t2 (fun pc lv st σ' hC => by
    obtain ⟨rfl, rfl, k9, b9, Ds', hs, h1, h2, hv⟩ := hC
    exact K_sub hs (tl_decide X hc1 hI h1 h2 hv)) 100
  have hcl : cl ≤ 601024 ∧ sl ≤ 7293034 := ⟨by omega, by omega⟩
  have t1 : tabOK (KL p l e s m below meth c D ad cA b cl sl) (tbA_decide L xs (wp (tbB_decide L xs) [595] (CT 595 i) 100)) := ⟨sq_aload_n X.1 rfl dL_law_570, sq_aload_n X.1 rfl dL_law_571, sq_iload X.1 dL_law_572, sq_iconst X.1 (by decide) dL_law_574, sq_iadd X.1 dL_law_575, sq_sl X.1 X.2.2.1 X.2.2.2.1 (Nat.not_le.mpr X.2.2.2.1) dL_law_576, sq_aload_n X.1 rfl dL_law_577, sq_ch X.1 (c_wdecide l) X.2.2.2.2.2 ch_L_80 ⟨by decide, by decide, by decide +kernel⟩ (by decide +kernel) ⟨by decide, by decide⟩ hc1 hW dL_law_578, trivial⟩
  refine wp_sound (ps := []) (C := fun _ _ _ _ => False) t1 (fun _ _ _ _ h => h.elim) 100 _ _ _ _ ?_
  have leaf : ∀ (v : Int32) (r : Int32) (σ2 : Mem) (Ds2 : List Duty), rd σ2 11 0 0 = v → (v = 0 → rl σ2 34 0 = r.toInt64) → INV σ2 Ds2 → CT 595 i 595 (lvT i v r) [] σ2 := fun v r σ2 Ds2 h1 h2 h3 => ⟨rfl, rfl, v, r, Ds2, ⟨rfl, rfl, rfl, rfl, rfl, rfl, rfl, rfl, trivial⟩, h1, h2, h3⟩
  obtain ⟨et, en, hD, hM⟩ := id hInv
  have v1 : vp_in (nI i + 1) L := vp_sc (k := 1) hi X.2.2.2.2.1 (by decide)
  refine (And.intro v1 ?_)
  refine ⟨rfl, Ds, hD, fun y => ?_, fun y E hE => ?_⟩
  · refine (And.intro v1 ?_)
    exact ⟨Ds, hM, fun _ => leaf 1 0 _ Ds rfl (fun h => absurd h (by decide)) (INV_ref 1 hInv), fun y9 => absurd y9 y⟩
  · refine (And.intro v1 ?_)
    refine ⟨Ds, MD_wrl hM, fun y9 => absurd y y9, fun _ E9 hE9 σ2 h0 he hM2 => leaf 0 _ σ2 Ds h0 (fun _ => ?_) (INV_q (INV_wrl hInv) he (by decide) (by decide) hM2)⟩
    have : E9 = E := Option.some.inj (hE9.symm.trans hE)
    rw [he.rl, rl_34, et, this]
    rfl

def tbT_broken : List (Nat × Tr) := [(675, tq_ald 2 676), (676, tq_cv 5 1 S_thrown 679), (679, tq_ild 6 681), (681, tq_ic_eq 686 684), (684, tq_push 0 685), (685, tq_lret), (686, tq_ild 6 688), (688, tq_if_ne 703 691), (691, tq_ald 3 692), (692, tq_push 0 693), (693, tq_lald 694), (694, tq_ild 7 696), (696, tq_i2l 697), (697, tq_lcmp 698), (698, tq_if_eq 703 701), (701, tq_push 0 702), (702, tq_lret), (703, tq_goto 827), (827, tq_iinc 5 5 830), (830, tq_goto 28)]
set_option maxRecDepth 100000 in
theorem tl_broken {p : Program} {l : Launch} {e : Env} {s : State} {m : MethodId} {below : List Frame} {meth : Method} {c : Code} {D : va_G} {ad : Nat → Nat → Nat} {cA : Nat → ClassId} {b L : Nat} {xs : Nat → Int32} {cl sl : Nat} (X : LX p l s m meth c D ad cA b L xs) {i : Nat} (hcl : cl ≤ 601024 ∧ sl ≤ 7293034) (hI : ∀ σ' Ds, INV σ' Ds → KL p l e s m below meth c D ad cA b cl sl 28 (lvH (i + 5)) [] σ') {k9 : Int32} {b9 : Int32} {σ : Mem} {Ds : List Duty} (h1 : rd σ 11 0 0 = k9) (h2 : k9 = 0 → rl σ 34 0 = b9.toInt64) (hInv : INV σ Ds) : KL p l e s m below meth c D ad cA b cl sl 675 (lvT i k9 b9) [] σ := by
  have v01 : vp_in 0 1 := vp_in_nI (N := 1) Nat.one_pos (by decide)
  have tb : tabOK (KL p l e s m below meth c D ad cA b cl sl) tbT_broken := ⟨sq_aload_n X.1 rfl dL_law_675, sq_cv X.1 (c_thrown l) ⟨_, _, rfl⟩ cw_L_59 ⟨rfl, by decide, by decide, by decide +kernel⟩ (by decide +kernel) ⟨by decide, by decide⟩ hcl dL_law_676, sq_iload X.1 dL_law_679, sq_ic_eq X.1 (by decide) dL_law_681, sq_iconst X.1 (by decide) dL_law_684, sq_lret X.1 X.2.1 hcl dL_law_685, sq_iload X.1 dL_law_686, sq_if_ne X.1 (by decide) dL_law_688, sq_aload_n X.1 rfl dL_law_691, sq_iconst X.1 (by decide) dL_law_692, sq_lald X.1 dL_law_693, sq_iload X.1 dL_law_694, sq_i2l X.1 dL_law_696, sq_lcmp X.1 dL_law_697, sq_if_eq X.1 (by decide) dL_law_698, sq_iconst X.1 (by decide) dL_law_701, sq_lret X.1 X.2.1 hcl dL_law_702, sq_goto X.1 (by decide) dL_law_703, sq_iinc X.1 (by decide) (by decide) dL_law_827, sq_goto X.1 (by decide) dL_law_830, trivial⟩
  refine wp_sound (ps := [28]) (C := C28 i) tb (fun pc lv st σ' hC => ?_) 100 _ _ _ _ ?_
  · obtain ⟨rfl, hs, rfl, Ds', hv⟩ := hC
    exact K_sub hs (hI σ' Ds' hv)
  refine And.intro (fun _ => ?_) (fun (h : ¬ rd σ 11 0 0 = k9) => absurd h1 h)
  refine And.intro (fun (h : ¬ k9 = 0) => ?_) (fun (h : k9 = 0) => ?_)
  · exact ⟨rfl, ⟨rfl, rfl, rfl, rfl, rfl, by show some (some (aI (nI i + 5))) = some (some (aI (nI (i + 5)))); rw [nI_5], trivial⟩, rfl, Ds, hInv⟩
  · refine And.intro v01 ?_
    have e9 : lg_cmp (rl σ 34 0) b9.toInt64 = 0 := by rw [h2 h]; exact lg_self _
    refine And.intro (fun _ => ?_) (fun (h3 : ¬ lg_cmp (rl σ 34 0) b9.toInt64 = 0) => absurd e9 h3)
    exact ⟨rfl, ⟨rfl, rfl, rfl, rfl, rfl, by show some (some (aI (nI i + 5))) = some (some (aI (nI (i + 5)))); rw [nI_5], trivial⟩, rfl, Ds, hInv⟩
def tbA_broken (L : Nat) (xs : Nat → Int32) (W2 : Kt) : List (Nat × Tr) := [(626, tq_ald 1 627), (627, tq_ald 0 628), (628, tq_ild 5 630), (630, tq_push 1 631), (631, tq_iadd 632), (632, tq_sl L xs 633), (633, tq_ald 0 634), (634, tq_ild 5 636), (636, tq_push 2 637), (637, tq_iadd 638), (638, tq_sl L xs 639), (639, tq_ald 0 640), (640, tq_ild 5 642), (642, tq_push 3 643), (643, tq_iadd 644), (644, tq_sl L xs 645), (645, tq_ald 3 646), (646, tq_ch 5 S_wbroken 649 W2)]
def tbB_broken (L : Nat) (xs : Nat → Int32) : List (Nat × Tr) := [(649, tq_ist 6 651), (651, tq_ald 2 652), (652, tq_ald 0 653), (653, tq_ild 5 655), (655, tq_push 1 656), (656, tq_iadd 657), (657, tq_sl L xs 658), (658, tq_ald 0 659), (659, tq_ild 5 661), (661, tq_push 2 662), (662, tq_iadd 663), (663, tq_sl L xs 664), (664, tq_ald 0 665), (665, tq_ild 5 667), (667, tq_push 3 668), (668, tq_iadd 669), (669, tq_sl L xs 670), (670, tq_cv 5 4 S_brokenM 673), (673, tq_ist 7 675)]
set_option maxRecDepth 100000 in
theorem cs_broken {p : Program} {l : Launch} {e : Env} {s : State} {m : MethodId} {below : List Frame} {meth : Method} {c : Code} {D : va_G} {ad : Nat → Nat → Nat} {cA : Nat → ClassId} {b L : Nat} {xs : Nat → Int32} {cl sl : Nat} (X : LX p l s m meth c D ad cA b L xs) {i : Nat} (hi : i + 5 ≤ L) (hc1 : cl + 1 ≤ 601024 ∧ sl + 6 ≤ 7293034) (hI : ∀ σ' Ds, INV σ' Ds → KL p l e s m below meth c D ad cA b (cl + 1) (sl + 6) 28 (lvH (i + 5)) [] σ') {σ : Mem} {Ds : List Duty} (hInv : INV σ Ds) : KL p l e s m below meth c D ad cA b cl sl 626 (lvH i) [] σ := by
  have hcl := hc1
  have t2 : tabOK (KL p l e s m below meth c D ad cA b (cl + 1) (sl + 6)) (tbB_broken L xs) := ⟨sq_istore X.1 (by decide) dL_law_649, sq_aload_n X.1 rfl dL_law_651, sq_aload_n X.1 rfl dL_law_652, sq_iload X.1 dL_law_653, sq_iconst X.1 (by decide) dL_law_655, sq_iadd X.1 dL_law_656, sq_sl X.1 X.2.2.1 X.2.2.2.1 (Nat.not_le.mpr X.2.2.2.1) dL_law_657, sq_aload_n X.1 rfl dL_law_658, sq_iload X.1 dL_law_659, sq_iconst X.1 (by decide) dL_law_661, sq_iadd X.1 dL_law_662, sq_sl X.1 X.2.2.1 X.2.2.2.1 (Nat.not_le.mpr X.2.2.2.1) dL_law_663, sq_aload_n X.1 rfl dL_law_664, sq_iload X.1 dL_law_665, sq_iconst X.1 (by decide) dL_law_667, sq_iadd X.1 dL_law_668, sq_sl X.1 X.2.2.1 X.2.2.2.1 (Nat.not_le.mpr X.2.2.2.1) dL_law_669, sq_cv X.1 (c_brokenM l) ⟨_, _, rfl⟩ cw_L_86 ⟨rfl, by decide, by decide, by decide +kernel⟩ (by decide +kernel) ⟨by decide, by decide⟩ hcl dL_law_670, sq_istore X.1 (by decide) dL_law_673, trivial⟩
  have hW : ∀ pc lv st σ, wp (tbB_broken L xs) [675] (CT 675 i) 100 pc lv st σ → KL p l e s m below meth c D ad cA b (cl + 1) (sl + 6) pc lv st σ := wp_sound t2 (fun pc lv st σ' hC => by
    obtain ⟨rfl, rfl, k9, b9, Ds', hs, h1, h2, hv⟩ := hC
    exact K_sub hs (tl_broken X hc1 hI h1 h2 hv)) 100
  have hcl : cl ≤ 601024 ∧ sl ≤ 7293034 := ⟨by omega, by omega⟩
  have t1 : tabOK (KL p l e s m below meth c D ad cA b cl sl) (tbA_broken L xs (wp (tbB_broken L xs) [675] (CT 675 i) 100)) := ⟨sq_aload_n X.1 rfl dL_law_626, sq_aload_n X.1 rfl dL_law_627, sq_iload X.1 dL_law_628, sq_iconst X.1 (by decide) dL_law_630, sq_iadd X.1 dL_law_631, sq_sl X.1 X.2.2.1 X.2.2.2.1 (Nat.not_le.mpr X.2.2.2.1) dL_law_632, sq_aload_n X.1 rfl dL_law_633, sq_iload X.1 dL_law_634, sq_iconst X.1 (by decide) dL_law_636, sq_iadd X.1 dL_law_637, sq_sl X.1 X.2.2.1 X.2.2.2.1 (Nat.not_le.mpr X.2.2.2.1) dL_law_638, sq_aload_n X.1 rfl dL_law_639, sq_iload X.1 dL_law_640, sq_iconst X.1 (by decide) dL_law_642, sq_iadd X.1 dL_law_643, sq_sl X.1 X.2.2.1 X.2.2.2.1 (Nat.not_le.mpr X.2.2.2.1) dL_law_644, sq_aload_n X.1 rfl dL_law_645, sq_ch X.1 (c_wbroken l) X.2.2.2.2.2 ch_L_84 ⟨by decide, by decide, by decide +kernel⟩ (by decide +kernel) ⟨by decide, by decide⟩ hc1 hW dL_law_646, trivial⟩
  refine wp_sound (ps := []) (C := fun _ _ _ _ => False) t1 (fun _ _ _ _ h => h.elim) 100 _ _ _ _ ?_
  have leaf : ∀ (v : Int32) (r : Int32) (σ2 : Mem) (Ds2 : List Duty), rd σ2 11 0 0 = v → (v = 0 → rl σ2 34 0 = r.toInt64) → INV σ2 Ds2 → CT 675 i 675 (lvT i v r) [] σ2 := fun v r σ2 Ds2 h1 h2 h3 => ⟨rfl, rfl, v, r, Ds2, ⟨rfl, rfl, rfl, rfl, rfl, rfl, rfl, rfl, trivial⟩, h1, h2, h3⟩
  obtain ⟨et, en, hD, hM⟩ := id hInv
  have v1 : vp_in (nI i + 1) L := vp_sc (k := 1) hi X.2.2.2.2.1 (by decide)
  have v2 : vp_in (nI i + 2) L := vp_sc (k := 2) hi X.2.2.2.2.1 (by decide)
  have v3 : vp_in (nI i + 3) L := vp_sc (k := 3) hi X.2.2.2.2.1 (by decide)
  refine (And.intro v1 (And.intro v2 (And.intro v3 ?_)))
  refine ⟨rfl, Ds, hD, fun z => ?_, fun z => ⟨fun y => ?_, fun y E hE a9 b9 ea eb hab hb9 => ?_⟩⟩
  · refine (And.intro v1 (And.intro v2 (And.intro v3 ?_)))
    exact ⟨Ds, hM, fun _ => leaf 1 0 _ Ds rfl (fun h => absurd h (by decide)) (INV_ref 1 hInv), fun z9 => absurd z9 z⟩
  · refine (And.intro v1 (And.intro v2 (And.intro v3 ?_)))
    exact ⟨Ds, hM, fun z9 => absurd z z9, fun _ => ⟨fun _ => leaf 2 0 _ Ds rfl (fun h => absurd h (by decide)) (INV_ref 2 hInv), fun y9 => absurd y9 y⟩⟩
  · refine (And.intro v1 (And.intro v2 (And.intro v3 ?_)))
    refine ⟨Ds, MD_wrl hM, fun z9 => absurd z z9, fun _ => ⟨fun y9 => absurd y y9, fun _ E9 hE9 => ⟨a9, b9, ea, eb, hab, hb9, fun σ2 h0 he hM2 => leaf 0 _ σ2 Ds h0 (fun _ => ?_) (INV_q (INV_wrl hInv) he (by decide) (by decide) hM2)⟩⟩⟩
    have : E9 = E := Option.some.inj (hE9.symm.trans hE)
    rw [he.rl, rl_34, et, this]
    rfl

def tbT_part : List (Nat × Tr) := [(720, tq_ald 2 721), (721, tq_cv 5 1 S_thrown 724), (724, tq_ild 6 726), (726, tq_ic_eq 731 729), (729, tq_push 0 730), (730, tq_lret), (731, tq_ild 6 733), (733, tq_if_ne 768 736), (736, tq_ald 4 738), (738, tq_push 0 739), (739, tq_dald 740), (740, tq_dld 7 742), (742, tq_dcmp .l 743), (743, tq_if_eq 768 746), (746, tq_ald 4 748), (748, tq_push 0 749), (749, tq_dald 750), (750, tq_ald 4 752), (752, tq_push 0 753), (753, tq_dald 754), (754, tq_dcmp .l 755), (755, tq_if_eq 766 758), (758, tq_dld 7 760), (760, tq_dld 7 762), (762, tq_dcmp .l 763), (763, tq_if_ne 768 766), (766, tq_push 0 767), (767, tq_lret), (768, tq_goto 827), (827, tq_iinc 5 5 830), (830, tq_goto 28)]
set_option maxRecDepth 100000 in
theorem tl_part {p : Program} {l : Launch} {e : Env} {s : State} {m : MethodId} {below : List Frame} {meth : Method} {c : Code} {D : va_G} {ad : Nat → Nat → Nat} {cA : Nat → ClassId} {b L : Nat} {xs : Nat → Int32} {cl sl : Nat} (X : LX p l s m meth c D ad cA b L xs) {i : Nat} (hcl : cl ≤ 601024 ∧ sl ≤ 7293034) (hI : ∀ σ' Ds, INV σ' Ds → KL p l e s m below meth c D ad cA b cl sl 28 (lvH (i + 5)) [] σ') {k9 : Int32} {b9 : UInt64} {σ : Mem} {Ds : List Duty} (h1 : rd σ 11 0 0 = k9) (h2 : k9 = 0 → rz σ 35 0 = b9 ∧ vf_n64 b9) (hInv : INV σ Ds) : KL p l e s m below meth c D ad cA b cl sl 720 (lvD i k9 b9) [] σ := by
  have v01 : vp_in 0 1 := vp_in_nI (N := 1) Nat.one_pos (by decide)
  have tb : tabOK (KL p l e s m below meth c D ad cA b cl sl) tbT_part := ⟨sq_aload_n X.1 rfl dL_law_720, sq_cv X.1 (c_thrown l) ⟨_, _, rfl⟩ cw_L_59 ⟨rfl, by decide, by decide, by decide +kernel⟩ (by decide +kernel) ⟨by decide, by decide⟩ hcl dL_law_721, sq_iload X.1 dL_law_724, sq_ic_eq X.1 (by decide) dL_law_726, sq_iconst X.1 (by decide) dL_law_729, sq_lret X.1 X.2.1 hcl dL_law_730, sq_iload X.1 dL_law_731, sq_if_ne X.1 (by decide) dL_law_733, sq_aload X.1 dL_law_736, sq_iconst X.1 (by decide) dL_law_738, sq_dald X.1 dL_law_739, sq_dload X.1 dL_law_740, sq_dcmp X.1 dL_law_742, sq_if_eq X.1 (by decide) dL_law_743, sq_aload X.1 dL_law_746, sq_iconst X.1 (by decide) dL_law_748, sq_dald X.1 dL_law_749, sq_aload X.1 dL_law_750, sq_iconst X.1 (by decide) dL_law_752, sq_dald X.1 dL_law_753, sq_dcmp X.1 dL_law_754, sq_if_eq X.1 (by decide) dL_law_755, sq_dload X.1 dL_law_758, sq_dload X.1 dL_law_760, sq_dcmp X.1 dL_law_762, sq_if_ne X.1 (by decide) dL_law_763, sq_iconst X.1 (by decide) dL_law_766, sq_lret X.1 X.2.1 hcl dL_law_767, sq_goto X.1 (by decide) dL_law_768, sq_iinc X.1 (by decide) (by decide) dL_law_827, sq_goto X.1 (by decide) dL_law_830, trivial⟩
  refine wp_sound (ps := [28]) (C := C28 i) tb (fun pc lv st σ' hC => ?_) 100 _ _ _ _ ?_
  · obtain ⟨rfl, hs, rfl, Ds', hv⟩ := hC
    exact K_sub hs (hI σ' Ds' hv)
  refine And.intro (fun _ => ?_) (fun (h : ¬ rd σ 11 0 0 = k9) => absurd h1 h)
  refine And.intro (fun (h : ¬ k9 = 0) => ?_) (fun (h : k9 = 0) => ?_)
  · exact ⟨rfl, ⟨rfl, rfl, rfl, rfl, rfl, by show some (some (aI (nI i + 5))) = some (some (aI (nI (i + 5)))); rw [nI_5], trivial⟩, rfl, Ds, hInv⟩
  · refine And.intro v01 ?_
    have e9 : Op.cmpValue (FP.dcmp (rz σ 35 0) b9) .l = 0 := by rw [(h2 h).1]; exact dcmp_se (h2 h).2
    refine And.intro (fun _ => ?_) (fun (h3 : ¬ Op.cmpValue (FP.dcmp (rz σ 35 0) b9) .l = 0) => absurd e9 h3)
    exact ⟨rfl, ⟨rfl, rfl, rfl, rfl, rfl, by show some (some (aI (nI i + 5))) = some (some (aI (nI (i + 5)))); rw [nI_5], trivial⟩, rfl, Ds, hInv⟩
def tbA_part (L : Nat) (xs : Nat → Int32) (W2 : Kt) : List (Nat × Tr) := [(706, tq_ald 1 707), (707, tq_ald 4 709), (709, tq_ch 2 S_wpart 712 W2)]
def tbB_part (L : Nat) (xs : Nat → Int32) : List (Nat × Tr) := [(712, tq_ist 6 714), (714, tq_ald 2 715), (715, tq_cv 5 1 S_partM 718), (718, tq_dst 7 720)]
set_option maxRecDepth 100000 in
theorem cs_part {p : Program} {l : Launch} {e : Env} {s : State} {m : MethodId} {below : List Frame} {meth : Method} {c : Code} {D : va_G} {ad : Nat → Nat → Nat} {cA : Nat → ClassId} {b L : Nat} {xs : Nat → Int32} {cl sl : Nat} (X : LX p l s m meth c D ad cA b L xs) {i : Nat} (hi : i + 5 ≤ L) (hc1 : cl + 1 ≤ 601024 ∧ sl + 6 ≤ 7293034) (hI : ∀ σ' Ds, INV σ' Ds → KL p l e s m below meth c D ad cA b (cl + 1) (sl + 6) 28 (lvH (i + 5)) [] σ') {σ : Mem} {Ds : List Duty} (hInv : INV σ Ds) : KL p l e s m below meth c D ad cA b cl sl 706 (lvH i) [] σ := by
  have hcl := hc1
  have t2 : tabOK (KL p l e s m below meth c D ad cA b (cl + 1) (sl + 6)) (tbB_part L xs) := ⟨sq_istore X.1 (by decide) dL_law_712, sq_aload_n X.1 rfl dL_law_714, sq_cv X.1 (c_partM l) ⟨_, _, rfl⟩ cw_L_90 ⟨rfl, by decide, by decide, by decide +kernel⟩ (by decide +kernel) ⟨by decide, by decide⟩ hcl dL_law_715, sq_dstore X.1 (by decide) dL_law_718, trivial⟩
  have hW : ∀ pc lv st σ, wp (tbB_part L xs) [720] (CD 720 i) 100 pc lv st σ → KL p l e s m below meth c D ad cA b (cl + 1) (sl + 6) pc lv st σ := wp_sound t2 (fun pc lv st σ' hC => by
    obtain ⟨rfl, rfl, k9, b9, Ds', hs, h1, h2, hv⟩ := hC
    exact K_sub hs (tl_part X hc1 hI h1 h2 hv)) 100
  have hcl : cl ≤ 601024 ∧ sl ≤ 7293034 := ⟨by omega, by omega⟩
  have t1 : tabOK (KL p l e s m below meth c D ad cA b cl sl) (tbA_part L xs (wp (tbB_part L xs) [720] (CD 720 i) 100)) := ⟨sq_aload_n X.1 rfl dL_law_706, sq_aload X.1 dL_law_707, sq_ch X.1 (c_wpart l) X.2.2.2.2.2 ch_L_87 ⟨by decide, by decide, by decide +kernel⟩ (by decide +kernel) ⟨by decide, by decide⟩ hc1 hW dL_law_709, trivial⟩
  refine wp_sound (ps := []) (C := fun _ _ _ _ => False) t1 (fun _ _ _ _ h => h.elim) 100 _ _ _ _ ?_
  have leaf : ∀ (v : Int32) (r : UInt64) (σ2 : Mem) (Ds2 : List Duty), rd σ2 11 0 0 = v → (v = 0 → rz σ2 35 0 = r ∧ vf_n64 r) → INV σ2 Ds2 → CD 720 i 720 (lvD i v r) [] σ2 := fun v r σ2 Ds2 h1 h2 h3 => ⟨rfl, rfl, v, r, Ds2, ⟨rfl, rfl, rfl, rfl, rfl, rfl, rfl, rfl, trivial⟩, h1, h2, h3⟩
  obtain ⟨et, en, hD, hM⟩ := id hInv
  
  refine ⟨rfl, Ds, hD, fun z => ?_, fun z => ?_⟩
  · exact ⟨Ds, hM, fun _ => leaf 1 _ _ Ds rfl (fun h => absurd h (by decide)) (INV_ref 1 hInv), fun z9 => absurd z z9⟩
  · have hne : nI (4096 * Ds.length) ≠ 0 := nI_ne0 (by omega) (by have := hM.2.1; omega)
    refine ⟨Ds, (INV_wrz hInv).2.2.2, fun z9 => absurd z9 z, fun _ σ2 h0 he hM2 => leaf 0 _ σ2 Ds h0 (fun _ => ⟨?_, nan_ok hne⟩) (INV_q (INV_wrz hInv) he (by decide) (by decide) hM2)⟩
    show σ2.2.2 35 0 = _
    rw [he.2]
    refine (rz_35 _ _).trans ?_
    rw [et]
    rfl

def tbT_count : List (Nat × Tr) := [(796, tq_ald 2 797), (797, tq_cv 5 1 S_thrown 800), (800, tq_ild 6 802), (802, tq_ic_eq 807 805), (805, tq_push 0 806), (806, tq_lret), (807, tq_ild 6 809), (809, tq_if_ne 824 812), (812, tq_ald 3 813), (813, tq_push 0 814), (814, tq_lald 815), (815, tq_ild 7 817), (817, tq_i2l 818), (818, tq_lcmp 819), (819, tq_if_eq 824 822), (822, tq_push 0 823), (823, tq_lret), (824, tq_goto 827), (827, tq_iinc 5 5 830), (830, tq_goto 28)]
set_option maxRecDepth 100000 in
theorem tl_count {p : Program} {l : Launch} {e : Env} {s : State} {m : MethodId} {below : List Frame} {meth : Method} {c : Code} {D : va_G} {ad : Nat → Nat → Nat} {cA : Nat → ClassId} {b L : Nat} {xs : Nat → Int32} {cl sl : Nat} (X : LX p l s m meth c D ad cA b L xs) {i : Nat} (hcl : cl ≤ 601024 ∧ sl ≤ 7293034) (hI : ∀ σ' Ds, INV σ' Ds → KL p l e s m below meth c D ad cA b cl sl 28 (lvH (i + 5)) [] σ') {k9 : Int32} {b9 : Int32} {σ : Mem} {Ds : List Duty} (h1 : rd σ 11 0 0 = k9) (h2 : k9 = 0 → rl σ 34 0 = b9.toInt64) (hInv : INV σ Ds) : KL p l e s m below meth c D ad cA b cl sl 796 (lvT i k9 b9) [] σ := by
  have v01 : vp_in 0 1 := vp_in_nI (N := 1) Nat.one_pos (by decide)
  have tb : tabOK (KL p l e s m below meth c D ad cA b cl sl) tbT_count := ⟨sq_aload_n X.1 rfl dL_law_796, sq_cv X.1 (c_thrown l) ⟨_, _, rfl⟩ cw_L_59 ⟨rfl, by decide, by decide, by decide +kernel⟩ (by decide +kernel) ⟨by decide, by decide⟩ hcl dL_law_797, sq_iload X.1 dL_law_800, sq_ic_eq X.1 (by decide) dL_law_802, sq_iconst X.1 (by decide) dL_law_805, sq_lret X.1 X.2.1 hcl dL_law_806, sq_iload X.1 dL_law_807, sq_if_ne X.1 (by decide) dL_law_809, sq_aload_n X.1 rfl dL_law_812, sq_iconst X.1 (by decide) dL_law_813, sq_lald X.1 dL_law_814, sq_iload X.1 dL_law_815, sq_i2l X.1 dL_law_817, sq_lcmp X.1 dL_law_818, sq_if_eq X.1 (by decide) dL_law_819, sq_iconst X.1 (by decide) dL_law_822, sq_lret X.1 X.2.1 hcl dL_law_823, sq_goto X.1 (by decide) dL_law_824, sq_iinc X.1 (by decide) (by decide) dL_law_827, sq_goto X.1 (by decide) dL_law_830, trivial⟩
  refine wp_sound (ps := [28]) (C := C28 i) tb (fun pc lv st σ' hC => ?_) 100 _ _ _ _ ?_
  · obtain ⟨rfl, hs, rfl, Ds', hv⟩ := hC
    exact K_sub hs (hI σ' Ds' hv)
  refine And.intro (fun _ => ?_) (fun (h : ¬ rd σ 11 0 0 = k9) => absurd h1 h)
  refine And.intro (fun (h : ¬ k9 = 0) => ?_) (fun (h : k9 = 0) => ?_)
  · exact ⟨rfl, ⟨rfl, rfl, rfl, rfl, rfl, by show some (some (aI (nI i + 5))) = some (some (aI (nI (i + 5)))); rw [nI_5], trivial⟩, rfl, Ds, hInv⟩
  · refine And.intro v01 ?_
    have e9 : lg_cmp (rl σ 34 0) b9.toInt64 = 0 := by rw [h2 h]; exact lg_self _
    refine And.intro (fun _ => ?_) (fun (h3 : ¬ lg_cmp (rl σ 34 0) b9.toInt64 = 0) => absurd e9 h3)
    exact ⟨rfl, ⟨rfl, rfl, rfl, rfl, rfl, by show some (some (aI (nI i + 5))) = some (some (aI (nI (i + 5)))); rw [nI_5], trivial⟩, rfl, Ds, hInv⟩
def tbA_count (L : Nat) (xs : Nat → Int32) (W2 : Kt) : List (Nat × Tr) := [(771, tq_ald 1 772), (772, tq_ald 0 773), (773, tq_ild 5 775), (775, tq_push 1 776), (776, tq_iadd 777), (777, tq_sl L xs 778), (778, tq_ald 3 779), (779, tq_ch 3 S_wcount 782 W2)]
def tbB_count (L : Nat) (xs : Nat → Int32) : List (Nat × Tr) := [(782, tq_ist 6 784), (784, tq_ald 2 785), (785, tq_ald 0 786), (786, tq_ild 5 788), (788, tq_push 1 789), (789, tq_iadd 790), (790, tq_sl L xs 791), (791, tq_cv 5 2 S_countM 794), (794, tq_ist 7 796)]
set_option maxRecDepth 100000 in
theorem cs_count {p : Program} {l : Launch} {e : Env} {s : State} {m : MethodId} {below : List Frame} {meth : Method} {c : Code} {D : va_G} {ad : Nat → Nat → Nat} {cA : Nat → ClassId} {b L : Nat} {xs : Nat → Int32} {cl sl : Nat} (X : LX p l s m meth c D ad cA b L xs) {i : Nat} (hi : i + 5 ≤ L) (hc1 : cl + 1 ≤ 601024 ∧ sl + 6 ≤ 7293034) (hI : ∀ σ' Ds, INV σ' Ds → KL p l e s m below meth c D ad cA b (cl + 1) (sl + 6) 28 (lvH (i + 5)) [] σ') {σ : Mem} {Ds : List Duty} (hInv : INV σ Ds) : KL p l e s m below meth c D ad cA b cl sl 771 (lvH i) [] σ := by
  have hcl := hc1
  have t2 : tabOK (KL p l e s m below meth c D ad cA b (cl + 1) (sl + 6)) (tbB_count L xs) := ⟨sq_istore X.1 (by decide) dL_law_782, sq_aload_n X.1 rfl dL_law_784, sq_aload_n X.1 rfl dL_law_785, sq_iload X.1 dL_law_786, sq_iconst X.1 (by decide) dL_law_788, sq_iadd X.1 dL_law_789, sq_sl X.1 X.2.2.1 X.2.2.2.1 (Nat.not_le.mpr X.2.2.2.1) dL_law_790, sq_cv X.1 (c_countM l) ⟨_, _, rfl⟩ cw_L_93 ⟨rfl, by decide, by decide, by decide +kernel⟩ (by decide +kernel) ⟨by decide, by decide⟩ hcl dL_law_791, sq_istore X.1 (by decide) dL_law_794, trivial⟩
  have hW : ∀ pc lv st σ, wp (tbB_count L xs) [796] (CT 796 i) 100 pc lv st σ → KL p l e s m below meth c D ad cA b (cl + 1) (sl + 6) pc lv st σ := wp_sound t2 (fun pc lv st σ' hC => by
    obtain ⟨rfl, rfl, k9, b9, Ds', hs, h1, h2, hv⟩ := hC
    exact K_sub hs (tl_count X hc1 hI h1 h2 hv)) 100
  have hcl : cl ≤ 601024 ∧ sl ≤ 7293034 := ⟨by omega, by omega⟩
  have t1 : tabOK (KL p l e s m below meth c D ad cA b cl sl) (tbA_count L xs (wp (tbB_count L xs) [796] (CT 796 i) 100)) := ⟨sq_aload_n X.1 rfl dL_law_771, sq_aload_n X.1 rfl dL_law_772, sq_iload X.1 dL_law_773, sq_iconst X.1 (by decide) dL_law_775, sq_iadd X.1 dL_law_776, sq_sl X.1 X.2.2.1 X.2.2.2.1 (Nat.not_le.mpr X.2.2.2.1) dL_law_777, sq_aload_n X.1 rfl dL_law_778, sq_ch X.1 (c_wcount l) X.2.2.2.2.2 ch_L_91 ⟨by decide, by decide, by decide +kernel⟩ (by decide +kernel) ⟨by decide, by decide⟩ hc1 hW dL_law_779, trivial⟩
  refine wp_sound (ps := []) (C := fun _ _ _ _ => False) t1 (fun _ _ _ _ h => h.elim) 100 _ _ _ _ ?_
  have leaf : ∀ (v : Int32) (r : Int32) (σ2 : Mem) (Ds2 : List Duty), rd σ2 11 0 0 = v → (v = 0 → rl σ2 34 0 = r.toInt64) → INV σ2 Ds2 → CT 796 i 796 (lvT i v r) [] σ2 := fun v r σ2 Ds2 h1 h2 h3 => ⟨rfl, rfl, v, r, Ds2, ⟨rfl, rfl, rfl, rfl, rfl, rfl, rfl, rfl, trivial⟩, h1, h2, h3⟩
  obtain ⟨et, en, hD, hM⟩ := id hInv
  have v1 : vp_in (nI i + 1) L := vp_sc (k := 1) hi X.2.2.2.2.1 (by decide)
  refine (And.intro v1 ?_)
  have e15 : rd σ 1 0 5 = rd σ 11 0 1 := by rw [hD.1.1.1, hM.1.1.1, en]
  refine ⟨rfl, Ds, hD, fun z => ?_, fun z => ?_⟩
  · refine (And.intro v1 ?_)
    exact ⟨Ds, hM, fun _ => leaf 1 0 _ Ds rfl (fun h => absurd h (by decide)) (INV_ref 1 hInv), fun z9 => absurd z9 z⟩
  · refine (And.intro v1 ?_)
    refine ⟨Ds, MD_wrl hM, fun z9 => absurd z z9, fun _ σ2 h0 he hM2 => leaf 0 _ σ2 Ds h0 (fun _ => ?_) (INV_q (INV_wrl hInv) he (by decide) (by decide) hM2)⟩
    rw [he.rl, rl_34, et, e15]
    rfl
