section
-- ===== PART A: goes FIRST, ahead of the names: the tables' words, and 'selects' of the private methods out of them =====
/-- a private method of a class that the tables say can be made, by its rows of tables_1 -/
def lw_okq (q : MethodName × Nat) : Prop := (q.1.cls ≠ "java/lang/invoke/MethodHandle" ∧ q.1.cls ≠ "java/lang/invoke/VarHandle") ∧ Cond.instantiable q.1.cls q.2 ∈ tables_1 ∧ Cond.privateMethod q.1 ∈ tables_1 ∧ Cond.instanceMethod q.1 ∈ tables_1
theorem lw_p0 : lw_okq (⟨"PromiseDesk$Nodes", "fits", "(II)Z"⟩, 6) := ⟨⟨by decide +kernel, by decide +kernel⟩, List.mem_of_getElem? (i := 23) (by decide +kernel), List.mem_of_getElem? (i := 151) (by decide +kernel), List.mem_of_getElem? (i := 152) (by decide +kernel)⟩
theorem lw_p1 : lw_okq (⟨"java/lang/Throwable", "fillInStackTrace", "(I)Ljava/lang/Throwable;"⟩, 6) := ⟨⟨by decide +kernel, by decide +kernel⟩, List.mem_of_getElem? (i := 203) (by decide +kernel), List.mem_of_getElem? (i := 201) (by decide +kernel), List.mem_of_getElem? (i := 202) (by decide +kernel)⟩
theorem lw_p2 : lw_okq (⟨"PromiseDesk$Nodes", "heightBelow", "(II)I"⟩, 6) := ⟨⟨by decide +kernel, by decide +kernel⟩, List.mem_of_getElem? (i := 23) (by decide +kernel), List.mem_of_getElem? (i := 232) (by decide +kernel), List.mem_of_getElem? (i := 233) (by decide +kernel)⟩
theorem lw_p3 : lw_okq (⟨"PromiseDesk$Runner", "ends", "(I)Z"⟩, 3) := ⟨⟨by decide +kernel, by decide +kernel⟩, List.mem_of_getElem? (i := 58) (by decide +kernel), List.mem_of_getElem? (i := 297) (by decide +kernel), List.mem_of_getElem? (i := 298) (by decide +kernel)⟩
theorem lw_p4 : lw_okq (⟨"PromiseDesk$Runner", "loopEnds", "(II)Z"⟩, 3) := ⟨⟨by decide +kernel, by decide +kernel⟩, List.mem_of_getElem? (i := 58) (by decide +kernel), List.mem_of_getElem? (i := 306) (by decide +kernel), List.mem_of_getElem? (i := 307) (by decide +kernel)⟩
theorem lw_p5 : lw_okq (⟨"PromiseDesk$Duties", "add", "(IIZIII)V"⟩, 4) := ⟨⟨by decide +kernel, by decide +kernel⟩, List.mem_of_getElem? (i := 74) (by decide +kernel), List.mem_of_getElem? (i := 326) (by decide +kernel), List.mem_of_getElem? (i := 327) (by decide +kernel)⟩
theorem lw_p6 : lw_okq (⟨"PromiseDesk$Duties", "gather", "(IIII)V"⟩, 4) := ⟨⟨by decide +kernel, by decide +kernel⟩, List.mem_of_getElem? (i := 74) (by decide +kernel), List.mem_of_getElem? (i := 333) (by decide +kernel), List.mem_of_getElem? (i := 334) (by decide +kernel)⟩
theorem lw_p7 : lw_okq (⟨"PromiseDesk$Duties", "goalHoldsBehindPath", "(LPromiseDesk$Duty;I)Z"⟩, 4) := ⟨⟨by decide +kernel, by decide +kernel⟩, List.mem_of_getElem? (i := 74) (by decide +kernel), List.mem_of_getElem? (i := 353) (by decide +kernel), List.mem_of_getElem? (i := 354) (by decide +kernel)⟩
theorem lw_p8 : lw_okq (⟨"PromiseDesk$Duties", "follow", "(II)I"⟩, 4) := ⟨⟨by decide +kernel, by decide +kernel⟩, List.mem_of_getElem? (i := 74) (by decide +kernel), List.mem_of_getElem? (i := 357) (by decide +kernel), List.mem_of_getElem? (i := 358) (by decide +kernel)⟩
theorem lw_p9 : lw_okq (⟨"PromiseDeskModel", "fitting", "(IIII)Z"⟩, 28) := ⟨⟨by decide +kernel, by decide +kernel⟩, List.mem_of_getElem? (i := 410) (by decide +kernel), List.mem_of_getElem? (i := 511) (by decide +kernel), List.mem_of_getElem? (i := 512) (by decide +kernel)⟩
theorem lw_p10 : lw_okq (⟨"PromiseDeskModel", "isExpression", "(I)Z"⟩, 28) := ⟨⟨by decide +kernel, by decide +kernel⟩, List.mem_of_getElem? (i := 410) (by decide +kernel), List.mem_of_getElem? (i := 518) (by decide +kernel), List.mem_of_getElem? (i := 519) (by decide +kernel)⟩
theorem lw_p11 : lw_okq (⟨"PromiseDeskModel", "isKind", "(III)Z"⟩, 28) := ⟨⟨by decide +kernel, by decide +kernel⟩, List.mem_of_getElem? (i := 410) (by decide +kernel), List.mem_of_getElem? (i := 522) (by decide +kernel), List.mem_of_getElem? (i := 523) (by decide +kernel)⟩
theorem lw_p12 : lw_okq (⟨"PromiseDeskModel", "isCondition", "(I)Z"⟩, 28) := ⟨⟨by decide +kernel, by decide +kernel⟩, List.mem_of_getElem? (i := 410) (by decide +kernel), List.mem_of_getElem? (i := 526) (by decide +kernel), List.mem_of_getElem? (i := 527) (by decide +kernel)⟩
theorem lw_p13 : lw_okq (⟨"PromiseDeskModel", "isCommand", "(I)Z"⟩, 28) := ⟨⟨by decide +kernel, by decide +kernel⟩, List.mem_of_getElem? (i := 410) (by decide +kernel), List.mem_of_getElem? (i := 530) (by decide +kernel), List.mem_of_getElem? (i := 531) (by decide +kernel)⟩
theorem lw_p14 : lw_okq (⟨"PromiseDeskModel", "refuse", "(I)I"⟩, 28) := ⟨⟨by decide +kernel, by decide +kernel⟩, List.mem_of_getElem? (i := 410) (by decide +kernel), List.mem_of_getElem? (i := 534) (by decide +kernel), List.mem_of_getElem? (i := 535) (by decide +kernel)⟩
theorem lw_p15 : lw_okq (⟨"PromiseDeskModel", "heightWith", "(II)I"⟩, 28) := ⟨⟨by decide +kernel, by decide +kernel⟩, List.mem_of_getElem? (i := 410) (by decide +kernel), List.mem_of_getElem? (i := 541) (by decide +kernel), List.mem_of_getElem? (i := 542) (by decide +kernel)⟩
def lw_privs_1 : List (MethodName × Nat) := [(⟨"PromiseDesk$Nodes", "fits", "(II)Z"⟩, 6), (⟨"java/lang/Throwable", "fillInStackTrace", "(I)Ljava/lang/Throwable;"⟩, 6), (⟨"PromiseDesk$Nodes", "heightBelow", "(II)I"⟩, 6), (⟨"PromiseDesk$Runner", "ends", "(I)Z"⟩, 3), (⟨"PromiseDesk$Runner", "loopEnds", "(II)Z"⟩, 3), (⟨"PromiseDesk$Duties", "add", "(IIZIII)V"⟩, 4), (⟨"PromiseDesk$Duties", "gather", "(IIII)V"⟩, 4), (⟨"PromiseDesk$Duties", "goalHoldsBehindPath", "(LPromiseDesk$Duty;I)Z"⟩, 4), (⟨"PromiseDesk$Duties", "follow", "(II)I"⟩, 4), (⟨"PromiseDeskModel", "fitting", "(IIII)Z"⟩, 28), (⟨"PromiseDeskModel", "isExpression", "(I)Z"⟩, 28), (⟨"PromiseDeskModel", "isKind", "(III)Z"⟩, 28), (⟨"PromiseDeskModel", "isCondition", "(I)Z"⟩, 28), (⟨"PromiseDeskModel", "isCommand", "(I)Z"⟩, 28), (⟨"PromiseDeskModel", "refuse", "(I)I"⟩, 28), (⟨"PromiseDeskModel", "heightWith", "(II)I"⟩, 28)]
theorem lw_r1 : ∀ q ∈ lw_privs_1, lw_okq q := List.forall_mem_cons.mpr ⟨lw_p0, List.forall_mem_cons.mpr ⟨lw_p1, List.forall_mem_cons.mpr ⟨lw_p2, List.forall_mem_cons.mpr ⟨lw_p3, List.forall_mem_cons.mpr ⟨lw_p4, List.forall_mem_cons.mpr ⟨lw_p5, List.forall_mem_cons.mpr ⟨lw_p6, List.forall_mem_cons.mpr ⟨lw_p7, List.forall_mem_cons.mpr ⟨lw_p8, List.forall_mem_cons.mpr ⟨lw_p9, List.forall_mem_cons.mpr ⟨lw_p10, List.forall_mem_cons.mpr ⟨lw_p11, List.forall_mem_cons.mpr ⟨lw_p12, List.forall_mem_cons.mpr ⟨lw_p13, List.forall_mem_cons.mpr ⟨lw_p14, List.forall_mem_cons.mpr ⟨lw_p15, fun _ h => absurd h List.not_mem_nil⟩⟩⟩⟩⟩⟩⟩⟩⟩⟩⟩⟩⟩⟩⟩⟩
theorem lw_p16 : lw_okq (⟨"PromiseDeskModel", "give", "(II)I"⟩, 28) := ⟨⟨by decide +kernel, by decide +kernel⟩, List.mem_of_getElem? (i := 410) (by decide +kernel), List.mem_of_getElem? (i := 552) (by decide +kernel), List.mem_of_getElem? (i := 553) (by decide +kernel)⟩
theorem lw_p17 : lw_okq (⟨"PromiseDeskModel", "reckon", "(II)I"⟩, 28) := ⟨⟨by decide +kernel, by decide +kernel⟩, List.mem_of_getElem? (i := 410) (by decide +kernel), List.mem_of_getElem? (i := 556) (by decide +kernel), List.mem_of_getElem? (i := 557) (by decide +kernel)⟩
theorem lw_p18 : lw_okq (⟨"PromiseDeskModel", "isTrue", "(II)Z"⟩, 28) := ⟨⟨by decide +kernel, by decide +kernel⟩, List.mem_of_getElem? (i := 410) (by decide +kernel), List.mem_of_getElem? (i := 567) (by decide +kernel), List.mem_of_getElem? (i := 568) (by decide +kernel)⟩
theorem lw_p19 : lw_okq (⟨"PromiseDeskModel", "changed", "(II)I"⟩, 28) := ⟨⟨by decide +kernel, by decide +kernel⟩, List.mem_of_getElem? (i := 410) (by decide +kernel), List.mem_of_getElem? (i := 575) (by decide +kernel), List.mem_of_getElem? (i := 576) (by decide +kernel)⟩
theorem lw_p20 : lw_okq (⟨"PromiseDeskModel", "makeDuties", "(III)V"⟩, 28) := ⟨⟨by decide +kernel, by decide +kernel⟩, List.mem_of_getElem? (i := 410) (by decide +kernel), List.mem_of_getElem? (i := 583) (by decide +kernel), List.mem_of_getElem? (i := 584) (by decide +kernel)⟩
theorem lw_p21 : lw_okq (⟨"PromiseDeskModel", "newTarget", "(II)I"⟩, 28) := ⟨⟨by decide +kernel, by decide +kernel⟩, List.mem_of_getElem? (i := 410) (by decide +kernel), List.mem_of_getElem? (i := 587) (by decide +kernel), List.mem_of_getElem? (i := 588) (by decide +kernel)⟩
theorem lw_p22 : lw_okq (⟨"PromiseDeskModel", "duty", "(III)V"⟩, 28) := ⟨⟨by decide +kernel, by decide +kernel⟩, List.mem_of_getElem? (i := 410) (by decide +kernel), List.mem_of_getElem? (i := 591) (by decide +kernel), List.mem_of_getElem? (i := 592) (by decide +kernel)⟩
theorem lw_p23 : lw_okq (⟨"PromiseDeskModel", "open", "(III)I"⟩, 28) := ⟨⟨by decide +kernel, by decide +kernel⟩, List.mem_of_getElem? (i := 410) (by decide +kernel), List.mem_of_getElem? (i := 595) (by decide +kernel), List.mem_of_getElem? (i := 596) (by decide +kernel)⟩
theorem lw_p24 : lw_okq (⟨"PromiseDeskModel", "keeps", "(II)Z"⟩, 28) := ⟨⟨by decide +kernel, by decide +kernel⟩, List.mem_of_getElem? (i := 410) (by decide +kernel), List.mem_of_getElem? (i := 603) (by decide +kernel), List.mem_of_getElem? (i := 604) (by decide +kernel)⟩
theorem lw_p25 : lw_okq (⟨"PromiseDeskModel", "reaches", "(II)Z"⟩, 28) := ⟨⟨by decide +kernel, by decide +kernel⟩, List.mem_of_getElem? (i := 410) (by decide +kernel), List.mem_of_getElem? (i := 607) (by decide +kernel), List.mem_of_getElem? (i := 608) (by decide +kernel)⟩
theorem lw_p26 : lw_okq (⟨"PromiseDeskModel", "look", "(I)V"⟩, 28) := ⟨⟨by decide +kernel, by decide +kernel⟩, List.mem_of_getElem? (i := 410) (by decide +kernel), List.mem_of_getElem? (i := 615) (by decide +kernel), List.mem_of_getElem? (i := 616) (by decide +kernel)⟩
theorem lw_p27 : lw_okq (⟨"PromiseDeskModel", "isBad", "(II)Z"⟩, 28) := ⟨⟨by decide +kernel, by decide +kernel⟩, List.mem_of_getElem? (i := 410) (by decide +kernel), List.mem_of_getElem? (i := 619) (by decide +kernel), List.mem_of_getElem? (i := 620) (by decide +kernel)⟩
theorem lw_p28 : lw_okq (⟨"PromiseDeskModel", "countBad", "(III)I"⟩, 28) := ⟨⟨by decide +kernel, by decide +kernel⟩, List.mem_of_getElem? (i := 410) (by decide +kernel), List.mem_of_getElem? (i := 627) (by decide +kernel), List.mem_of_getElem? (i := 628) (by decide +kernel)⟩
def lw_privs_2 : List (MethodName × Nat) := [(⟨"PromiseDeskModel", "give", "(II)I"⟩, 28), (⟨"PromiseDeskModel", "reckon", "(II)I"⟩, 28), (⟨"PromiseDeskModel", "isTrue", "(II)Z"⟩, 28), (⟨"PromiseDeskModel", "changed", "(II)I"⟩, 28), (⟨"PromiseDeskModel", "makeDuties", "(III)V"⟩, 28), (⟨"PromiseDeskModel", "newTarget", "(II)I"⟩, 28), (⟨"PromiseDeskModel", "duty", "(III)V"⟩, 28), (⟨"PromiseDeskModel", "open", "(III)I"⟩, 28), (⟨"PromiseDeskModel", "keeps", "(II)Z"⟩, 28), (⟨"PromiseDeskModel", "reaches", "(II)Z"⟩, 28), (⟨"PromiseDeskModel", "look", "(I)V"⟩, 28), (⟨"PromiseDeskModel", "isBad", "(II)Z"⟩, 28), (⟨"PromiseDeskModel", "countBad", "(III)I"⟩, 28)]
theorem lw_r2 : ∀ q ∈ lw_privs_2, lw_okq q := List.forall_mem_cons.mpr ⟨lw_p16, List.forall_mem_cons.mpr ⟨lw_p17, List.forall_mem_cons.mpr ⟨lw_p18, List.forall_mem_cons.mpr ⟨lw_p19, List.forall_mem_cons.mpr ⟨lw_p20, List.forall_mem_cons.mpr ⟨lw_p21, List.forall_mem_cons.mpr ⟨lw_p22, List.forall_mem_cons.mpr ⟨lw_p23, List.forall_mem_cons.mpr ⟨lw_p24, List.forall_mem_cons.mpr ⟨lw_p25, List.forall_mem_cons.mpr ⟨lw_p26, List.forall_mem_cons.mpr ⟨lw_p27, List.forall_mem_cons.mpr ⟨lw_p28, fun _ h => absurd h List.not_mem_nil⟩⟩⟩⟩⟩⟩⟩⟩⟩⟩⟩⟩⟩
def lw_privs : List (MethodName × Nat) := lw_privs_1 ++ (lw_privs_2)
def lw_tbl : List Cond := k2_sels lw_privs ++ tables_1
theorem lw_privs_ok : ∀ q ∈ lw_privs, lw_okq q := by
  show ∀ q ∈ lw_privs_1 ++ (lw_privs_2), lw_okq q
  exact List.forall_mem_append.mpr ⟨lw_r1, lw_r2⟩
end
section
/-! ===== BEGIN words of one list among another's, by their places ===== -/
theorem goodIn_r {big : List Cond} (ws : List Cond) (ps : List Nat) (hp : ws = ps.filterMap (fun i => big[i]?)) (h : ws.all goodWord = true) : GoodIn big ws := by
  intro w hw
  have h1 := List.all_eq_true.mp h w hw
  rw [hp] at hw
  obtain ⟨i, -, hi⟩ := List.mem_filterMap.mp hw
  have hm : w ∈ big := by first | exact List.mem_of_getElem? hi | exact List.getElem?_mem hi
  exact ⟨hm, good_of_word h1⟩
theorem goodIn_app {big a b : List Cond} (ha : GoodIn big a) (hb : GoodIn big b) : GoodIn big (a ++ b) := fun w h => (List.mem_append.mp h).elim (ha w) (hb w)
theorem goodIn_ca {big a b : List Cond} {c : Cond} (ha : GoodIn big (c :: a)) (hb : GoodIn big b) : GoodIn big (c :: (a ++ b)) := fun w h => (List.mem_cons.mp h).elim (fun e => ha w (List.mem_cons.mpr (Or.inl e))) (fun h => (List.mem_append.mp h).elim (fun h => ha w (List.mem_cons.mpr (Or.inr h))) (hb w))
theorem goodIn_sub {big ws : List Cond} (hm : ∀ w ∈ ws, w ∈ big) (h : ws.all goodWord = true) : GoodIn big ws := fun w hw => ⟨hm w hw, good_of_word (List.all_eq_true.mp h w hw)⟩
/-! ===== END ===== -/

/-! ===== BEGIN exceptions that leave a method, and their catching by the caller (launches without stack traces) ===== -/
section VXA
/-! The laws vx_back, vx_callV, vx_callS, vx_callSW, vx_throw0, vx_throwS follow proofs of the library, with one case more: JvmDerived/Free/Laws.lean (Back.of_free), Shelf42/LK1.lean (callV, callS), Shelf/KitTraced.lean (throwNew0V, throwNewS). -/

/-- where a method has thrown q: the class by its name, the cell, what was written, the world -/
def vx_T (XC : String → State → State → Prop) (st : State) (q : Addr) (t : State) (mc ms : Nat) (free : Addr → Prop) : Prop :=
  ∃ (E : String) (ce : Cell) (L : List Loc), XC E st t ∧ t.heap[q]? = some ce ∧ ce.vm = .none ∧ st.vm.findClass E = some ce.cls ∧ st.WarmedH t.vm ∧ st.sameButNew ({ t with vm := st.vm } : State) L mc ms ∧ ∀ z ∈ L, free z.base
def vx_Q (Qc : Array Value → State → Outcome → State → Prop) (XC : String → State → State → Prop) (mc ms : Nat) (free : Addr → Prop) : Array Value → State → Outcome → State → Prop := fun a st o t =>
  (Qc a st o t ∧ ∃ L, FrameEnd st o t L mc ms ∧ ∀ q ∈ L, free q.base) ∨ ∃ q, o = .threw q ∧ vx_T XC st q t mc ms free
/-- a callee that returns or throws -/
def vx_Met (l : Launch) (y : MethodName) (ws : List Cond) (rm : Room) (Pc : Array Value → State → Prop) (Qc : Array Value → State → Outcome → State → Prop) (XC : String → State → State → Prop) (mc ms : Nat) (free : Addr → Prop) : Prop :=
  MetFree l y (headSpec ws rm) Pc (fun _ _ _ _ _ => True) (vx_Q Qc XC mc ms free)
def vx_Post (XC : String → State → State → Prop) (mc ms : Nat) (free : Addr → Prop) : Pt → Array Value → Addr → Pt → Prop := fun A a q B =>
  ∃ (g : JFrame) (mk : MethodId) (t : State) (L : List Loc) (E : String) (ce : Cell), B.U.heap = t.heap ∧ B.U.vm = t.vm ∧ XC E (A.U.calling g mk a) t ∧ t.heap[q]? = some ce ∧ ce.vm = .none ∧ A.U.vm.findClass E = some ce.cls ∧ B.locs = A.locs ++ L ∧ (∀ z ∈ L, free z.base) ∧ B.cells = A.cells + mc ∧ B.slots = A.slots + ms
def vx_Back (l : Launch) (R : Room) (p : Program) (e : Env) (below : List Frame) (s : State) (sargs : Array Value) (y : MethodName) (len W9 : Nat)
    (Pre : Pt → Array Value → Prop) (Post : Pt → Array Value → Option Value → Pt → Prop) (PostX : Pt → Array Value → Addr → Pt → Prop) : Prop :=
  ∀ (m : MethodId) (meth : Method) (c : Code) (A : Pt) (g : JFrame) (ig : Instr) (mk : MethodId) (a : Array Value),
    Stand p l e R s m sargs below meth c A.U A.locs A.cells A.slots → g.method = m → g.locals.size = c.maxLocals → decode c.code g.pc = .ok (ig, len) →
    2 * g.monitorRoom + (g.stack.map fun v => v.category).sum ≤ W9 → A.U.methodNamed? y = some mk → Pre A a →
    (∃ (v : Option Value) (B : Pt), Stand p l e R s m sargs below meth c B.U B.locs B.cells B.slots ∧ Post A a v B ∧
      Steps p.tables e below (doInvoke e (A.U.setTop g) [] mk a).1 (B.U.setTop { g with pc := g.pc + len, stack := v.toList ++ g.stack })) ∨
    (∃ (q : Addr) (B : Pt), Stand p l e R s m sargs below meth c B.U B.locs B.cells B.slots ∧ PostX A a q B ∧
      Steps p.tables e below (doInvoke e (A.U.setTop g) [] mk a).1 ((B.U.setTop g).pushFrame (.throwing q)))
section Payer
variable {l : Launch} {R : Room} {p : Program} {e : Env} {below : List Frame} {s : State} {sargs : Array Value} {y : MethodName} {len W9 : Nat}
theorem vx_back {ws : List Cond} {rm : Room} {Pc : Array Value → State → Prop} {Qc : Array Value → State → Outcome → State → Prop} {XC : String → State → State → Prop} {mc ms : Nat} {free : Addr → Prop} {bytes : ByteArray} {maxL : Nat} {ret : Option FieldType}
    (hM : vx_Met l y ws rm Pc Qc XC mc ms free) (hblind : FrameBlind Pc) (hrc : rm.cells = mc) (hrs : rm.slots = ms)
    (hframes : rm.frames + 1 ≤ R.frames) (hlocals : W9 + (maxL + 11) + rm.locals ≤ R.locals)
    (hws : ∀ w ∈ ws, ∀ a' U, s.WarmedH U.vm → w.before a' U = true) (hcode : Cond.code y bytes maxL ret ∈ ws) (hinit : ∀ a' U, s.WarmedH U.vm → (Cond.initialized y.cls).before a' U = true) :
    vx_Back l R p e below s sargs y len W9 (PreOf R mc ms Pc) (PostOf Qc mc ms free) (vx_Post XC mc ms free) := by
  intro m meth c A g ig mk a X hg hsize hdg hW hn hp
  have h1 : (headSpec ws rm).pre.before a A.U = true := atoms_intro fun w hw => hws w hw _ _ X.warmed
  have h2 : (Cond.code y bytes maxL ret).before a A.U = true := hws _ hcode _ _ X.warmed
  have h3 : (Cond.initialized y.cls).before a A.U = true := hinit _ _ X.warmed
  have h4 : A.cells + (headSpec ws rm).room.cells ≤ R.cells := by rw [show (headSpec ws rm).room.cells = mc from hrc]; exact hp.1
  have h5 : A.slots + (headSpec ws rm).room.slots ≤ R.slots := by rw [show (headSpec ws rm).room.slots = ms from hrs]; exact hp.2.1
  have hPc : Pc a (A.U.calling g mk a) := hblind _ _ _ _ hp.2.2
  obtain ⟨U, Ls, c0, s0⟩ := A
  dsimp only [Pt.U, Pt.locs, Pt.cells, Pt.slots] at h1 h2 h3 h4 h5 X hn hPc ⊢
  obtain ⟨methY, cY, hmY, hcY, -, hlY, -, -, -, -⟩ := Cond.code_spec hn h2
  obtain ⟨kY, hkY, -⟩ := className_of_methodNamed hn
  have hinitY : kY.init = .initialized := Cond.initialized_spec (findClass_of_methodNamed hn) hkY h3
  have h : At U g.method c below := by rw [hg]; exact X.here
  have hlocals9 : W9 + (maxL + 11) + (headSpec ws rm).room.locals ≤ R.locals := hlocals
  have happ : (headSpec ws rm).appliesLoose y e.platform (U.calling g mk a) = true :=
    Spec.appliesLoose_calling (g := g) h hdg hn hkY hinitY
      (X.room_calling (g := g) (R' := (headSpec ws rm).room) hsize hmY hcY hframes (by rw [hlY]; omega) h4 h5) h1
  obtain ⟨mid, hmid⟩ := h.above
  have hfr : (U.setTop g).frames = (.java g :: mid) ++ below := by rw [State.frames_setTop' g h.top, hmid]; rfl
  obtain ⟨o, s₂, hsteps, -, hend, hq⟩ := Steps.callFree hM p X.admits X.cas X.clock (acts := []) hfr happ hPc trivial
  have hq' : vx_Q Qc XC mc ms free a (U.calling g mk a) o s₂ := hq
  rw [State.frames_setTop' g h.top] at hend
  obtain ⟨g₀, hg0⟩ := Option.isSome_iff_exists.mp h.top
  obtain ⟨r, hr⟩ := State.topJava?_eq_some.mp hg0
  have hr' : (({ U with heap := s₂.heap, slotsUsed := s₂.slotsUsed } : State).setVm s₂.vm).frames = .java g₀ :: r := hr
  rcases hq' with ⟨hqc, L, hfe, hL⟩ | ⟨q, rfl, E, ce, L, hx, hce, hcv, hcl, hW₂, hsm, hL⟩
  · obtain ⟨⟨v, rfl⟩, hW₂, e2, q2, q3, q4, q5, q6⟩ := id hfe
    have e3 : s₂ = ({ (U.calling g mk a).setFrames s₂.frames with heap := s₂.heap, slotsUsed := s₂.slotsUsed } : State).setVm s₂.vm := by
      have : s₂ = ({ s₂ with vm := (U.calling g mk a).vm } : State).setVm s₂.vm := rfl
      rw [e2] at this
      exact this
    obtain ⟨c₂, i₂, len₂, hc₂, hd₂, hf₂⟩ := hend
    have hW' : U.WarmedH s₂.vm := hW₂
    have hcc : c₂ = c := by
      have h1 : s₂.code? g.method = U.code? g.method := by
        rw [State.code?_eq, State.code?_eq, hW'.alike.method?]
      exact Option.some.inj (hc₂.symm.trans (h1.trans h.code))
    subst hcc
    have hlen : len₂ = len := by rw [hdg] at hd₂; cases hd₂; rfl
    subst hlen
    have hs₂ : s₂ = (({ U with heap := s₂.heap, slotsUsed := s₂.slotsUsed } : State).setVm s₂.vm).setTop { g with pc := g.pc + len₂, stack := v.toList ++ g.stack } := by
      refine e3.trans ?_
      rw [hf₂, State.calling_eq h.top, State.setFrames_setFrames, State.setTop_of_frames _ hr', hr]
      rfl
    have hsame : U.sameButNew ({ U with heap := s₂.heap, slotsUsed := s₂.slotsUsed } : State) L mc ms := by
      refine ⟨?_, q2, q3, q4, q5, q6⟩
      obtain ⟨t, ht, -⟩ := State.frames_cons hr
      show ({ U with heap := s₂.heap, slotsUsed := s₂.slotsUsed } : State) = { U.setFrames U.frames with heap := s₂.heap, slotsUsed := s₂.slotsUsed }
      rw [State.setFrames_self ht]
    subst hg
    refine Or.inl ⟨v, ⟨(({ U with heap := s₂.heap, slotsUsed := s₂.slotsUsed } : State).setVm s₂.vm), Ls ++ L, c0 + mc, s0 + ms⟩,
      ⟨X.admits, X.cas, X.clock, X.frames, X.room, X.hears, X.method, X.code, (X.here.setHeapUsed s₂.heap s₂.slotsUsed).setVm hW'.alike, X.tail, State.WarmedH.trans X.warmed hW', X.limits, X.bytes, X.same.trans (hsame.setVm s.vm)⟩,
      ⟨g, mk, s₂, L, rfl, rfl, hqc, rfl, hL, rfl, rfl⟩, ?_⟩
    show Steps p.tables e below _ ((({ U with heap := s₂.heap, slotsUsed := s₂.slotsUsed } : State).setVm s₂.vm).setTop { g with pc := g.pc + len₂, stack := v.toList ++ g.stack })
    rw [← hs₂]
    exact hsteps
  · obtain ⟨e2, q2, q3, q4, q5, q6⟩ := id hsm
    have e3 : s₂ = ({ (U.calling g mk a).setFrames s₂.frames with heap := s₂.heap, slotsUsed := s₂.slotsUsed } : State).setVm s₂.vm := by
      have : s₂ = ({ s₂ with vm := (U.calling g mk a).vm } : State).setVm s₂.vm := rfl
      rw [e2] at this
      exact this
    have hf₂ : s₂.frames = .throwing q :: .java g :: U.frames.tail := hend
    have hW' : U.WarmedH s₂.vm := hW₂
    have hs₂ : s₂ = ((({ U with heap := s₂.heap, slotsUsed := s₂.slotsUsed } : State).setVm s₂.vm).setTop g).pushFrame (.throwing q) := by
      refine e3.trans ?_
      rw [hf₂, State.calling_eq h.top, State.setFrames_setFrames, State.pushFrame, State.frames_setTop _ hr', State.setTop_of_frames _ hr', State.setFrames_setFrames, hr]
      rfl
    have hsame : U.sameButNew ({ U with heap := s₂.heap, slotsUsed := s₂.slotsUsed } : State) L mc ms := by
      refine ⟨?_, q2, q3, q4, q5, q6⟩
      obtain ⟨t, ht, -⟩ := State.frames_cons hr
      show ({ U with heap := s₂.heap, slotsUsed := s₂.slotsUsed } : State) = { U.setFrames U.frames with heap := s₂.heap, slotsUsed := s₂.slotsUsed }
      rw [State.setFrames_self ht]
    subst hg
    refine Or.inr ⟨q, ⟨(({ U with heap := s₂.heap, slotsUsed := s₂.slotsUsed } : State).setVm s₂.vm), Ls ++ L, c0 + mc, s0 + ms⟩,
      ⟨X.admits, X.cas, X.clock, X.frames, X.room, X.hears, X.method, X.code, (X.here.setHeapUsed s₂.heap s₂.slotsUsed).setVm hW'.alike, X.tail, State.WarmedH.trans X.warmed hW', X.limits, X.bytes, X.same.trans (hsame.setVm s.vm)⟩,
      ⟨g, mk, s₂, L, E, ce, rfl, rfl, hx, hce, hcv, hcl, rfl, hL, rfl, rfl⟩, ?_⟩
    show Steps p.tables e below _ (((({ U with heap := s₂.heap, slotsUsed := s₂.slotsUsed } : State).setVm s₂.vm).setTop g).pushFrame (.throwing q))
    rw [← hs₂]
    exact hsteps
end Payer
section Calls
variable {p : Program} {l : Launch} {e : Env} {R : Room} {s : State} {m : MethodId} {args : Array Value} {below : List Frame} {meth : Method} {c : Code} {T : State} {locs : List Loc} {cells slots : Nat}
theorem vx_callV (X : Stand p l e R s m args below meth c T locs cells slots) (hexec : p.tables.exec = Jvm.exec) {own C : String} {index : Nat} {y : MethodName} {bytes : ByteArray} {maxL : Nat} {ret : Option FieldType}
    (hown : s.vm.findClass own = some m.cls) (hlink : (Cond.methodLink own index y).before args s = true) (hinst : (Cond.instanceMethod y).before args s = true) (hsel : (Cond.selects C y y).before args s = true)
    (hcode : (Cond.code y bytes maxL ret).before args s = true) (hy : y.cls ≠ "java/lang/invoke/MethodHandle" ∧ y.cls ≠ "java/lang/invoke/VarHandle")
    {W9 : Nat} {Pre : Pt → Array Value → Prop} {Post : Pt → Array Value → Option Value → Pt → Prop} {PostX : Pt → Array Value → Addr → Pt → Prop} (hK : vx_Back l R p e below s args y 3 W9 Pre Post PostX)
    {b : Addr} {cellB : Cell} (hcell : T.heap[b]? = some cellB) (hobj : cellB.vm.isStatics = false) (hcls : s.vm.findClass C = some cellB.cls)
    {g : JFrame} (hg : g.method = m) (hsize : g.locals.size = c.maxLocals) {argsL rest : List Value} (hlen : ∀ sig, parseMethodDescriptor y.desc = some sig → argsL.length = sig.parameters.length)
    (hstack : g.stack = argsL.reverse ++ .ref b :: rest) (hW : 2 * g.monitorRoom + (rest.map fun v => v.category).sum ≤ W9) (hdg : decode c.code g.pc = .ok (.invokevirtual index, 3))
    (hpre : ∀ vm₁, s.WarmedH vm₁ → Pre ⟨T.setVm vm₁, locs, cells, slots⟩ (Value.ref b :: argsL).toArray) :
    (∃ (v : Option Value) (vm₁ : Vm) (B : Pt), s.WarmedH vm₁ ∧ Stand p l e R s m args below meth c B.U B.locs B.cells B.slots ∧ Post ⟨T.setVm vm₁, locs, cells, slots⟩ (Value.ref b :: argsL).toArray v B ∧
      ∀ target, Steps p.tables e below (B.U.setTop { g with pc := g.pc + 3, stack := v.toList ++ rest }) target → Steps p.tables e below (T.setTop g) target) ∨
    (∃ (q : Addr) (vm₁ : Vm) (B : Pt), s.WarmedH vm₁ ∧ Stand p l e R s m args below meth c B.U B.locs B.cells B.slots ∧ PostX ⟨T.setVm vm₁, locs, cells, slots⟩ (Value.ref b :: argsL).toArray q B ∧
      Steps p.tables e below (T.setTop g) ((B.U.setTop { g with stack := rest }).pushFrame (.throwing q))) := by
  obtain ⟨mk, methM, hnamed, hmethM, hstM, habM⟩ := Cond.instanceMethod_spec hinst
  obtain ⟨methM', cM, hmethM', -, -, -, -, -, -, hsigM⟩ := Cond.code_spec hnamed hcode
  cases hmethM.symm.trans hmethM'
  obtain ⟨c2, r2, m2, q1, q2, q3, q4, kP, hkP, hkPi⟩ := Cond.selects_spec hsel
  cases hcls.symm.trans q1
  cases (State.methodFound?_of_named hnamed hy).symm.trans q2
  cases hnamed.symm.trans q3
  have hselP : selectMethod e.platform s.vm cellB.cls mk = .method mk := by rw [Launch.admits_selectMethod X.admits]; exact q4
  obtain ⟨vm₁, X₁, hstep₁⟩ := X.invokevirtual hexec hown hlink hnamed hmethM hstM hkP hkPi hy (a := b) (cell := cellB) hcell
    (fun z h => by rw [h] at hobj; cases hobj) hselP hmethM habM hkP hkPi (g := g) hg (argsL := argsL) (rest := rest) (hlen _ hsigM) hstack hdg
  rcases hK m meth c ⟨T.setVm vm₁, locs, cells, slots⟩ { g with stack := rest } (.invokevirtual index) mk (Value.ref b :: argsL).toArray X₁ hg hsize hdg hW (X₁.named hnamed) (hpre vm₁ X₁.warmed) with ⟨v, B, X', hpost, hsteps⟩ | ⟨q, B, X', hpost, hsteps⟩
  · exact Or.inl ⟨v, vm₁, B, X₁.warmed, X', hpost, fun target h => hstep₁ _ fun acts => by rw [doInvoke_state]; exact hsteps.trans h⟩
  · exact Or.inr ⟨q, vm₁, B, X₁.warmed, X', hpost, hstep₁ _ fun acts => by rw [doInvoke_state]; exact hsteps⟩
theorem vx_callS (X : Stand p l e R s m args below meth c T locs cells slots) (hexec : p.tables.exec = Jvm.exec) {own : String} {index : Nat} {y : MethodName} {bytes : ByteArray} {maxL : Nat} {ret : Option FieldType}
    (hown : s.vm.findClass own = some m.cls) (hlink : (Cond.methodLink own index y).before args s = true) (hstat : (Cond.static y).before args s = true) (hinit : (Cond.initialized y.cls).before args s = true)
    (hcode : (Cond.code y bytes maxL ret).before args s = true) (hy : y.cls ≠ "java/lang/invoke/MethodHandle" ∧ y.cls ≠ "java/lang/invoke/VarHandle")
    {W9 : Nat} {Pre : Pt → Array Value → Prop} {Post : Pt → Array Value → Option Value → Pt → Prop} {PostX : Pt → Array Value → Addr → Pt → Prop} (hK : vx_Back l R p e below s args y 3 W9 Pre Post PostX)
    {g : JFrame} (hg : g.method = m) (hsize : g.locals.size = c.maxLocals) {argsL rest : List Value} (hlen : ∀ sig, parseMethodDescriptor y.desc = some sig → argsL.length = sig.parameters.length)
    (hstack : g.stack = argsL.reverse ++ rest) (hW : 2 * g.monitorRoom + (rest.map fun v => v.category).sum ≤ W9) (hdg : decode c.code g.pc = .ok (.invokestatic index, 3))
    (hpre : ∀ vm₁, s.WarmedH vm₁ → Pre ⟨T.setVm vm₁, locs, cells, slots⟩ argsL.toArray) :
    (∃ (v : Option Value) (vm₁ : Vm) (B : Pt), s.WarmedH vm₁ ∧ Stand p l e R s m args below meth c B.U B.locs B.cells B.slots ∧ Post ⟨T.setVm vm₁, locs, cells, slots⟩ argsL.toArray v B ∧
      ∀ target, Steps p.tables e below (B.U.setTop { g with pc := g.pc + 3, stack := v.toList ++ rest }) target → Steps p.tables e below (T.setTop g) target) ∨
    (∃ (q : Addr) (vm₁ : Vm) (B : Pt), s.WarmedH vm₁ ∧ Stand p l e R s m args below meth c B.U B.locs B.cells B.slots ∧ PostX ⟨T.setVm vm₁, locs, cells, slots⟩ argsL.toArray q B ∧
      Steps p.tables e below (T.setTop g) ((B.U.setTop { g with stack := rest }).pushFrame (.throwing q))) := by
  obtain ⟨mk, hnamed⟩ := Cond.code_named hcode
  obtain ⟨methM, cM, hmethM, -, -, -, -, -, -, hsigM⟩ := Cond.code_spec hnamed hcode
  have hstatic : methM.isStatic = true := Cond.static_spec hnamed hmethM hstat
  obtain ⟨kP, hkP, -⟩ := className_of_methodNamed hnamed
  have hinitP : kP.init = .initialized := Cond.initialized_spec (findClass_of_methodNamed hnamed) hkP hinit
  obtain ⟨vm₁, X₁, hstep₁⟩ := X.invokestatic hexec hown hlink hnamed hmethM hstatic hkP hinitP hy (g := g) hg (argsL := argsL) (rest := rest) (hlen _ hsigM) hstack hdg
  rcases hK m meth c ⟨T.setVm vm₁, locs, cells, slots⟩ { g with stack := rest } (.invokestatic index) mk argsL.toArray X₁ hg hsize hdg hW (X₁.named hnamed) (hpre vm₁ X₁.warmed) with ⟨v, B, X', hpost, hsteps⟩ | ⟨q, B, X', hpost, hsteps⟩
  · exact Or.inl ⟨v, vm₁, B, X₁.warmed, X', hpost, fun target h => hstep₁ _ fun acts => by rw [doInvoke_state]; exact hsteps.trans h⟩
  · exact Or.inr ⟨q, vm₁, B, X₁.warmed, X', hpost, hstep₁ _ fun acts => by rw [doInvoke_state]; exact hsteps⟩
end Calls
theorem vx_cls {s : State} {T : State} {vm₁ : Vm} {E : String} {k : ClassId} (hW : s.WarmedH vm₁) (h : (T.setVm vm₁).vm.findClass E = some k) : s.vm.findClass E = some k := by
  have h1 : vm₁.findClass E = some k := h
  rw [hW.alike.findClass] at h1
  exact h1
/-- the method's frame g, with q thrown over it -/
def vx_W (p : Program) (l : Launch) (e : Env) (R : Room) (s : State) (m : MethodId) (args : Array Value) (below : List Frame) (meth : Method) (c : Code) (H : Heap) (locs : List Loc) (cells slots : Nat) (Q : State → Prop) (g : JFrame) (q : Addr) : Prop :=
  ∀ T : State, T.heap = H → Stand p l e R s m args below meth c T locs cells slots → ∃ t, Steps p.tables e below ((T.setTop g).pushFrame (.throwing q)) t ∧ Q t
def vx_Run (p : Program) (l : Launch) (e : Env) (R : Room) (s : State) (m : MethodId) (args : Array Value) (below : List Frame) (meth : Method) (c : Code) (H : Heap) (locs : List Loc) (cells slots mc ms : Nat) (g : JFrame) (rest : List Value) (Qa : State → Outcome → State → Prop) (XC : String → State → State → Prop) (free : Addr → Prop) : Prop :=
  ∀ T : State, T.heap = H → Stand p l e R s m args below meth c T locs cells slots →
    (∃ (v : Option Value) (st₀ t T' : State) (L : List Loc), st₀.heap = H ∧ Stand p l e R s m args below meth c T' (locs ++ L) (cells + mc) (slots + ms) ∧ (∀ q ∈ L, free q.base) ∧ T'.heap = t.heap ∧ T'.vm = t.vm ∧ Qa st₀ (.returned v) t ∧
      Goes p e below T g T' { g with pc := g.pc + 3, stack := v.toList ++ rest }) ∨
    (∃ (q : Addr) (st₀ t T' : State) (L : List Loc) (E : String) (ce : Cell), st₀.heap = H ∧ Stand p l e R s m args below meth c T' (locs ++ L) (cells + mc) (slots + ms) ∧ (∀ z ∈ L, free z.base) ∧ T'.heap = t.heap ∧ T'.vm = t.vm ∧ XC E st₀ t ∧ t.heap[q]? = some ce ∧ ce.vm = .none ∧ s.vm.findClass E = some ce.cls ∧
      Steps p.tables e below (T.setTop g) ((T'.setTop { g with stack := rest }).pushFrame (.throwing q)))
def vx_X {S : Type} (px : S → Prop) (B : String → S → State → Prop) (A : Nat → Prop) : String → State → State → Prop := fun E st t => ∃ u : S, px u ∧ B E u t ∧ va_F A st t
section Runs
variable {p : Program} {l : Launch} {e : Env} {R : Room} {s : State} {m : MethodId} {args : Array Value} {below : List Frame} {meth : Method} {c : Code} {H : Heap} {locs : List Loc} {cells slots : Nat}
variable {y : MethodName} {bytes cc : ByteArray} {maxL nL mc ms n index : Nat} {ret : Option FieldType} {ws : List Cond} {rm : Room} {Pc : Array Value → State → Prop} {Qc : Array Value → State → Outcome → State → Prop} {XC : String → State → State → Prop} {free : Addr → Prop} {Ts : List Cond} {own C : String} {b : Addr} {As rest : List Value} {g : JFrame}
theorem vx_callBack (cb : CallB R s args own index y bytes maxL ret ws rm mc ms n) (hM : vx_Met l y ws rm Pc Qc XC mc ms free) (hbl : FrameBlind Pc) : vx_Back l R p e below s args y 3 8 (PreOf R mc ms Pc) (PostOf Qc mc ms free) (vx_Post XC mc ms free) := by
  obtain ⟨hrc, hrs, hfr, hlo, hws, hcw, -, hini, -⟩ := cb
  exact vx_back (bytes := bytes) (maxL := maxL) (ret := ret) hM hbl hrc hrs hfr hlo hws hcw (fun a' U hW => word_at hW (Or.inl (by first | rfl | simp [Cond.onTables, Cond.keeps, Cond.steady])) hini)
theorem vx_runV (S : CallFix p m c cc nL s args Ts own) (hM : vx_Met l y ws rm Pc Qc XC mc ms free) (cw : CallW R s args own C index y bytes maxL ret ws rm mc ms n) (hp : PreV s H C b Pc As)
    (hg : g.method = m) (hn : As.length = n) (hsize : g.locals.size = nL) (hstack : g.stack = As.reverse ++ .ref b :: rest) (hW : 2 * g.monitorRoom + (rest.map fun v => v.category).sum ≤ 8) (hdg : decode cc g.pc = .ok (.invokevirtual index, 3)) (hf : cells + mc ≤ R.cells ∧ slots + ms ≤ R.slots) :
    vx_Run p l e R s m args below meth c H locs cells slots mc ms g rest (Qc (Value.ref b :: As).toArray) XC free := by
  have hK : vx_Back l R p e below s args y 3 8 (PreOf R mc ms Pc) (PostOf Qc mc ms free) (vx_Post XC mc ms free) := vx_callBack cw.1 hM hp.1
  obtain ⟨⟨-, -, -, -, -, -, hcode, -, hy, hlen, hl⟩, hin, hse⟩ := cw
  obtain ⟨hx, hb, hml, ho, -⟩ := S
  obtain ⟨-, ⟨cellB, hcB, hoB, hclB⟩, hPc⟩ := hp
  intro T hT X
  rcases vx_callV X hx (C := C) (bytes := bytes) (maxL := maxL) (ret := ret) ho hl hin hse hcode hy hK (by rw [hT]; exact hcB) hoB hclB hg (hsize.trans hml.symm) (argsL := As) (rest := rest) (fun sig h => hn.trans (hlen sig h)) hstack hW (by rw [hb]; exact hdg)
    (fun vm₁ hW₁ => ⟨hf.1, hf.2, hPc (T.setVm vm₁) hT hW₁⟩) with ⟨v, vm₁, ⟨U', l2, c2, s2⟩, hW₁, X', ⟨g', mk, t, L, e1, e2, hq, h1, hL, h2, h3⟩, st⟩ | ⟨q, vm₁, ⟨U', l2, c2, s2⟩, hW₁, X', ⟨g', mk, t, L, E, ce, e1, e2, hq, hce, hcv, hcl, h1, hL, h2, h3⟩, st⟩
  · dsimp only [Pt.U, Pt.locs, Pt.cells, Pt.slots] at X' e1 e2 h1 h2 h3 st
    subst h1; subst h2; subst h3
    exact Or.inl ⟨v, (T.setVm vm₁).calling g' mk (Value.ref b :: As).toArray, t, U', L, hT, X', hL, e1, e2, hq, st⟩
  · dsimp only [Pt.U, Pt.locs, Pt.cells, Pt.slots] at X' e1 e2 h1 h2 h3 st hcl
    subst h1; subst h2; subst h3
    exact Or.inr ⟨q, (T.setVm vm₁).calling g' mk (Value.ref b :: As).toArray, t, U', L, E, ce, hT, X', hL, e1, e2, hq, hce, hcv, vx_cls hW₁ hcl, st⟩
theorem vx_runS (S : CallFix p m c cc nL s args Ts own) (hM : vx_Met l y ws rm Pc Qc XC mc ms free) (cw : CallB R s args own index y bytes maxL ret ws rm mc ms n ∧ (Cond.static y).before args s = true) (hp : PreS s H Pc As)
    (hg : g.method = m) (hn : As.length = n) (hsize : g.locals.size = nL) (hstack : g.stack = As.reverse ++ rest) (hW : 2 * g.monitorRoom + (rest.map fun v => v.category).sum ≤ 8) (hdg : decode cc g.pc = .ok (.invokestatic index, 3)) (hf : cells + mc ≤ R.cells ∧ slots + ms ≤ R.slots) :
    vx_Run p l e R s m args below meth c H locs cells slots mc ms g rest (Qc As.toArray) XC free := by
  have hK : vx_Back l R p e below s args y 3 8 (PreOf R mc ms Pc) (PostOf Qc mc ms free) (vx_Post XC mc ms free) := vx_callBack cw.1 hM hp.1
  obtain ⟨⟨-, -, -, -, -, -, hcode, hini, hy, hlen, hl⟩, hstt⟩ := cw
  obtain ⟨hx, hb, hml, ho, -⟩ := S
  intro T hT X
  rcases vx_callS X hx (bytes := bytes) (maxL := maxL) (ret := ret) ho hl hstt hini hcode hy hK hg (hsize.trans hml.symm) (argsL := As) (rest := rest) (fun sig h => hn.trans (hlen sig h)) hstack hW (by rw [hb]; exact hdg)
    (fun vm₁ hW₁ => ⟨hf.1, hf.2, hp.2 (T.setVm vm₁) hT hW₁⟩) with ⟨v, vm₁, ⟨U', l2, c2, s2⟩, hW₁, X', ⟨g', mk, t, L, e1, e2, hq, h1, hL, h2, h3⟩, st⟩ | ⟨q, vm₁, ⟨U', l2, c2, s2⟩, hW₁, X', ⟨g', mk, t, L, E, ce, e1, e2, hq, hce, hcv, hcl, h1, hL, h2, h3⟩, st⟩
  · dsimp only [Pt.U, Pt.locs, Pt.cells, Pt.slots] at X' e1 e2 h1 h2 h3 st
    subst h1; subst h2; subst h3
    exact Or.inl ⟨v, (T.setVm vm₁).calling g' mk As.toArray, t, U', L, hT, X', hL, e1, e2, hq, st⟩
  · dsimp only [Pt.U, Pt.locs, Pt.cells, Pt.slots] at X' e1 e2 h1 h2 h3 st hcl
    subst h1; subst h2; subst h3
    exact Or.inr ⟨q, (T.setVm vm₁).calling g' mk As.toArray, t, U', L, E, ce, hT, X', hL, e1, e2, hq, hce, hcv, vx_cls hW₁ hcl, st⟩
end Runs
section Rows
variable {p : Program} {l : Launch} {e : Env} {R : Room} {s : State} {m : MethodId} {args : Array Value} {below : List Frame} {meth : Method} {c : Code} {H : Heap} {locs : List Loc} {cells slots : Nat} {Q : State → Prop}
variable {mc ms : Nat} {free : Addr → Prop} {A0 A1 : Nat → Prop} {H0 : Heap} {a : Array Value} {pc : Nat} {ls : Array Slot} {st0 rest : List Value}
theorem vx_keep {st₀ t T' : State} {L : List Loc} (h0 : st₀.heap = H) (e1 : T'.heap = t.heap) (hS : va_S A0 H0 H locs) (hA : ∀ q, q < H.size → A1 q → A0 q) (hf : ∀ q, free q → A0 q) (hL : ∀ q ∈ L, free q.base) (hF : va_F A1 st₀ t) :
    H.size ≤ T'.heap.size ∧ (∀ q : Nat, q < H.size → ¬ A1 q → T'.heap[q]? = H[q]?) ∧ va_S A0 H0 T'.heap (locs ++ L) := by
  obtain ⟨hz, hk⟩ := hF
  rw [h0] at hz hk
  exact ⟨by rw [e1]; exact hz, fun q h1 h2 => by rw [e1]; exact hk q h1 h2,
    ⟨Nat.le_trans hS.1 (by rw [e1]; exact hz), fun q h1 h2 => by rw [e1, hk q (Nat.lt_of_lt_of_le h1 hS.1) (fun z => h2 (hA q (Nat.lt_of_lt_of_le h1 hS.1) z))]; exact hS.2.1 q h1 h2, fun q hq => by
      rcases List.mem_append.mp hq with h | h
      · exact hS.2.2 q h
      · exact hf _ (hL q h)⟩⟩
theorem vx_calli {S SX : Type} {post : Int32 → S → Prop} {px : SX → Prop} {B : S → State → Prop} {BX : String → SX → State → Prop} {AX : Nat → Prop} (hr : vx_Run p l e R s m args below meth c H locs cells slots mc ms (F0 m pc ls st0) rest (va_Qi post B A1 a) (vx_X px BX AX) free) (hS : va_S A0 H0 H locs) (hA : ∀ q, q < H.size → A1 q → A0 q) (hf : ∀ q, free q → A0 q) (hAX : ∀ q, q < H.size → AX q → A0 q)
    (kx : ∀ (E : String) (ce : Cell) (q9 : Addr) (u : SX) (t : State) (H1 : Heap) (locs1 : List Loc), t.heap = H1 → s.vm.Alike t.vm → px u → BX E u t → H.size ≤ H1.size → (∀ q : Nat, q < H.size → ¬ AX q → H1[q]? = H[q]?) → va_S A0 H0 H1 locs1 → H1[q9]? = some ce → ce.vm = .none → s.vm.findClass E = some ce.cls → vx_W p l e R s m args below meth c H1 locs1 (cells + mc) (slots + ms) Q (F0 m pc ls rest) q9)
    (kk : ∀ (r : Int32) (u : S) (t : State) (H1 : Heap) (locs1 : List Loc), t.heap = H1 → s.vm.Alike t.vm → post r u → B u t → H.size ≤ H1.size → (∀ q : Nat, q < H.size → ¬ A1 q → H1[q]? = H[q]?) → va_S A0 H0 H1 locs1 → W p l e R s m args below meth c H1 locs1 (cells + mc) (slots + ms) Q (F0 m (pc + 3) ls (.int r :: rest))) : W p l e R s m args below meth c H locs cells slots Q (F0 m pc ls st0) := by
  intro T hT X
  rcases hr T hT X with ⟨v, st₀, t, T', L, h0, X', hL, e1, e2, ⟨⟨r, u, hv, hp, hb⟩, hF⟩, st⟩ | ⟨q, st₀, t, T', L, E, ce, h0, X', hL, e1, e2, ⟨u, hp, hb, hF⟩, hce, hcv, hcl, st⟩
  · cases hv
    obtain ⟨k1, k2, k3⟩ := vx_keep h0 e1 hS hA hf hL hF
    obtain ⟨t2, a1, b1⟩ := kk r u t T'.heap (locs ++ L) e1.symm (by rw [← e2]; exact X'.warmed.alike) hp hb k1 k2 k3 T' rfl X'
    exact ⟨t2, st t2 a1, b1⟩
  · obtain ⟨k1, k2, k3⟩ := vx_keep h0 e1 hS hAX hf hL hF
    obtain ⟨t2, a1, b1⟩ := kx E ce q u t T'.heap (locs ++ L) e1.symm (by rw [← e2]; exact X'.warmed.alike) hp hb k1 k2 k3 (by rw [e1]; exact hce) hcv hcl T' rfl X'
    exact ⟨t2, st.trans a1, b1⟩
theorem vx_calll {S SX : Type} {post : Int64 → S → Prop} {px : SX → Prop} {B : S → State → Prop} {BX : String → SX → State → Prop} {AX : Nat → Prop} (hr : vx_Run p l e R s m args below meth c H locs cells slots mc ms (F0 m pc ls st0) rest (va_Ql post B A1 a) (vx_X px BX AX) free) (hS : va_S A0 H0 H locs) (hA : ∀ q, q < H.size → A1 q → A0 q) (hf : ∀ q, free q → A0 q) (hAX : ∀ q, q < H.size → AX q → A0 q)
    (kx : ∀ (E : String) (ce : Cell) (q9 : Addr) (u : SX) (t : State) (H1 : Heap) (locs1 : List Loc), t.heap = H1 → s.vm.Alike t.vm → px u → BX E u t → H.size ≤ H1.size → (∀ q : Nat, q < H.size → ¬ AX q → H1[q]? = H[q]?) → va_S A0 H0 H1 locs1 → H1[q9]? = some ce → ce.vm = .none → s.vm.findClass E = some ce.cls → vx_W p l e R s m args below meth c H1 locs1 (cells + mc) (slots + ms) Q (F0 m pc ls rest) q9)
    (kk : ∀ (r : Int64) (u : S) (t : State) (H1 : Heap) (locs1 : List Loc), t.heap = H1 → s.vm.Alike t.vm → post r u → B u t → H.size ≤ H1.size → (∀ q : Nat, q < H.size → ¬ A1 q → H1[q]? = H[q]?) → va_S A0 H0 H1 locs1 → W p l e R s m args below meth c H1 locs1 (cells + mc) (slots + ms) Q (F0 m (pc + 3) ls (.long r :: rest))) : W p l e R s m args below meth c H locs cells slots Q (F0 m pc ls st0) := by
  intro T hT X
  rcases hr T hT X with ⟨v, st₀, t, T', L, h0, X', hL, e1, e2, ⟨⟨r, u, hv, hp, hb⟩, hF⟩, st⟩ | ⟨q, st₀, t, T', L, E, ce, h0, X', hL, e1, e2, ⟨u, hp, hb, hF⟩, hce, hcv, hcl, st⟩
  · cases hv
    obtain ⟨k1, k2, k3⟩ := vx_keep h0 e1 hS hA hf hL hF
    obtain ⟨t2, a1, b1⟩ := kk r u t T'.heap (locs ++ L) e1.symm (by rw [← e2]; exact X'.warmed.alike) hp hb k1 k2 k3 T' rfl X'
    exact ⟨t2, st t2 a1, b1⟩
  · obtain ⟨k1, k2, k3⟩ := vx_keep h0 e1 hS hAX hf hL hF
    obtain ⟨t2, a1, b1⟩ := kx E ce q u t T'.heap (locs ++ L) e1.symm (by rw [← e2]; exact X'.warmed.alike) hp hb k1 k2 k3 (by rw [e1]; exact hce) hcv hcl T' rfl X'
    exact ⟨t2, st.trans a1, b1⟩
theorem vx_callf {S SX : Type} {post : UInt32 → S → Prop} {px : SX → Prop} {B : S → State → Prop} {BX : String → SX → State → Prop} {AX : Nat → Prop} (hr : vx_Run p l e R s m args below meth c H locs cells slots mc ms (F0 m pc ls st0) rest (va_Qf post B A1 a) (vx_X px BX AX) free) (hS : va_S A0 H0 H locs) (hA : ∀ q, q < H.size → A1 q → A0 q) (hf : ∀ q, free q → A0 q) (hAX : ∀ q, q < H.size → AX q → A0 q)
    (kx : ∀ (E : String) (ce : Cell) (q9 : Addr) (u : SX) (t : State) (H1 : Heap) (locs1 : List Loc), t.heap = H1 → s.vm.Alike t.vm → px u → BX E u t → H.size ≤ H1.size → (∀ q : Nat, q < H.size → ¬ AX q → H1[q]? = H[q]?) → va_S A0 H0 H1 locs1 → H1[q9]? = some ce → ce.vm = .none → s.vm.findClass E = some ce.cls → vx_W p l e R s m args below meth c H1 locs1 (cells + mc) (slots + ms) Q (F0 m pc ls rest) q9)
    (kk : ∀ (r : UInt32) (u : S) (t : State) (H1 : Heap) (locs1 : List Loc), t.heap = H1 → s.vm.Alike t.vm → post r u → B u t → H.size ≤ H1.size → (∀ q : Nat, q < H.size → ¬ A1 q → H1[q]? = H[q]?) → va_S A0 H0 H1 locs1 → W p l e R s m args below meth c H1 locs1 (cells + mc) (slots + ms) Q (F0 m (pc + 3) ls (.float r :: rest))) : W p l e R s m args below meth c H locs cells slots Q (F0 m pc ls st0) := by
  intro T hT X
  rcases hr T hT X with ⟨v, st₀, t, T', L, h0, X', hL, e1, e2, ⟨⟨r, u, hv, hp, hb⟩, hF⟩, st⟩ | ⟨q, st₀, t, T', L, E, ce, h0, X', hL, e1, e2, ⟨u, hp, hb, hF⟩, hce, hcv, hcl, st⟩
  · cases hv
    obtain ⟨k1, k2, k3⟩ := vx_keep h0 e1 hS hA hf hL hF
    obtain ⟨t2, a1, b1⟩ := kk r u t T'.heap (locs ++ L) e1.symm (by rw [← e2]; exact X'.warmed.alike) hp hb k1 k2 k3 T' rfl X'
    exact ⟨t2, st t2 a1, b1⟩
  · obtain ⟨k1, k2, k3⟩ := vx_keep h0 e1 hS hAX hf hL hF
    obtain ⟨t2, a1, b1⟩ := kx E ce q u t T'.heap (locs ++ L) e1.symm (by rw [← e2]; exact X'.warmed.alike) hp hb k1 k2 k3 (by rw [e1]; exact hce) hcv hcl T' rfl X'
    exact ⟨t2, st.trans a1, b1⟩
theorem vx_calld {S SX : Type} {post : UInt64 → S → Prop} {px : SX → Prop} {B : S → State → Prop} {BX : String → SX → State → Prop} {AX : Nat → Prop} (hr : vx_Run p l e R s m args below meth c H locs cells slots mc ms (F0 m pc ls st0) rest (va_Qd post B A1 a) (vx_X px BX AX) free) (hS : va_S A0 H0 H locs) (hA : ∀ q, q < H.size → A1 q → A0 q) (hf : ∀ q, free q → A0 q) (hAX : ∀ q, q < H.size → AX q → A0 q)
    (kx : ∀ (E : String) (ce : Cell) (q9 : Addr) (u : SX) (t : State) (H1 : Heap) (locs1 : List Loc), t.heap = H1 → s.vm.Alike t.vm → px u → BX E u t → H.size ≤ H1.size → (∀ q : Nat, q < H.size → ¬ AX q → H1[q]? = H[q]?) → va_S A0 H0 H1 locs1 → H1[q9]? = some ce → ce.vm = .none → s.vm.findClass E = some ce.cls → vx_W p l e R s m args below meth c H1 locs1 (cells + mc) (slots + ms) Q (F0 m pc ls rest) q9)
    (kk : ∀ (r : UInt64) (u : S) (t : State) (H1 : Heap) (locs1 : List Loc), t.heap = H1 → s.vm.Alike t.vm → post r u → B u t → H.size ≤ H1.size → (∀ q : Nat, q < H.size → ¬ A1 q → H1[q]? = H[q]?) → va_S A0 H0 H1 locs1 → W p l e R s m args below meth c H1 locs1 (cells + mc) (slots + ms) Q (F0 m (pc + 3) ls (.double r :: rest))) : W p l e R s m args below meth c H locs cells slots Q (F0 m pc ls st0) := by
  intro T hT X
  rcases hr T hT X with ⟨v, st₀, t, T', L, h0, X', hL, e1, e2, ⟨⟨r, u, hv, hp, hb⟩, hF⟩, st⟩ | ⟨q, st₀, t, T', L, E, ce, h0, X', hL, e1, e2, ⟨u, hp, hb, hF⟩, hce, hcv, hcl, st⟩
  · cases hv
    obtain ⟨k1, k2, k3⟩ := vx_keep h0 e1 hS hA hf hL hF
    obtain ⟨t2, a1, b1⟩ := kk r u t T'.heap (locs ++ L) e1.symm (by rw [← e2]; exact X'.warmed.alike) hp hb k1 k2 k3 T' rfl X'
    exact ⟨t2, st t2 a1, b1⟩
  · obtain ⟨k1, k2, k3⟩ := vx_keep h0 e1 hS hAX hf hL hF
    obtain ⟨t2, a1, b1⟩ := kx E ce q u t T'.heap (locs ++ L) e1.symm (by rw [← e2]; exact X'.warmed.alike) hp hb k1 k2 k3 (by rw [e1]; exact hce) hcv hcl T' rfl X'
    exact ⟨t2, st.trans a1, b1⟩
theorem vx_callv {S SX : Type} {post : S → Prop} {px : SX → Prop} {B : S → State → Prop} {BX : String → SX → State → Prop} {AX : Nat → Prop} (hr : vx_Run p l e R s m args below meth c H locs cells slots mc ms (F0 m pc ls st0) rest (va_Qv post B A1 a) (vx_X px BX AX) free) (hS : va_S A0 H0 H locs) (hA : ∀ q, q < H.size → A1 q → A0 q) (hf : ∀ q, free q → A0 q) (hAX : ∀ q, q < H.size → AX q → A0 q)
    (kx : ∀ (E : String) (ce : Cell) (q9 : Addr) (u : SX) (t : State) (H1 : Heap) (locs1 : List Loc), t.heap = H1 → s.vm.Alike t.vm → px u → BX E u t → H.size ≤ H1.size → (∀ q : Nat, q < H.size → ¬ AX q → H1[q]? = H[q]?) → va_S A0 H0 H1 locs1 → H1[q9]? = some ce → ce.vm = .none → s.vm.findClass E = some ce.cls → vx_W p l e R s m args below meth c H1 locs1 (cells + mc) (slots + ms) Q (F0 m pc ls rest) q9)
    (kk : ∀ (u : S) (t : State) (H1 : Heap) (locs1 : List Loc), t.heap = H1 → s.vm.Alike t.vm → post u → B u t → H.size ≤ H1.size → (∀ q : Nat, q < H.size → ¬ A1 q → H1[q]? = H[q]?) → va_S A0 H0 H1 locs1 → W p l e R s m args below meth c H1 locs1 (cells + mc) (slots + ms) Q (F0 m (pc + 3) ls (rest))) : W p l e R s m args below meth c H locs cells slots Q (F0 m pc ls st0) := by
  intro T hT X
  rcases hr T hT X with ⟨v, st₀, t, T', L, h0, X', hL, e1, e2, ⟨⟨u, hv, hp, hb⟩, hF⟩, st⟩ | ⟨q, st₀, t, T', L, E, ce, h0, X', hL, e1, e2, ⟨u, hp, hb, hF⟩, hce, hcv, hcl, st⟩
  · cases hv
    obtain ⟨k1, k2, k3⟩ := vx_keep h0 e1 hS hA hf hL hF
    obtain ⟨t2, a1, b1⟩ := kk u t T'.heap (locs ++ L) e1.symm (by rw [← e2]; exact X'.warmed.alike) hp hb k1 k2 k3 T' rfl X'
    exact ⟨t2, st t2 a1, b1⟩
  · obtain ⟨k1, k2, k3⟩ := vx_keep h0 e1 hS hAX hf hL hF
    obtain ⟨t2, a1, b1⟩ := kx E ce q u t T'.heap (locs ++ L) e1.symm (by rw [← e2]; exact X'.warmed.alike) hp hb k1 k2 k3 (by rw [e1]; exact hce) hcv hcl T' rfl X'
    exact ⟨t2, st.trans a1, b1⟩
/-- caught by the row x of this method's table; the rows ahead don't take it -/
theorem vx_catch {own name : String} {E : String} {ce : Cell} {q : Addr} (hown : s.vm.findClass own = some m.cls) (pre : List ExceptionTableEntry) (x : ExceptionTableEntry) (suf : List ExceptionTableEntry) (hsplit : c.exceptionTable.toList = pre ++ x :: suf)
    (hpass : ∀ z ∈ pre, covers z pc = false ∨ (z.catchType ≠ 0 ∧ ∃ nm : String, (Cond.classLink own z.catchType nm).before args s = true ∧ va_Nc E nm s)) (hx : covers x pc = true) (h0 : x.catchType ≠ 0)
    (hlink : (Cond.classLink own x.catchType name).before args s = true) (hcast : (Cond.castable E name).before args s = true) (hcell : H[q]? = some ce) (hv : ce.vm = .none) (hcl : s.vm.findClass E = some ce.cls)
    (kk : W p l e R s m args below meth c H locs cells slots Q (F0 m x.handlerPc ls [.ref q])) : vx_W p l e R s m args below meth c H locs cells slots Q (F0 m pc ls rest) q := by
  intro T hT X
  have hpl : e.platform.magicAccessors = ({} : Platform).magicAccessors := by rw [X.admits.platform]
  obtain ⟨c3, c4, hc3, hc4, hasg⟩ := Cond.castable_spec hcast
  cases Option.some.inj (hc3.symm.trans hcl)
  obtain ⟨c5, hc5, hcl5⟩ := Cond.classLink_spec hown hlink e.platform hpl
  cases Option.some.inj (hc4.symm.trans hc5)
  obtain ⟨vm', X', st⟩ := Stand.thenCaughtThrough X q (g := F0 m pc ls rest) rfl (Steps.refl _) (by rw [hT]; exact hcell) (by rw [hv]; rfl) (by obtain ⟨k9, h9, -⟩ := Vm.findClass_spec hcl; exact ⟨k9, h9⟩) pre x suf hsplit
    (fun z hz => by
      rcases hpass z hz with h | ⟨hz0, nm, hl1, hn1⟩
      · exact Or.inl h
      · obtain ⟨c6, hc6, hcl6⟩ := Cond.classLink_spec hown hl1 e.platform hpl
        obtain ⟨a8, b8, h1, h2, h3⟩ := hn1
        cases Option.some.inj (h1.symm.trans hcl)
        cases Option.some.inj (h2.symm.trans hc6)
        exact Or.inr ⟨hz0, _, hcl6, h3⟩) hx (Or.inr ⟨h0, c4, hcl5, hasg⟩)
  obtain ⟨t, a1, b1⟩ := kk (T.setVm vm') hT X'
  exact ⟨t, st.trans a1, b1⟩
end Rows
section Ends
variable {p : Program} {l : Launch} {e : Env} {R : Room} {s : State} {m : MethodId} {args : Array Value} {below : List Frame} {meth : Method} {c : Code} {H : Heap} {locs : List Loc} {cells slots : Nat} {Q : State → Prop}
variable {mc ms : Nat} {free : Addr → Prop} {A0 A1 : Nat → Prop} {H0 : Heap} {a : Array Value} {ls : Array Slot} {st0 rest : List Value}
variable {Qc : Array Value → State → Outcome → State → Prop} {XC : String → State → State → Prop}
/-- what a body that may throw owes at its end -/
def vx_MQ (below : List Frame) (Qc : Array Value → State → Outcome → State → Prop) (XC : String → State → State → Prop) (a : Array Value) (s : State) (mc ms : Nat) (free : Addr → Prop) : State → Prop := fun t =>
  ∃ o, t.status = .running ∧ Ended t below o ∧ vx_Q Qc XC mc ms free a s o t
theorem vx_ret {g : JFrame} {mc ms : Nat} (k : W p l e R s m args below meth c H locs cells slots (MQ below Qc args s mc ms free) g) : W p l e R s m args below meth c H locs cells slots (vx_MQ below Qc XC args s mc ms free) g := by
  intro T hT X
  obtain ⟨t, a1, o, b1, b2, b3, b4⟩ := k T hT X
  exact ⟨t, a1, o, b1, b2, Or.inl ⟨b3, b4⟩⟩
/-- not caught here: it goes on to the caller -/
theorem vx_widen {g : JFrame} {q : Addr} {k n : Nat} (h1 : cells ≤ k) (h2 : slots ≤ n) (kk : vx_W p l e R s m args below meth c H locs k n Q g q) : vx_W p l e R s m args below meth c H locs cells slots Q g q := fun T hT X => kk T hT (stand_widen X h1 h2)
theorem vx_out {pc : Nat} {E : String} {ce : Cell} {q : Addr} {mc ms : Nat} (hout : ∀ x ∈ c.exceptionTable.toList, covers x pc = false) (hlocks : meth.locks = false) (hcell : H[q]? = some ce) (hv : ce.vm = .none) (hcl : s.vm.findClass E = some ce.cls)
    (hx : ∀ t : State, t.heap = H → s.vm.Alike t.vm → XC E s t) (hf : ∀ z ∈ locs, free z.base) (hc : cells ≤ mc) (hs : slots ≤ ms) :
    vx_W p l e R s m args below meth c H locs cells slots (vx_MQ below Qc XC args s mc ms free) (F0 m pc ls rest) q := by
  intro T hT X
  obtain ⟨st1, hrun, hend, hW, hsm⟩ := X.leaveThrown q (g := F0 m pc ls rest) rfl rfl rfl hout hlocks
  have hcell9 : (T.setFrames (.throwing q :: below)).heap[q]? = some ce := by
    show T.heap[q]? = some ce
    rw [hT]; exact hcell
  exact ⟨_, st1, .threw q, hrun, hend, Or.inr ⟨q, rfl, E, ce, locs, hx _ hT hW.alike, hcell9, hv, hcl, hW, hsm.mono hc hs, hf⟩⟩
theorem vx_frame {U : State} {k n : Nat} (h : s.sameButNew ({ U with vm := s.vm } : State) locs k n) : s.heap.size ≤ U.heap.size ∧ ∀ q : Nat, q < s.heap.size → (∀ z ∈ locs, z.base ≠ q) → U.heap[q]? = s.heap[q]? := by
  obtain ⟨-, h2, -, -, -, h6⟩ := h
  refine ⟨h2, fun q hq hz => ?_⟩
  obtain ⟨c9, e1, e2, e3, e4⟩ := h6 q _ (Array.getElem?_eq_getElem hq)
  have hs : c9.slots = (s.heap[q]).slots := Array.ext_getElem? fun i => e4 i fun hm => hz _ hm rfl
  have h9 : c9 = s.heap[q] := by
    rw [hs] at e2
    exact e2
  have e5 : U.heap[q]? = some c9 := e1
  rw [e5, h9, Array.getElem?_eq_getElem hq]
/-- the words of a throw but the four that speak of the heap -/
def vx_no (w : Cond) : Bool := decide (w ≠ .isRef (.static Bundle.tN "UNASSIGNED_STACK" Bundle.steD)) && decide (w ≠ .isRef (.static Bundle.tN "SUPPRESSED_SENTINEL" Bundle.listD)) && decide (w ≠ .laysStatic Bundle.tN "UNASSIGNED_STACK" Bundle.steD) && decide (w ≠ .laysStatic Bundle.tN "SUPPRESSED_SENTINEL" Bundle.listD)
def vx_at0 (own : String) (ic : Nat) (X : String) (names : List String) : List Cond := (Bundle.ownAtoms0 own ic X names).filter vx_no
def vx_atS (own : String) (ic : Nat) (X : String) (names : List String) : List Cond := (Bundle.ownAtoms own ic X names).filter vx_no
/-- a word that the tables alone decide, or a good one -/
def vx_ot (w : Cond) : Bool := w.onTables || goodWord w
theorem vx_ot_at {args a' : Array Value} {s U : State} {w : Cond} (hW : s.WarmedH U.vm) (hvm : s.vm = U.vm) (hg : vx_ot w = true) (h : w.before args s = true) : w.before a' U = true := by
  simp only [vx_ot, Bool.or_eq_true] at hg
  rcases hg with hg | hg
  · exact va_tabs hg hvm h
  · exact word_at hW (good_of_word hg) h
/-- a list's words: the good ones out of the method's own list, the others by premises of their own -/
theorem vx_hat {args : Array Value} {s : State} {L B : List Cond} (h1 : ∀ w ∈ L.filter goodWord, w.before args s = true) (h2 : ∀ w ∈ L.filter (fun w => !goodWord w), w ∈ B) (h3 : ∀ w ∈ B, w.before args s = true) : ∀ w ∈ L, w.before args s = true := by
  intro w hw
  by_cases g : goodWord w = true
  · exact h1 w (List.mem_filter.mpr ⟨hw, g⟩)
  · refine h3 w (h2 w (List.mem_filter.mpr ⟨hw, ?_⟩))
    show (!goodWord w) = true
    cases hgw : goodWord w
    · rfl
    · exact absurd hgw g
theorem vx_c {args : Array Value} {s : State} {w : Cond} {B : List Cond} (h : w.before args s = true) (t : ∀ w ∈ B, w.before args s = true) : ∀ w' ∈ w :: B, w'.before args s = true := fun w' h' => (List.mem_cons.mp h').elim (fun e => by rw [e]; exact h) (t w')
theorem vx_n {args : Array Value} {s : State} : ∀ w ∈ ([] : List Cond), w.before args s = true := fun _ h => nomatch h
theorem vx_own {args : Array Value} {s : State} {L : List Cond} (h1 : ∀ w ∈ L.filter vx_no, w.before args s = true)
    (hU : (Cond.isRef (.static Bundle.tN "UNASSIGNED_STACK" Bundle.steD)).before args s = true) (hN : (Cond.isRef (.static Bundle.tN "SUPPRESSED_SENTINEL" Bundle.listD)).before args s = true)
    (lU : (Cond.laysStatic Bundle.tN "UNASSIGNED_STACK" Bundle.steD).before args s = true) (lN : (Cond.laysStatic Bundle.tN "SUPPRESSED_SENTINEL" Bundle.listD).before args s = true) : ∀ w ∈ L, w.before args s = true := by
  intro w hw
  by_cases e1 : w = .isRef (.static Bundle.tN "UNASSIGNED_STACK" Bundle.steD)
  · rw [e1]; exact hU
  · by_cases e2 : w = .isRef (.static Bundle.tN "SUPPRESSED_SENTINEL" Bundle.listD)
    · rw [e2]; exact hN
    · by_cases e3 : w = .laysStatic Bundle.tN "UNASSIGNED_STACK" Bundle.steD
      · rw [e3]; exact lU
      · by_cases e4 : w = .laysStatic Bundle.tN "SUPPRESSED_SENTINEL" Bundle.listD
        · rw [e4]; exact lN
        · exact h1 w (List.mem_filter.mpr ⟨hw, by unfold vx_no; rw [decide_eq_true e1, decide_eq_true e2, decide_eq_true e3, decide_eq_true e4]; rfl⟩)
/-- where a static field lies, its class's statics cell in H -/
def vx_L (C n d : String) (A : Nat → Prop) (U : State) (H : Heap) : Prop := ∃ (c : ClassId) (k : Class) (i : Nat) (f : Field) (a : Nat) (cell : Cell), U.vm.findClass C = some c ∧ U.fieldFound? C n d = some (c, k, i, f) ∧ f.isStatic = true ∧ k.statics = some a ∧ H[a]? = some cell ∧ cell.vm.isStatics = true ∧ cell.cls = c ∧ f.slot < cell.slots.size ∧ k.staticTypes[f.slot]? = some f.type ∧ ¬ A a
theorem vx_L.moved {C n d : String} {A : Nat → Prop} {u U : State} {H : Heap} (hvm : u.vm.Alike U.vm) (h : vx_L C n d A u H) : vx_L C n d A U H := by
  obtain ⟨c, k, i, f, a, cell, h1, h2, h3, h4, h5, h6, h7, h8, h9, h10⟩ := h
  obtain ⟨k', hi', he⟩ := State.fieldFound?_setVm hvm h2
  exact ⟨c, k', i, f, a, cell, by rw [hvm.findClass]; exact h1, hi', h3, by rw [he]; exact h4, h5, h6, h7, h8, by rw [he]; exact h9, h10⟩
theorem vx_L.kept {C n d : String} {A : Nat → Prop} {U : State} {H H1 : Heap} (h : vx_L C n d A U H) (hq : ∀ a : Nat, a < H.size → ¬ A a → H1[a]? = H[a]?) : vx_L C n d A U H1 := by
  obtain ⟨c, k, i, f, a, cell, h1, h2, h3, h4, h5, h6, h7, h8, h9, h10⟩ := h
  exact ⟨c, k, i, f, a, cell, h1, h2, h3, h4, by rw [hq a (Array.getElem?_eq_some_iff.mp h5).1 h10]; exact h5, h6, h7, h8, h9, h10⟩
theorem vx_L.narrow {C n d : String} {A B : Nat → Prop} {U : State} {H : Heap} (h : vx_L C n d A U H) (hAB : ∀ q, B q → A q) : vx_L C n d B U H := by
  obtain ⟨c, k, i, f, a, cell, h1, h2, h3, h4, h5, h6, h7, h8, h9, h10⟩ := h
  exact ⟨c, k, i, f, a, cell, h1, h2, h3, h4, h5, h6, h7, h8, h9, fun z => h10 (hAB _ z)⟩
theorem vx_L.word {C n d : String} {A : Nat → Prop} {s : State} {args : Array Value} (h : vx_L C n d A s s.heap) : (Cond.laysStatic C n d).before args s = true := by
  obtain ⟨c, k, i, f, a, cell, h1, h2, h3, h4, h5, h6, h7, h8, h9, -⟩ := h
  show (Cond.laysStatic C n d).holds args s none s [] = true
  exact Cond.laysStatic_of h1 h2 h3 h4 h5 h6 h7 h8 h9
/-- .. and what it holds: null or some reference -/
def vx_Zq (C n d : String) (A : Nat → Prop) (U : State) (H : Heap) : Prop := va_Zq C n d A U H ∧ vx_L C n d A U H
theorem vx_Zq.moved {C n d : String} {A : Nat → Prop} {u U : State} {H : Heap} (hvm : u.vm.Alike U.vm) (h : vx_Zq C n d A u H) : vx_Zq C n d A U H := ⟨va_Zq.moved hvm h.1, vx_L.moved hvm h.2⟩
theorem vx_Zq.kept {C n d : String} {A : Nat → Prop} {U : State} {H H1 : Heap} (h : vx_Zq C n d A U H) (hq : ∀ a : Nat, a < H.size → ¬ A a → H1[a]? = H[a]?) : vx_Zq C n d A U H1 := ⟨va_Zq.kept h.1 hq, vx_L.kept h.2 hq⟩
theorem vx_Zq.narrow {C n d : String} {A B : Nat → Prop} {U : State} {H : Heap} (h : vx_Zq C n d A U H) (hAB : ∀ q, B q → A q) : vx_Zq C n d B U H := ⟨va_Zq.narrow h.1 hAB, vx_L.narrow h.2 hAB⟩
theorem vx_Zqof {args : Array Value} {s : State} {C n d : String} {A : Nat → Prop} (hl : (Cond.laysStatic C n d).before args s = true) (hini : (Cond.initialized C).before args s = true) (h : (Cond.isRef (.static C n d)).before args s = true) (hA : ∀ a : Nat, a < s.heap.size → ¬ A a) : vx_Zq C n d A s s.heap := by
  refine ⟨va_Zqof hl hini h hA, ?_⟩
  obtain ⟨c, k, i, f, a, cell, h1, h2, h3, h4, h5, h6, h7, h8, h9⟩ := Cond.laysStatic_spec hl
  exact ⟨c, k, i, f, a, cell, h1, h2, h3, h4, h5, h6, h7, h8, h9, hA a (Array.getElem?_eq_some_iff.mp h5).1⟩
theorem vx_isRef {C n d : String} {v : Value} {A : Nat → Prop} {s : State} {args : Array Value} (h : va_Z C n d v A s s.heap) (hv : v.isRef = true) : (Cond.isRef (.static C n d)).before args s = true := by
  obtain ⟨cf, kf, fi, f, a, cell, h1, h2, h3, h4, h5, h6, h7, -⟩ := h
  have he : (Term.static C n d).eval args s none [] s = some v := by
    simp [Term.eval, State.fieldNamed?, h1, h2, h4, h5, h6, h7]
  simp only [Cond.before, Cond.holds, Cond.value, he]
  cases v <;> simp_all [Value.isRef]
theorem vx_isRefq {C n d : String} {A : Nat → Prop} {s : State} {args : Array Value} (h : va_Zq C n d A s s.heap) : (Cond.isRef (.static C n d)).before args s = true := by
  rcases h with h | ⟨t, h⟩
  · exact vx_isRef h rfl
  · exact vx_isRef h rfl
/-- the same frame, seen from here: as if the method were called anew in this heap -/
theorem vx_rebase {T : State} (X : Stand p l e R s m args below meth c T locs cells slots) {R' : Room} (hf : R'.frames ≤ R.frames) (hl : R'.locals ≤ R.locals) (hc : cells + R'.cells ≤ R.cells) (hs : slots + R'.slots ≤ R.slots) :
    Stand p l e R' ((T.setVm s.vm).setFrames (.invoking m args :: below)) m args below meth c T [] 0 0 := by
  have htop : (T.setVm s.vm).topJava?.isSome := X.here.top
  have hF : ((T.setVm s.vm).setFrames (.invoking m args :: below)).frames = .invoking m args :: below := State.frames_setFrames _ (State.cur_lt_of_top htop)
  obtain ⟨g₀, hg0⟩ := Option.isSome_iff_exists.mp htop
  obtain ⟨r, hr⟩ := State.topJava?_eq_some.mp hg0
  have hl9 : e.platform.stackLimits (T.setVm s.vm).me = e.platform.stackLimits s.me := X.limits
  have hb9 : (T.setVm s.vm).me.stackBytes = s.me.stackBytes := X.bytes
  refine ⟨X.admits, X.cas, X.clock, hF, ?_, X.hears, X.method, X.code, X.here, X.tail, X.warmed, ?_, ?_, ?_⟩
  · have h := X.room
    have hU : ((T.setVm s.vm).setFrames (.invoking m args :: below)).localsInUse = s.localsInUse := by
      rw [State.localsInUse_invoking hF (meth := meth) (c := c) X.method X.code, State.localsInUse_invoking X.frames X.method X.code]
    simp only [State.hasRoom, Bool.and_eq_true, decide_eq_true_eq] at h ⊢
    obtain ⟨⟨⟨⟨h1, h2, h3, h4, h5, h6⟩, h7⟩, h8⟩, h9⟩ := h
    rw [X.frames, List.length_cons] at h2 h3
    have q1 := X.heapSize
    have q2 := X.used
    simp only [hF, hU, List.length_cons, State.stackLimits_setFrames, State.stackBytes_setFrames, hl9, hb9]
    refine ⟨⟨⟨⟨by omega, by omega, by omega, by omega, by omega, h6⟩, ?_⟩, ?_⟩, X.book⟩
    · show T.heap.size + R'.cells ≤ e.platform.maxCells
      omega
    · show T.slotsUsed + R'.slots ≤ e.platform.maxSlots
      omega
  · rw [State.stackLimits_setFrames]; rfl
  · rw [State.stackBytes_setFrames]; rfl
  · refine ⟨?_, Nat.le_refl _, Nat.le_refl _, ?_, ?_, fun a c9 h9 => ⟨c9, h9, rfl, rfl, fun _ _ => rfl⟩⟩
    · obtain ⟨t, ht, -⟩ := State.frames_cons hr
      show T.setVm s.vm = { ((T.setVm s.vm).setFrames (.invoking m args :: below)).setFrames (T.setVm s.vm).frames with heap := T.heap, slotsUsed := T.slotsUsed }
      rw [State.setFrames_setFrames, State.setFrames_self ht]
      rfl
    · show T.slotsUsed = T.slotsUsed + ((T.heap.toList.drop T.heap.size).map (·.slots.size)).sum
      rw [List.drop_eq_nil_of_le (Nat.le_of_eq Array.length_toList)]
      rfl
    · show ((T.heap.toList.drop T.heap.size).map (·.slots.size)).sum ≤ 0
      rw [List.drop_eq_nil_of_le (Nat.le_of_eq Array.length_toList)]
      exact Nat.le_refl _
/-- 'throw new E()': new; dup; invokespecial; athrow -/
theorem vx_throw0 {cc : ByteArray} {pc : Nat} (hexec : p.tables.exec = Jvm.exec) (hb : c.code = cc) (hl : l.stackTraces = false) {own cls : String} {names : List String} {ik ic mc ms : Nat} {A : Nat → Prop}
    (hown : s.vm.findClass own = some m.cls) (hcls : Bundle.fit cls = true) (hnames : ∀ n ∈ names, Bundle.fit n = true)
    (hk : (Cond.classLink own ik cls).before args s = true) (hini : (Cond.initialized cls).before args s = true) (hat : ∀ w ∈ vx_at0 own ic cls names, w.before args s = true)
    (hgood : ∀ w ∈ Cond.classLink own ik cls :: Cond.initialized cls :: vx_at0 own ic cls names, vx_ot w = true)
    (hU : vx_Zq Bundle.tN "UNASSIGNED_STACK" Bundle.steD A s s.heap) (hN : vx_Zq Bundle.tN "SUPPRESSED_SENTINEL" Bundle.listD A s s.heap) (hS : va_S A s.heap H locs) (hsize : ls.size = c.maxLocals)
    (d0 : decode cc pc = .ok (.new ik, 3)) (d3 : decode cc (pc + 3) = .ok (.dup, 1)) (d4 : decode cc (pc + 4) = .ok (.invokespecial ic, 3)) (d7 : decode cc (pc + 7) = .ok (.athrow, 1))
    (hout : ∀ x ∈ c.exceptionTable.toList, covers x (pc + 7) = false)
    (hRframes : names.length + 3 < R.frames) (hRlocals : (rest.map fun v => v.category).sum + (13 * (names.length + 1) + 42) ≤ R.locals) (hRcells : cells + 1 ≤ R.cells) (hRslots : slots + 6 ≤ R.slots) (hlocks : meth.locks = false)
    (hx : ∀ t : State, s.vm.Alike t.vm → H.size ≤ t.heap.size → (∀ q : Nat, q < H.size → t.heap[q]? = H[q]?) → XC cls s t)
    (hf : ∀ z ∈ locs, free z.base) (hc : cells + 1 ≤ mc) (hs : slots + 6 ≤ ms) :
    W p l e R s m args below meth c H locs cells slots (vx_MQ below Qc XC args s mc ms free) (F0 m pc ls rest) := by
  intro T hT X
  have htr : e.platform.stackTraces = false := (show e.platform.stackTraces = l.stackTraces by rw [X.admits.platform]).trans hl
  have Y := vx_rebase X (R' := { frames := R.frames, locals := R.locals, cells := 1, slots := 6 }) (Nat.le_refl _) (Nat.le_refl _) hRcells hRslots
  obtain ⟨s', hA⟩ : ∃ z, z = (T.setVm s.vm).setFrames (.invoking m args :: below) := ⟨_, rfl⟩
  rw [← hA] at Y
  have hvm : s'.vm = s.vm := by rw [hA]; rfl
  have hhp : s'.heap = H := by rw [hA]; exact hT
  have hW0 : s.WarmedH s'.vm := by rw [hvm]; exact State.WarmedH.refl s
  have hat' : ∀ w ∈ vx_at0 own ic cls names, w.before args s' = true := fun w hw => vx_ot_at hW0 hvm.symm (hgood w (List.mem_cons_of_mem _ (List.mem_cons_of_mem _ hw))) (hat w hw)
  have hk' : (Cond.classLink own ik cls).before args s' = true := vx_ot_at hW0 hvm.symm (hgood _ List.mem_cons_self) hk
  have hini' : (Cond.initialized cls).before args s' = true := vx_ot_at hW0 hvm.symm (hgood _ (List.mem_cons_of_mem _ List.mem_cons_self)) hini
  have hU' : vx_Zq Bundle.tN "UNASSIGNED_STACK" Bundle.steD A s' s'.heap := by rw [hhp]; exact vx_Zq.moved hW0.alike (hU.kept hS.2.1)
  have hN' : vx_Zq Bundle.tN "SUPPRESSED_SENTINEL" Bundle.listD A s' s'.heap := by rw [hhp]; exact vx_Zq.moved hW0.alike (hN.kept hS.2.1)
  have h : ∀ w ∈ Bundle.ownAtoms0 own ic cls names, w.before args s' = true := vx_own hat' (vx_isRefq hU'.1) (vx_isRefq hN'.1) hU'.2.word hN'.2.word
  have hown' : s'.vm.findClass own = some m.cls := by rw [hvm]; exact hown
  have hins : (Cond.instantiable cls 6).before args s' = true := h _ (by simp [Bundle.ownAtoms0])
  obtain ⟨vm₁, cX, kX, hfX, hkX, -, -, X₁, st1⟩ := Y.newCold hexec (own := own) (C := cls) (index := ik) (n := 6) hown' hk' hins hini'
    (g := F0 m pc ls rest) rfl (by rw [hb]; exact d0) (Nat.le_refl _) (Nat.le_refl _)
  generalize hT1 : (T.setVm vm₁).pushCell { cls := cX, slots := kX.instanceTypes.map defaultValue, vm := .none } = T1 at X₁ st1
  have hcat : (Value.ref T.heap.size).category = 1 := rfl
  have hcellA : T1.heap[T.heap.size]? = some (freshCell cX kX) := by rw [← hT1]; exact State.heap_pushCell_size _ _
  have d3' : decode c.code (pc + 3) = .ok (.dup, 1) := by rw [hb]; exact d3
  obtain ⟨U, hsteps, hrun, hend, hW, hsame, ce, hce, hO⟩ := X₁.ctorThrow0 hexec htr (own := own) (cls := cls) (names := names) (ic := ic) hown' hcls hnames h (fun x hx => nomatch hx) hfX hkX hcellA (by rw [hhp, hT]; exact Nat.le_refl _)
    (g := { method := m, pc := pc + 4, locals := ls, stack := .ref T.heap.size :: .ref T.heap.size :: rest, locked := none }) rfl hsize rfl rfl (rest := rest) rfl
    (by rw [hb]; exact d4) (by rw [hb]; exact d7) hout hRframes (by simp only [List.map_cons, List.sum_cons, hcat]; omega) hlocks
  obtain ⟨f1, f2⟩ := vx_frame hsame
  rw [hhp] at f1 f2
  have hWs : s.WarmedH U.vm := State.WarmedH.trans hW0 hW
  have hcl : s.vm.findClass cls = some ce.cls := by
    have h9 := hO.cls
    rw [hvm] at h9
    exact h9
  have hall : s.sameButNew ({ U with vm := s.vm } : State) locs mc ms := by
    subst hA
    obtain ⟨e1, e2⟩ := hsame
    rw [State.setFrames_setFrames] at e1
    have h2 : (T.setVm s.vm).sameButNew ({ U with vm := s.vm } : State) [] (0 + 1) (0 + 6) := ⟨e1, e2⟩
    have h3 := X.same.trans h2
    rw [List.append_nil] at h3
    exact h3.mono hc hs
  refine ⟨U, ?_, .threw T.heap.size, hrun, hend, Or.inr ⟨T.heap.size, rfl, cls, ce, locs, hx U hWs.alike f1 (fun q hq => f2 q hq (fun z hz => nomatch hz)), hce, hO.vm, hcl, hWs, hall, hf⟩⟩
  refine st1 _ ?_
  show Steps p.tables e below (T1.setTop { method := m, pc := pc + 3, locals := ls, stack := .ref T.heap.size :: rest, locked := none }) _
  jvm_step X₁.here [X₁.here.top, hexec, d3', Value.category]
  exact hsteps
/-- 'throw new E("text")': new; dup; ldc; invokespecial; athrow -/
theorem vx_throwS {cc : ByteArray} {pc : Nat} (hexec : p.tables.exec = Jvm.exec) (hb : c.code = cc) (hl : l.stackTraces = false) {own cls text : String} {names : List String} {ik is ic mc ms sa : Nat} {A : Nat → Prop}
    (hown : s.vm.findClass own = some m.cls) (hcls : Bundle.fit cls = true) (hnames : ∀ n ∈ names, Bundle.fit n = true)
    (hk : (Cond.classLink own ik cls).before args s = true) (hini : (Cond.initialized cls).before args s = true) (hstr : vk_R own is text sa s) (hat : ∀ w ∈ vx_atS own ic cls names, w.before args s = true)
    (hgood : ∀ w ∈ Cond.classLink own ik cls :: Cond.initialized cls :: vx_atS own ic cls names, vx_ot w = true)
    (hU : vx_Zq Bundle.tN "UNASSIGNED_STACK" Bundle.steD A s s.heap) (hN : vx_Zq Bundle.tN "SUPPRESSED_SENTINEL" Bundle.listD A s s.heap) (hS : va_S A s.heap H locs) (hsize : ls.size = c.maxLocals)
    (d0 : decode cc pc = .ok (.new ik, 3)) (d3 : decode cc (pc + 3) = .ok (.dup, 1)) (d4 : decode cc (pc + 4) = .ok (.ldc is, 2)) (d6 : decode cc (pc + 6) = .ok (.invokespecial ic, 3)) (d9 : decode cc (pc + 9) = .ok (.athrow, 1))
    (hout : ∀ x ∈ c.exceptionTable.toList, covers x (pc + 9) = false)
    (hRframes : names.length + 3 < R.frames) (hRlocals : (rest.map fun v => v.category).sum + (13 * (names.length + 1) + 43) ≤ R.locals) (hRcells : cells + 1 ≤ R.cells) (hRslots : slots + 6 ≤ R.slots) (hlocks : meth.locks = false)
    (hx : ∀ t : State, s.vm.Alike t.vm → H.size ≤ t.heap.size → (∀ q : Nat, q < H.size → t.heap[q]? = H[q]?) → XC cls s t)
    (hf : ∀ z ∈ locs, free z.base) (hc : cells + 1 ≤ mc) (hs : slots + 6 ≤ ms) :
    W p l e R s m args below meth c H locs cells slots (vx_MQ below Qc XC args s mc ms free) (F0 m pc ls rest) := by
  intro T hT X
  have htr : e.platform.stackTraces = false := (show e.platform.stackTraces = l.stackTraces by rw [X.admits.platform]).trans hl
  have Y := vx_rebase X (R' := { frames := R.frames, locals := R.locals, cells := 1, slots := 6 }) (Nat.le_refl _) (Nat.le_refl _) hRcells hRslots
  obtain ⟨s', hA⟩ : ∃ z, z = (T.setVm s.vm).setFrames (.invoking m args :: below) := ⟨_, rfl⟩
  rw [← hA] at Y
  have hvm : s'.vm = s.vm := by rw [hA]; rfl
  have hhp : s'.heap = H := by rw [hA]; exact hT
  have hW0 : s.WarmedH s'.vm := by rw [hvm]; exact State.WarmedH.refl s
  have hat' : ∀ w ∈ vx_atS own ic cls names, w.before args s' = true := fun w hw => vx_ot_at hW0 hvm.symm (hgood w (List.mem_cons_of_mem _ (List.mem_cons_of_mem _ hw))) (hat w hw)
  have hk' : (Cond.classLink own ik cls).before args s' = true := vx_ot_at hW0 hvm.symm (hgood _ List.mem_cons_self) hk
  have hini' : (Cond.initialized cls).before args s' = true := vx_ot_at hW0 hvm.symm (hgood _ (List.mem_cons_of_mem _ List.mem_cons_self)) hini
  have hU' : vx_Zq Bundle.tN "UNASSIGNED_STACK" Bundle.steD A s' s'.heap := by rw [hhp]; exact vx_Zq.moved hW0.alike (hU.kept hS.2.1)
  have hN' : vx_Zq Bundle.tN "SUPPRESSED_SENTINEL" Bundle.listD A s' s'.heap := by rw [hhp]; exact vx_Zq.moved hW0.alike (hN.kept hS.2.1)
  have h : ∀ w ∈ Bundle.ownAtoms own ic cls names, w.before args s' = true := vx_own hat' (vx_isRefq hU'.1) (vx_isRefq hN'.1) hU'.2.word hN'.2.word
  have hown' : s'.vm.findClass own = some m.cls := by rw [hvm]; exact hown
  have hins : (Cond.instantiable cls 6).before args s' = true := h _ (by simp [Bundle.ownAtoms])
  obtain ⟨vm₁, cX, kX, hfX, hkX, -, -, X₁, st1⟩ := Y.newCold hexec (own := own) (C := cls) (index := ik) (n := 6) hown' hk' hins hini'
    (g := F0 m pc ls rest) rfl (by rw [hb]; exact d0) (Nat.le_refl _) (Nat.le_refl _)
  generalize hT1 : (T.setVm vm₁).pushCell { cls := cX, slots := kX.instanceTypes.map defaultValue, vm := .none } = T1 at X₁ st1
  have hcat : (Value.ref T.heap.size).category = 1 := rfl
  have hcellA : T1.heap[T.heap.size]? = some (freshCell cX kX) := by rw [← hT1]; exact State.heap_pushCell_size _ _
  have d3' : decode c.code (pc + 3) = .ok (.dup, 1) := by rw [hb]; exact d3
  have d4' : decode c.code (pc + 4) = .ok (.ldc is, 2) := by rw [hb]; exact d4
  have hstr' : vk_R own is text sa s' := vk_R.warm hW0 hstr
  obtain ⟨U, hsteps, hrun, hend, hW, hsame, ce, hce, hO⟩ := X₁.ctorThrowS hexec htr (own := own) (cls := cls) (names := names) (ic := ic) hown' hcls hnames h (fun x hx => nomatch hx) hfX hkX hcellA (by rw [hhp, hT]; exact Nat.le_refl _) (msg := .ref sa) rfl
    (g := { method := m, pc := pc + 6, locals := ls, stack := .ref sa :: .ref T.heap.size :: .ref T.heap.size :: rest, locked := none }) rfl hsize rfl rfl (rest := rest) rfl
    (by rw [hb]; exact d6) (by rw [hb]; exact d9) hout hRframes (by simp only [List.map_cons, List.sum_cons, hcat]; omega) hlocks
  obtain ⟨f1, f2⟩ := vx_frame hsame
  rw [hhp] at f1 f2
  have hWs : s.WarmedH U.vm := State.WarmedH.trans hW0 hW
  have hcl : s.vm.findClass cls = some ce.cls := by
    have h9 := hO.cls
    rw [hvm] at h9
    exact h9
  have hall : s.sameButNew ({ U with vm := s.vm } : State) locs mc ms := by
    subst hA
    obtain ⟨e1, e2⟩ := hsame
    rw [State.setFrames_setFrames] at e1
    have h2 : (T.setVm s.vm).sameButNew ({ U with vm := s.vm } : State) [] (0 + 1) (0 + 6) := ⟨e1, e2⟩
    have h3 := X.same.trans h2
    rw [List.append_nil] at h3
    exact h3.mono hc hs
  refine ⟨U, ?_, .threw T.heap.size, hrun, hend, Or.inr ⟨T.heap.size, rfl, cls, ce, locs, hx U hWs.alike f1 (fun q hq => f2 q hq (fun z hz => nomatch hz)), hce, hO.vm, hcl, hWs, hall, hf⟩⟩
  refine st1 _ ?_
  show Steps p.tables e below (T1.setTop { method := m, pc := pc + 3, locals := ls, stack := .ref T.heap.size :: rest, locked := none }) _
  jvm_step X₁.here [X₁.here.top, hexec, d3', Value.category]
  exact X₁.ldcString hexec (own := own) (text := text) (index := is) (a := sa) hown' hstr'.1 hstr'.2
    (g := { method := m, pc := pc + 4, locals := ls, stack := .ref T.heap.size :: .ref T.heap.size :: rest, locked := none }) rfl d4' _ hsteps
/-- 'throw new E("text")', the text by a wide index -/
theorem vx_throwSW {cc : ByteArray} {pc : Nat} (hexec : p.tables.exec = Jvm.exec) (hb : c.code = cc) (hl : l.stackTraces = false) {own cls text : String} {names : List String} {ik is ic mc ms sa : Nat} {A : Nat → Prop}
    (hown : s.vm.findClass own = some m.cls) (hcls : Bundle.fit cls = true) (hnames : ∀ n ∈ names, Bundle.fit n = true)
    (hk : (Cond.classLink own ik cls).before args s = true) (hini : (Cond.initialized cls).before args s = true) (hstr : vk_R own is text sa s) (hat : ∀ w ∈ vx_atS own ic cls names, w.before args s = true)
    (hgood : ∀ w ∈ Cond.classLink own ik cls :: Cond.initialized cls :: vx_atS own ic cls names, vx_ot w = true)
    (hU : vx_Zq Bundle.tN "UNASSIGNED_STACK" Bundle.steD A s s.heap) (hN : vx_Zq Bundle.tN "SUPPRESSED_SENTINEL" Bundle.listD A s s.heap) (hS : va_S A s.heap H locs) (hsize : ls.size = c.maxLocals)
    (d0 : decode cc pc = .ok (.new ik, 3)) (d3 : decode cc (pc + 3) = .ok (.dup, 1)) (d4 : decode cc (pc + 4) = .ok (.ldc_w is, 3)) (d7 : decode cc (pc + 7) = .ok (.invokespecial ic, 3)) (d10 : decode cc (pc + 10) = .ok (.athrow, 1))
    (hout : ∀ x ∈ c.exceptionTable.toList, covers x (pc + 10) = false)
    (hRframes : names.length + 3 < R.frames) (hRlocals : (rest.map fun v => v.category).sum + (13 * (names.length + 1) + 43) ≤ R.locals) (hRcells : cells + 1 ≤ R.cells) (hRslots : slots + 6 ≤ R.slots) (hlocks : meth.locks = false)
    (hx : ∀ t : State, s.vm.Alike t.vm → H.size ≤ t.heap.size → (∀ q : Nat, q < H.size → t.heap[q]? = H[q]?) → XC cls s t)
    (hf : ∀ z ∈ locs, free z.base) (hc : cells + 1 ≤ mc) (hs : slots + 6 ≤ ms) :
    W p l e R s m args below meth c H locs cells slots (vx_MQ below Qc XC args s mc ms free) (F0 m pc ls rest) := by
  intro T hT X
  have htr : e.platform.stackTraces = false := (show e.platform.stackTraces = l.stackTraces by rw [X.admits.platform]).trans hl
  have Y := vx_rebase X (R' := { frames := R.frames, locals := R.locals, cells := 1, slots := 6 }) (Nat.le_refl _) (Nat.le_refl _) hRcells hRslots
  obtain ⟨s', hA⟩ : ∃ z, z = (T.setVm s.vm).setFrames (.invoking m args :: below) := ⟨_, rfl⟩
  rw [← hA] at Y
  have hvm : s'.vm = s.vm := by rw [hA]; rfl
  have hhp : s'.heap = H := by rw [hA]; exact hT
  have hW0 : s.WarmedH s'.vm := by rw [hvm]; exact State.WarmedH.refl s
  have hat' : ∀ w ∈ vx_atS own ic cls names, w.before args s' = true := fun w hw => vx_ot_at hW0 hvm.symm (hgood w (List.mem_cons_of_mem _ (List.mem_cons_of_mem _ hw))) (hat w hw)
  have hk' : (Cond.classLink own ik cls).before args s' = true := vx_ot_at hW0 hvm.symm (hgood _ List.mem_cons_self) hk
  have hini' : (Cond.initialized cls).before args s' = true := vx_ot_at hW0 hvm.symm (hgood _ (List.mem_cons_of_mem _ List.mem_cons_self)) hini
  have hU' : vx_Zq Bundle.tN "UNASSIGNED_STACK" Bundle.steD A s' s'.heap := by rw [hhp]; exact vx_Zq.moved hW0.alike (hU.kept hS.2.1)
  have hN' : vx_Zq Bundle.tN "SUPPRESSED_SENTINEL" Bundle.listD A s' s'.heap := by rw [hhp]; exact vx_Zq.moved hW0.alike (hN.kept hS.2.1)
  have h : ∀ w ∈ Bundle.ownAtoms own ic cls names, w.before args s' = true := vx_own hat' (vx_isRefq hU'.1) (vx_isRefq hN'.1) hU'.2.word hN'.2.word
  have hown' : s'.vm.findClass own = some m.cls := by rw [hvm]; exact hown
  have hins : (Cond.instantiable cls 6).before args s' = true := h _ (by simp [Bundle.ownAtoms])
  obtain ⟨vm₁, cX, kX, hfX, hkX, -, -, X₁, st1⟩ := Y.newCold hexec (own := own) (C := cls) (index := ik) (n := 6) hown' hk' hins hini'
    (g := F0 m pc ls rest) rfl (by rw [hb]; exact d0) (Nat.le_refl _) (Nat.le_refl _)
  generalize hT1 : (T.setVm vm₁).pushCell { cls := cX, slots := kX.instanceTypes.map defaultValue, vm := .none } = T1 at X₁ st1
  have hcat : (Value.ref T.heap.size).category = 1 := rfl
  have hcellA : T1.heap[T.heap.size]? = some (freshCell cX kX) := by rw [← hT1]; exact State.heap_pushCell_size _ _
  have d3' : decode c.code (pc + 3) = .ok (.dup, 1) := by rw [hb]; exact d3
  have d4' : decode c.code (pc + 4) = .ok (.ldc_w is, 3) := by rw [hb]; exact d4
  have hstr' : vk_R own is text sa s' := vk_R.warm hW0 hstr
  obtain ⟨U, hsteps, hrun, hend, hW, hsame, ce, hce, hO⟩ := X₁.ctorThrowS hexec htr (own := own) (cls := cls) (names := names) (ic := ic) hown' hcls hnames h (fun x hx => nomatch hx) hfX hkX hcellA (by rw [hhp, hT]; exact Nat.le_refl _) (msg := .ref sa) rfl
    (g := { method := m, pc := pc + 7, locals := ls, stack := .ref sa :: .ref T.heap.size :: .ref T.heap.size :: rest, locked := none }) rfl hsize rfl rfl (rest := rest) rfl
    (by rw [hb]; exact d7) (by rw [hb]; exact d10) hout hRframes (by simp only [List.map_cons, List.sum_cons, hcat]; omega) hlocks
  obtain ⟨f1, f2⟩ := vx_frame hsame
  rw [hhp] at f1 f2
  have hWs : s.WarmedH U.vm := State.WarmedH.trans hW0 hW
  have hcl : s.vm.findClass cls = some ce.cls := by
    have h9 := hO.cls
    rw [hvm] at h9
    exact h9
  have hall : s.sameButNew ({ U with vm := s.vm } : State) locs mc ms := by
    subst hA
    obtain ⟨e1, e2⟩ := hsame
    rw [State.setFrames_setFrames] at e1
    have h2 : (T.setVm s.vm).sameButNew ({ U with vm := s.vm } : State) [] (0 + 1) (0 + 6) := ⟨e1, e2⟩
    have h3 := X.same.trans h2
    rw [List.append_nil] at h3
    exact h3.mono hc hs
  refine ⟨U, ?_, .threw T.heap.size, hrun, hend, Or.inr ⟨T.heap.size, rfl, cls, ce, locs, hx U hWs.alike f1 (fun q hq => f2 q hq (fun z hz => nomatch hz)), hce, hO.vm, hcl, hWs, hall, hf⟩⟩
  refine st1 _ ?_
  show Steps p.tables e below (T1.setTop { method := m, pc := pc + 3, locals := ls, stack := .ref T.heap.size :: rest, locked := none }) _
  jvm_step X₁.here [X₁.here.top, hexec, d3', Value.category]
  exact X₁.ldcStringW hexec (own := own) (text := text) (index := is) (a := sa) hown' hstr'.1 hstr'.2
    (g := { method := m, pc := pc + 4, locals := ls, stack := .ref T.heap.size :: .ref T.heap.size :: rest, locked := none }) rfl d4' _ hsteps
end Ends
section Bodies
variable {l : Launch}
theorem vx_ofW {y : MethodName} {ws ws' : List Cond} {rm : Room} {Pc : Array Value → State → Prop} {Qc : Array Value → State → Outcome → State → Prop} {XC : String → State → State → Prop} {mc ms : Nat} {free : Addr → Prop} {cc : ByteArray} {maxL : Nat} {ret : Option FieldType}
    (hy : plainName y.cls = true) (hw : ws = Cond.code y cc maxL ret :: ws')
    (body : ∀ p e s m args below meth c s₁, BodyLoose p l y (headSpec ws rm) cc maxL ret e s m args below meth c s₁ → c.maxLocals = maxL → (∀ x ∈ c.exceptionTable.toList, False) → Pc args s →
      W p l e (headSpec ws rm).room s m args below meth c s.heap [] 0 0 (vx_MQ below Qc XC args s mc ms free) (entryFrame m args maxL)) : vx_Met l y ws rm Pc Qc XC mc ms free := by
  refine MetFree.of_bodyS (code := cc) (maxLocals := maxL) (ret := ret) hy ?_ ?_
  · intro args s m h hn
    obtain ⟨meth, c, h1, h2, h3, h4, h5, h6, -, -⟩ := Cond.code_spec hn (atoms_spec (ws := ws) h _ (by rw [hw]; exact List.mem_cons_self))
    exact ⟨meth, c, h1, h2, h3, h4, h5, h6⟩
  · intro p e s m args below meth c s₁ B hml hP _
    have hh0 : s₁.heap = s.heap := by rw [B.state]; rfl
    have ht : ∀ x ∈ c.exceptionTable.toList, False := by
      obtain ⟨meth9, c9, h1, h2, -, -, -, -, h7, -⟩ := Cond.code_spec B.named (atoms_spec (ws := ws) B.pre _ (by rw [hw]; exact List.mem_cons_self))
      cases Option.some.inj (h1.symm.trans B.method)
      cases Option.some.inj (h2.symm.trans (Stand.of_body B).code)
      intro x hx
      rw [Array.isEmpty_iff.mp h7] at hx
      cases hx
    obtain ⟨t, a1, o, b1, b2, b3⟩ := body p e s m args below meth c s₁ B hml ht hP s₁ hh0 (Stand.of_body B)
    exact ⟨t, o, a1, b1, b2, b3⟩
/-- the table of a body with handlers -/
theorem vx_table {p : Program} {x y : MethodName} {S : Spec} {cc bytes : ByteArray} {maxL maxL' : Nat} {ret ret' : Option FieldType} {e : Env} {s s₁ : State} {m : MethodId} {args : Array Value} {below : List Frame} {meth : Method} {c : Code} {hh : List (Nat × Nat × Nat × Nat)}
    (B : BodyLoose p l y S cc maxL ret e s m args below meth c s₁) (h : (Cond.codeWith y bytes maxL' ret' hh).before args s = true) : c.exceptionTable.toList = tableOf hh := by
  obtain ⟨m9, meth9, c9, hn9, h1, h2, -, -, h6, -⟩ := Cond.codeWith_spec h
  cases Option.some.inj (hn9.symm.trans B.named)
  cases Option.some.inj (h1.symm.trans B.method)
  cases Option.some.inj (h2.symm.trans (Stand.of_body B).code)
  rw [← h6, table_eq]
end Bodies
end VXA
/-! ===== END ===== -/
/-! ===== BEGIN a static call of a method with an exception table ===== -/
section VXS
variable {p : Program} {l : Launch} {e : Env} {R : Room} {s : State} {m : MethodId} {args : Array Value} {below : List Frame} {meth : Method} {c : Code} {T : State} {H : Heap} {locs : List Loc} {cells slots : Nat}
abbrev vx_CSW (R : Room) (s : State) (args : Array Value) (own : String) (index : Nat) (y : MethodName) (bytes : ByteArray) (maxL : Nat) (ret : Option FieldType) (hh : List (Nat × Nat × Nat × Nat)) (ws : List Cond) (rm : Room) (mc ms n : Nat) : Prop :=
  (rm.cells = mc ∧ rm.slots = ms ∧ rm.frames + 1 ≤ R.frames ∧ 8 + (maxL + 11) + rm.locals ≤ R.locals ∧ (∀ w ∈ ws, ∀ (a' : Array Value) (U : State), s.WarmedH U.vm → w.before a' U = true) ∧ Cond.codeWith y bytes maxL ret hh ∈ ws) ∧
  (Cond.codeWith y bytes maxL ret hh).before args s = true ∧ (Cond.initialized y.cls).before args s = true ∧ (y.cls ≠ "java/lang/invoke/MethodHandle" ∧ y.cls ≠ "java/lang/invoke/VarHandle") ∧
  (∀ sig, parseMethodDescriptor y.desc = some sig → n = sig.parameters.length) ∧ (Cond.methodLink own index y).before args s = true ∧ (Cond.static y).before args s = true
theorem vx_cwSW {own : String} {index maxL mc ms : Nat} {y : MethodName} {bytes : ByteArray} {ret : Option FieldType} {hh : List (Nat × Nat × Nat × Nat)} {Ts ws ws' : List Cond} {rm : Room} (n : Nat) (ht : ∀ w ∈ Ts, w.before args s = true) (hT : GoodIn Ts (va_wsS own index y ws)) (hw : ws = Cond.codeWith y bytes maxL ret hh :: ws') (hrc : rm.cells = mc) (hrs : rm.slots = ms)
    (hd : y.cls ≠ "java/lang/invoke/MethodHandle" ∧ y.cls ≠ "java/lang/invoke/VarHandle" ∧ (parseMethodDescriptor y.desc).map (fun d => d.parameters.length) = some n) (hR : rm.frames + 1 ≤ R.frames ∧ 8 + (maxL + 11) + rm.locals ≤ R.locals) :
    vx_CSW R s args own index y bytes maxL ret hh ws rm mc ms n := by
  have ok : ∀ w ∈ va_wsS own index y ws, w.before args s = true := fun w h => ht w (hT w h).1
  have hG : GoodIn Ts ws := fun w h => hT w (by unfold va_wsS; exact List.mem_append_right _ h)
  have hc : Cond.codeWith y bytes maxL ret hh ∈ ws := by rw [hw]; exact List.mem_cons_self
  refine ⟨⟨hrc, hrs, hR.1, hR.2, pay_in ht hG, hc⟩, ht _ (hG _ hc).1, ok _ (by simp [va_wsS]), ⟨hd.1, hd.2.1⟩, fun sig h => ?_, ok _ (by simp [va_wsS]), ok _ (by simp [va_wsS])⟩
  have h2 := hd.2.2
  rw [h] at h2
  exact (Option.some.inj h2).symm
theorem vx_callSW (X : Stand p l e R s m args below meth c T locs cells slots) (hexec : p.tables.exec = Jvm.exec) {own : String} {index : Nat} {y : MethodName} {bytes : ByteArray} {maxL : Nat} {ret : Option FieldType} {hh : List (Nat × Nat × Nat × Nat)}
    (hown : s.vm.findClass own = some m.cls) (hlink : (Cond.methodLink own index y).before args s = true) (hstat : (Cond.static y).before args s = true) (hinit : (Cond.initialized y.cls).before args s = true)
    (hcode : (Cond.codeWith y bytes maxL ret hh).before args s = true) (hy : y.cls ≠ "java/lang/invoke/MethodHandle" ∧ y.cls ≠ "java/lang/invoke/VarHandle")
    {W9 : Nat} {Pre : Pt → Array Value → Prop} {Post : Pt → Array Value → Option Value → Pt → Prop} (hK : Back l R p e below s args y 3 W9 Pre Post)
    {g : JFrame} (hg : g.method = m) (hsize : g.locals.size = c.maxLocals) {argsL rest : List Value} (hlen : ∀ sig, parseMethodDescriptor y.desc = some sig → argsL.length = sig.parameters.length)
    (hstack : g.stack = argsL.reverse ++ rest) (hW : 2 * g.monitorRoom + (rest.map fun v => v.category).sum ≤ W9) (hdg : decode c.code g.pc = .ok (.invokestatic index, 3))
    (hpre : ∀ vm₁, s.WarmedH vm₁ → Pre ⟨T.setVm vm₁, locs, cells, slots⟩ argsL.toArray) :
    ∃ (v : Option Value) (vm₁ : Vm) (B : Pt), s.WarmedH vm₁ ∧ Stand p l e R s m args below meth c B.U B.locs B.cells B.slots ∧ Post ⟨T.setVm vm₁, locs, cells, slots⟩ argsL.toArray v B ∧
      ∀ target, Steps p.tables e below (B.U.setTop { g with pc := g.pc + 3, stack := v.toList ++ rest }) target → Steps p.tables e below (T.setTop g) target := by
  obtain ⟨mk, methM, cM, hnamed, hmethM, -, -, -, -, -, -, hsigM⟩ := Cond.codeWith_spec hcode
  have hstatic : methM.isStatic = true := Cond.static_spec hnamed hmethM hstat
  obtain ⟨kP, hkP, -⟩ := className_of_methodNamed hnamed
  have hinitP : kP.init = .initialized := Cond.initialized_spec (findClass_of_methodNamed hnamed) hkP hinit
  obtain ⟨vm₁, X₁, hstep₁⟩ := X.invokestatic hexec hown hlink hnamed hmethM hstatic hkP hinitP hy (g := g) hg (argsL := argsL) (rest := rest) (hlen _ hsigM) hstack hdg
  obtain ⟨v, B, X', hpost, hsteps⟩ := hK m meth c ⟨T.setVm vm₁, locs, cells, slots⟩ { g with stack := rest } (.invokestatic index) mk argsL.toArray X₁ hg hsize hdg hW (X₁.named hnamed) (hpre vm₁ X₁.warmed)
  exact ⟨v, vm₁, B, X₁.warmed, X', hpost, fun target h => hstep₁ _ fun acts => by rw [doInvoke_state]; exact hsteps.trans h⟩
theorem vx_runSW {y : MethodName} {bytes cc : ByteArray} {maxL nL mc ms n index : Nat} {ret : Option FieldType} {hh : List (Nat × Nat × Nat × Nat)} {ws : List Cond} {rm : Room} {Pc : Array Value → State → Prop} {Qc : Array Value → State → Outcome → State → Prop} {free : Addr → Prop} {Ts : List Cond} {own : String} {As rest : List Value} {g : JFrame}
    (S : CallFix p m c cc nL s args Ts own) (hM : Met l y ws rm Pc Qc mc ms free) (cw : vx_CSW R s args own index y bytes maxL ret hh ws rm mc ms n) (hp : PreS s H Pc As)
    (hg : g.method = m) (hn : As.length = n) (hsize : g.locals.size = nL) (hstack : g.stack = As.reverse ++ rest) (hW : 2 * g.monitorRoom + (rest.map fun v => v.category).sum ≤ 8) (hdg : decode cc g.pc = .ok (.invokestatic index, 3)) (hf : cells + mc ≤ R.cells ∧ slots + ms ≤ R.slots) :
    va_Run p l e R s m args below meth c H locs cells slots mc ms g rest (Qc As.toArray) (free) := by
  obtain ⟨⟨hrc, hrs, hfr, hlo, hws, hcw⟩, hcode, hini, hy, hlen, hl, hstt⟩ := cw
  have hK : Back l R p e below s args y 3 8 (PreOf R mc ms Pc) (PostOf Qc mc ms free) := va_backW (hh := hh) (bytes := bytes) (maxL := maxL) (ret := ret) hM hp.1 hrc hrs hfr hlo hws hcw (fun a' U hW => word_at hW (Or.inl (by first | rfl | simp [Cond.onTables, Cond.keeps, Cond.steady])) hini)
  obtain ⟨hx, hb, hml, ho, -⟩ := S
  intro T hT X
  obtain ⟨v, vm₁, ⟨U', l2, c2, s2⟩, hW₁, X', ⟨g', mk, t, L, e1, e2, hq, h1, hL, h2, h3⟩, st⟩ := vx_callSW X hx (hh := hh) (bytes := bytes) (maxL := maxL) (ret := ret) ho hl hstt hini hcode hy hK hg (hsize.trans hml.symm) (argsL := As) (rest := rest) (fun sig h => hn.trans (hlen sig h)) hstack hW (by rw [hb]; exact hdg)
    (fun vm₁ hW₁ => ⟨hf.1, hf.2, hp.2 (T.setVm vm₁) hT hW₁⟩)
  dsimp only [Pt.U, Pt.locs, Pt.cells, Pt.slots] at X' e1 e2 h1 h2 h3 st
  subst h1; subst h2; subst h3
  exact ⟨v, (T.setVm vm₁).calling g' mk As.toArray, t, U', L, hT, X', hL, e1, e2, hq, st⟩
/-- not caught here, past rows that name other classes: it goes on to the caller -/
theorem vx_outP {p : Program} {l : Launch} {e : Env} {R : Room} {s : State} {m : MethodId} {args : Array Value} {below : List Frame} {meth : Method} {c : Code} {H : Heap} {locs : List Loc} {cells slots : Nat} {free : Addr → Prop} {ls : Array Slot} {rest : List Value} {Qc : Array Value → State → Outcome → State → Prop} {XC : String → State → State → Prop}
    {pc : Nat} {own E : String} {ce : Cell} {q : Addr} {mc ms : Nat} (hown : s.vm.findClass own = some m.cls) (hlocks : meth.locks = false)
    (hpass : ∀ z ∈ c.exceptionTable.toList, covers z pc = false ∨ (z.catchType ≠ 0 ∧ ∃ nm : String, (Cond.classLink own z.catchType nm).before args s = true ∧ va_Nc E nm s)) (hcell : H[q]? = some ce) (hv : ce.vm = .none) (hcl : s.vm.findClass E = some ce.cls)
    (hx : ∀ t : State, t.heap = H → s.vm.Alike t.vm → XC E s t) (hf : ∀ z ∈ locs, free z.base) (hc : cells ≤ mc) (hs : slots ≤ ms) :
    vx_W p l e R s m args below meth c H locs cells slots (vx_MQ below Qc XC args s mc ms free) (F0 m pc ls rest) q := by
  intro T hT X
  have hpl : e.platform.magicAccessors = ({} : Platform).magicAccessors := by rw [X.admits.platform]
  obtain ⟨vm', hW', X', st⟩ := Stand.outThrough X hlocks q (g := F0 m pc ls rest) rfl rfl rfl (cell := ce) (by rw [hT]; exact hcell) (by rw [hv]; rfl)
    (by obtain ⟨k9, h9, -⟩ := Vm.findClass_spec hcl; exact ⟨k9, h9⟩) (fun z hz => by
      rcases hpass z hz with h | ⟨hz0, nm, hl1, hn1⟩
      · exact Or.inl h
      · obtain ⟨c6, hc6, hcl6⟩ := Cond.classLink_spec hown hl1 e.platform hpl
        obtain ⟨a8, b8, h1, h2, h3⟩ := hn1
        cases Option.some.inj (h1.symm.trans hcl)
        cases Option.some.inj (h2.symm.trans hc6)
        exact Or.inr ⟨hz0, _, hcl6, h3⟩)
  obtain ⟨g₀, hfr⟩ := X'.frames_eq
  have hcell9 : ((T.setVm vm').setFrames (.throwing q :: below)).heap[q]? = some ce := by
    show T.heap[q]? = some ce
    rw [hT]; exact hcell
  have hend : Ended ((T.setVm vm').setFrames (.throwing q :: below)) below (.threw q) := State.frames_setFrames _ (State.cur_lt_of_frames hfr)
  refine ⟨(T.setVm vm').setFrames (.throwing q :: below), ?_, .threw q, X'.here.running, hend, Or.inr ⟨q, rfl, E, ce, locs, hx _ hT (X'.ends _).1.alike, hcell9, hv, hcl, (X'.ends _).1, (X'.ends _).2.mono hc hs, hf⟩⟩
  rw [X.pushThrowing_eq]
  exact st
/-- a thing of a world lies in the heap -/
theorem vx_lt {D : va_G} {cl : List vw_C} {ws : va_W} {H1 : Heap} (h : va_P D cl ws H1) {k : Nat} {q : Nat × va_E} (hk : ws[k]? = some q) : q.1 < H1.size := (h k q hk).lt
end VXS
/-! ===== END ===== -/
/-! ===== BEGIN methods with a table of their own: called by a name, returning or throwing ===== -/
section VXH
/-! vx_backW, vx_callVX, vx_callSX, vx_callVW, vx_runVW, vx_runVX, vx_runSX, vx_ofWH follow the same proofs as their sisters above (Free/Laws.lean, Shelf42/LK1.lean); vx_outP calls Shelf42/NT130.lean (outThrough). -/
section
variable {l : Launch} {R : Room} {p : Program} {e : Env} {below : List Frame} {s : State} {sargs : Array Value} {y : MethodName} {len W9 : Nat}
theorem vx_backW {ws : List Cond} {rm : Room} {Pc : Array Value → State → Prop} {Qc : Array Value → State → Outcome → State → Prop} {XC : String → State → State → Prop} {mc ms : Nat} {free : Addr → Prop} {bytes : ByteArray} {maxL : Nat} {ret : Option FieldType} {hh : List (Nat × Nat × Nat × Nat)}
    (hM : vx_Met l y ws rm Pc Qc XC mc ms free) (hblind : FrameBlind Pc) (hrc : rm.cells = mc) (hrs : rm.slots = ms)
    (hframes : rm.frames + 1 ≤ R.frames) (hlocals : W9 + (maxL + 11) + rm.locals ≤ R.locals)
    (hws : ∀ w ∈ ws, ∀ a' U, s.WarmedH U.vm → w.before a' U = true) (hcode : Cond.codeWith y bytes maxL ret hh ∈ ws) (hinit : ∀ a' U, s.WarmedH U.vm → (Cond.initialized y.cls).before a' U = true) :
    vx_Back l R p e below s sargs y len W9 (PreOf R mc ms Pc) (PostOf Qc mc ms free) (vx_Post XC mc ms free) := by
  intro m meth c A g ig mk a X hg hsize hdg hW hn hp
  have h1 : (headSpec ws rm).pre.before a A.U = true := atoms_intro fun w hw => hws w hw _ _ X.warmed
  have h2 : (Cond.codeWith y bytes maxL ret hh).before a A.U = true := hws _ hcode _ _ X.warmed
  have h3 : (Cond.initialized y.cls).before a A.U = true := hinit _ _ X.warmed
  have h4 : A.cells + (headSpec ws rm).room.cells ≤ R.cells := by rw [show (headSpec ws rm).room.cells = mc from hrc]; exact hp.1
  have h5 : A.slots + (headSpec ws rm).room.slots ≤ R.slots := by rw [show (headSpec ws rm).room.slots = ms from hrs]; exact hp.2.1
  have hPc : Pc a (A.U.calling g mk a) := hblind _ _ _ _ hp.2.2
  obtain ⟨U, Ls, c0, s0⟩ := A
  dsimp only [Pt.U, Pt.locs, Pt.cells, Pt.slots] at h1 h2 h3 h4 h5 X hn hPc ⊢
  obtain ⟨m9, methY, cY, hn9, hmY, hcY, -, hlY, -⟩ := Cond.codeWith_spec h2
  cases Option.some.inj (hn9.symm.trans hn)
  obtain ⟨kY, hkY, -⟩ := className_of_methodNamed hn
  have hinitY : kY.init = .initialized := Cond.initialized_spec (findClass_of_methodNamed hn) hkY h3
  have h : At U g.method c below := by rw [hg]; exact X.here
  have hlocals9 : W9 + (maxL + 11) + (headSpec ws rm).room.locals ≤ R.locals := hlocals
  have happ : (headSpec ws rm).appliesLoose y e.platform (U.calling g mk a) = true :=
    Spec.appliesLoose_calling (g := g) h hdg hn hkY hinitY
      (X.room_calling (g := g) (R' := (headSpec ws rm).room) hsize hmY hcY hframes (by rw [hlY]; omega) h4 h5) h1
  obtain ⟨mid, hmid⟩ := h.above
  have hfr : (U.setTop g).frames = (.java g :: mid) ++ below := by rw [State.frames_setTop' g h.top, hmid]; rfl
  obtain ⟨o, s₂, hsteps, -, hend, hq⟩ := Steps.callFree hM p X.admits X.cas X.clock (acts := []) hfr happ hPc trivial
  have hq' : vx_Q Qc XC mc ms free a (U.calling g mk a) o s₂ := hq
  rw [State.frames_setTop' g h.top] at hend
  obtain ⟨g₀, hg0⟩ := Option.isSome_iff_exists.mp h.top
  obtain ⟨r, hr⟩ := State.topJava?_eq_some.mp hg0
  have hr' : (({ U with heap := s₂.heap, slotsUsed := s₂.slotsUsed } : State).setVm s₂.vm).frames = .java g₀ :: r := hr
  rcases hq' with ⟨hqc, L, hfe, hL⟩ | ⟨q, rfl, E, ce, L, hx, hce, hcv, hcl, hW₂, hsm, hL⟩
  · obtain ⟨⟨v, rfl⟩, hW₂, e2, q2, q3, q4, q5, q6⟩ := id hfe
    have e3 : s₂ = ({ (U.calling g mk a).setFrames s₂.frames with heap := s₂.heap, slotsUsed := s₂.slotsUsed } : State).setVm s₂.vm := by
      have : s₂ = ({ s₂ with vm := (U.calling g mk a).vm } : State).setVm s₂.vm := rfl
      rw [e2] at this
      exact this
    obtain ⟨c₂, i₂, len₂, hc₂, hd₂, hf₂⟩ := hend
    have hW' : U.WarmedH s₂.vm := hW₂
    have hcc : c₂ = c := by
      have h1 : s₂.code? g.method = U.code? g.method := by
        rw [State.code?_eq, State.code?_eq, hW'.alike.method?]
      exact Option.some.inj (hc₂.symm.trans (h1.trans h.code))
    subst hcc
    have hlen : len₂ = len := by rw [hdg] at hd₂; cases hd₂; rfl
    subst hlen
    have hs₂ : s₂ = (({ U with heap := s₂.heap, slotsUsed := s₂.slotsUsed } : State).setVm s₂.vm).setTop { g with pc := g.pc + len₂, stack := v.toList ++ g.stack } := by
      refine e3.trans ?_
      rw [hf₂, State.calling_eq h.top, State.setFrames_setFrames, State.setTop_of_frames _ hr', hr]
      rfl
    have hsame : U.sameButNew ({ U with heap := s₂.heap, slotsUsed := s₂.slotsUsed } : State) L mc ms := by
      refine ⟨?_, q2, q3, q4, q5, q6⟩
      obtain ⟨t, ht, -⟩ := State.frames_cons hr
      show ({ U with heap := s₂.heap, slotsUsed := s₂.slotsUsed } : State) = { U.setFrames U.frames with heap := s₂.heap, slotsUsed := s₂.slotsUsed }
      rw [State.setFrames_self ht]
    subst hg
    refine Or.inl ⟨v, ⟨(({ U with heap := s₂.heap, slotsUsed := s₂.slotsUsed } : State).setVm s₂.vm), Ls ++ L, c0 + mc, s0 + ms⟩,
      ⟨X.admits, X.cas, X.clock, X.frames, X.room, X.hears, X.method, X.code, (X.here.setHeapUsed s₂.heap s₂.slotsUsed).setVm hW'.alike, X.tail, State.WarmedH.trans X.warmed hW', X.limits, X.bytes, X.same.trans (hsame.setVm s.vm)⟩,
      ⟨g, mk, s₂, L, rfl, rfl, hqc, rfl, hL, rfl, rfl⟩, ?_⟩
    show Steps p.tables e below _ ((({ U with heap := s₂.heap, slotsUsed := s₂.slotsUsed } : State).setVm s₂.vm).setTop { g with pc := g.pc + len₂, stack := v.toList ++ g.stack })
    rw [← hs₂]
    exact hsteps
  · obtain ⟨e2, q2, q3, q4, q5, q6⟩ := id hsm
    have e3 : s₂ = ({ (U.calling g mk a).setFrames s₂.frames with heap := s₂.heap, slotsUsed := s₂.slotsUsed } : State).setVm s₂.vm := by
      have : s₂ = ({ s₂ with vm := (U.calling g mk a).vm } : State).setVm s₂.vm := rfl
      rw [e2] at this
      exact this
    have hf₂ : s₂.frames = .throwing q :: .java g :: U.frames.tail := hend
    have hW' : U.WarmedH s₂.vm := hW₂
    have hs₂ : s₂ = ((({ U with heap := s₂.heap, slotsUsed := s₂.slotsUsed } : State).setVm s₂.vm).setTop g).pushFrame (.throwing q) := by
      refine e3.trans ?_
      rw [hf₂, State.calling_eq h.top, State.setFrames_setFrames, State.pushFrame, State.frames_setTop _ hr', State.setTop_of_frames _ hr', State.setFrames_setFrames, hr]
      rfl
    have hsame : U.sameButNew ({ U with heap := s₂.heap, slotsUsed := s₂.slotsUsed } : State) L mc ms := by
      refine ⟨?_, q2, q3, q4, q5, q6⟩
      obtain ⟨t, ht, -⟩ := State.frames_cons hr
      show ({ U with heap := s₂.heap, slotsUsed := s₂.slotsUsed } : State) = { U.setFrames U.frames with heap := s₂.heap, slotsUsed := s₂.slotsUsed }
      rw [State.setFrames_self ht]
    subst hg
    refine Or.inr ⟨q, ⟨(({ U with heap := s₂.heap, slotsUsed := s₂.slotsUsed } : State).setVm s₂.vm), Ls ++ L, c0 + mc, s0 + ms⟩,
      ⟨X.admits, X.cas, X.clock, X.frames, X.room, X.hears, X.method, X.code, (X.here.setHeapUsed s₂.heap s₂.slotsUsed).setVm hW'.alike, X.tail, State.WarmedH.trans X.warmed hW', X.limits, X.bytes, X.same.trans (hsame.setVm s.vm)⟩,
      ⟨g, mk, s₂, L, E, ce, rfl, rfl, hx, hce, hcv, hcl, rfl, hL, rfl, rfl⟩, ?_⟩
    show Steps p.tables e below _ (((({ U with heap := s₂.heap, slotsUsed := s₂.slotsUsed } : State).setVm s₂.vm).setTop g).pushFrame (.throwing q))
    rw [← hs₂]
    exact hsteps
end
variable {p : Program} {l : Launch} {e : Env} {R : Room} {s : State} {m : MethodId} {args : Array Value} {below : List Frame} {meth : Method} {c : Code} {T : State} {H : Heap} {locs : List Loc} {cells slots : Nat}
theorem vx_callVX (X : Stand p l e R s m args below meth c T locs cells slots) (hexec : p.tables.exec = Jvm.exec) {own C : String} {index : Nat} {y : MethodName} {bytes : ByteArray} {maxL : Nat} {ret : Option FieldType} {hh : List (Nat × Nat × Nat × Nat)}
    (hown : s.vm.findClass own = some m.cls) (hlink : (Cond.methodLink own index y).before args s = true) (hinst : (Cond.instanceMethod y).before args s = true) (hsel : (Cond.selects C y y).before args s = true)
    (hcode : (Cond.codeWith y bytes maxL ret hh).before args s = true) (hy : y.cls ≠ "java/lang/invoke/MethodHandle" ∧ y.cls ≠ "java/lang/invoke/VarHandle")
    {W9 : Nat} {Pre : Pt → Array Value → Prop} {Post : Pt → Array Value → Option Value → Pt → Prop} {PostX : Pt → Array Value → Addr → Pt → Prop} (hK : vx_Back l R p e below s args y 3 W9 Pre Post PostX)
    {b : Addr} {cellB : Cell} (hcell : T.heap[b]? = some cellB) (hobj : cellB.vm.isStatics = false) (hcls : s.vm.findClass C = some cellB.cls)
    {g : JFrame} (hg : g.method = m) (hsize : g.locals.size = c.maxLocals) {argsL rest : List Value} (hlen : ∀ sig, parseMethodDescriptor y.desc = some sig → argsL.length = sig.parameters.length)
    (hstack : g.stack = argsL.reverse ++ .ref b :: rest) (hW : 2 * g.monitorRoom + (rest.map fun v => v.category).sum ≤ W9) (hdg : decode c.code g.pc = .ok (.invokevirtual index, 3))
    (hpre : ∀ vm₁, s.WarmedH vm₁ → Pre ⟨T.setVm vm₁, locs, cells, slots⟩ (Value.ref b :: argsL).toArray) :
    (∃ (v : Option Value) (vm₁ : Vm) (B : Pt), s.WarmedH vm₁ ∧ Stand p l e R s m args below meth c B.U B.locs B.cells B.slots ∧ Post ⟨T.setVm vm₁, locs, cells, slots⟩ (Value.ref b :: argsL).toArray v B ∧
      ∀ target, Steps p.tables e below (B.U.setTop { g with pc := g.pc + 3, stack := v.toList ++ rest }) target → Steps p.tables e below (T.setTop g) target) ∨
    (∃ (q : Addr) (vm₁ : Vm) (B : Pt), s.WarmedH vm₁ ∧ Stand p l e R s m args below meth c B.U B.locs B.cells B.slots ∧ PostX ⟨T.setVm vm₁, locs, cells, slots⟩ (Value.ref b :: argsL).toArray q B ∧
      Steps p.tables e below (T.setTop g) ((B.U.setTop { g with stack := rest }).pushFrame (.throwing q))) := by
  obtain ⟨mk, methM, hnamed, hmethM, hstM, habM⟩ := Cond.instanceMethod_spec hinst
  obtain ⟨m8, methM', cM, hn8, hmethM', -, -, -, -, -, -, hsigM⟩ := Cond.codeWith_spec hcode
  cases Option.some.inj (hn8.symm.trans hnamed)
  cases hmethM.symm.trans hmethM'
  obtain ⟨c2, r2, m2, q1, q2, q3, q4, kP, hkP, hkPi⟩ := Cond.selects_spec hsel
  cases hcls.symm.trans q1
  cases (State.methodFound?_of_named hnamed hy).symm.trans q2
  cases hnamed.symm.trans q3
  have hselP : selectMethod e.platform s.vm cellB.cls mk = .method mk := by rw [Launch.admits_selectMethod X.admits]; exact q4
  obtain ⟨vm₁, X₁, hstep₁⟩ := X.invokevirtual hexec hown hlink hnamed hmethM hstM hkP hkPi hy (a := b) (cell := cellB) hcell
    (fun z h => by rw [h] at hobj; cases hobj) hselP hmethM habM hkP hkPi (g := g) hg (argsL := argsL) (rest := rest) (hlen _ hsigM) hstack hdg
  rcases hK m meth c ⟨T.setVm vm₁, locs, cells, slots⟩ { g with stack := rest } (.invokevirtual index) mk (Value.ref b :: argsL).toArray X₁ hg hsize hdg hW (X₁.named hnamed) (hpre vm₁ X₁.warmed) with ⟨v, B, X', hpost, hsteps⟩ | ⟨q, B, X', hpost, hsteps⟩
  · exact Or.inl ⟨v, vm₁, B, X₁.warmed, X', hpost, fun target h => hstep₁ _ fun acts => by rw [doInvoke_state]; exact hsteps.trans h⟩
  · exact Or.inr ⟨q, vm₁, B, X₁.warmed, X', hpost, hstep₁ _ fun acts => by rw [doInvoke_state]; exact hsteps⟩
theorem vx_callSX (X : Stand p l e R s m args below meth c T locs cells slots) (hexec : p.tables.exec = Jvm.exec) {own : String} {index : Nat} {y : MethodName} {bytes : ByteArray} {maxL : Nat} {ret : Option FieldType} {hh : List (Nat × Nat × Nat × Nat)}
    (hown : s.vm.findClass own = some m.cls) (hlink : (Cond.methodLink own index y).before args s = true) (hstat : (Cond.static y).before args s = true) (hinit : (Cond.initialized y.cls).before args s = true)
    (hcode : (Cond.codeWith y bytes maxL ret hh).before args s = true) (hy : y.cls ≠ "java/lang/invoke/MethodHandle" ∧ y.cls ≠ "java/lang/invoke/VarHandle")
    {W9 : Nat} {Pre : Pt → Array Value → Prop} {Post : Pt → Array Value → Option Value → Pt → Prop} {PostX : Pt → Array Value → Addr → Pt → Prop} (hK : vx_Back l R p e below s args y 3 W9 Pre Post PostX)
    {g : JFrame} (hg : g.method = m) (hsize : g.locals.size = c.maxLocals) {argsL rest : List Value} (hlen : ∀ sig, parseMethodDescriptor y.desc = some sig → argsL.length = sig.parameters.length)
    (hstack : g.stack = argsL.reverse ++ rest) (hW : 2 * g.monitorRoom + (rest.map fun v => v.category).sum ≤ W9) (hdg : decode c.code g.pc = .ok (.invokestatic index, 3))
    (hpre : ∀ vm₁, s.WarmedH vm₁ → Pre ⟨T.setVm vm₁, locs, cells, slots⟩ argsL.toArray) :
    (∃ (v : Option Value) (vm₁ : Vm) (B : Pt), s.WarmedH vm₁ ∧ Stand p l e R s m args below meth c B.U B.locs B.cells B.slots ∧ Post ⟨T.setVm vm₁, locs, cells, slots⟩ argsL.toArray v B ∧
      ∀ target, Steps p.tables e below (B.U.setTop { g with pc := g.pc + 3, stack := v.toList ++ rest }) target → Steps p.tables e below (T.setTop g) target) ∨
    (∃ (q : Addr) (vm₁ : Vm) (B : Pt), s.WarmedH vm₁ ∧ Stand p l e R s m args below meth c B.U B.locs B.cells B.slots ∧ PostX ⟨T.setVm vm₁, locs, cells, slots⟩ argsL.toArray q B ∧
      Steps p.tables e below (T.setTop g) ((B.U.setTop { g with stack := rest }).pushFrame (.throwing q))) := by
  obtain ⟨mk, methM, cM, hnamed, hmethM, -, -, -, -, -, -, hsigM⟩ := Cond.codeWith_spec hcode
  have hstatic : methM.isStatic = true := Cond.static_spec hnamed hmethM hstat
  obtain ⟨kP, hkP, -⟩ := className_of_methodNamed hnamed
  have hinitP : kP.init = .initialized := Cond.initialized_spec (findClass_of_methodNamed hnamed) hkP hinit
  obtain ⟨vm₁, X₁, hstep₁⟩ := X.invokestatic hexec hown hlink hnamed hmethM hstatic hkP hinitP hy (g := g) hg (argsL := argsL) (rest := rest) (hlen _ hsigM) hstack hdg
  rcases hK m meth c ⟨T.setVm vm₁, locs, cells, slots⟩ { g with stack := rest } (.invokestatic index) mk argsL.toArray X₁ hg hsize hdg hW (X₁.named hnamed) (hpre vm₁ X₁.warmed) with ⟨v, B, X', hpost, hsteps⟩ | ⟨q, B, X', hpost, hsteps⟩
  · exact Or.inl ⟨v, vm₁, B, X₁.warmed, X', hpost, fun target h => hstep₁ _ fun acts => by rw [doInvoke_state]; exact hsteps.trans h⟩
  · exact Or.inr ⟨q, vm₁, B, X₁.warmed, X', hpost, hstep₁ _ fun acts => by rw [doInvoke_state]; exact hsteps⟩
theorem vx_callVW (X : Stand p l e R s m args below meth c T locs cells slots) (hexec : p.tables.exec = Jvm.exec) {own C : String} {index : Nat} {y : MethodName} {bytes : ByteArray} {maxL : Nat} {ret : Option FieldType} {hh : List (Nat × Nat × Nat × Nat)}
    (hown : s.vm.findClass own = some m.cls) (hlink : (Cond.methodLink own index y).before args s = true) (hinst : (Cond.instanceMethod y).before args s = true) (hsel : (Cond.selects C y y).before args s = true)
    (hcode : (Cond.codeWith y bytes maxL ret hh).before args s = true) (hy : y.cls ≠ "java/lang/invoke/MethodHandle" ∧ y.cls ≠ "java/lang/invoke/VarHandle")
    {W9 : Nat} {Pre : Pt → Array Value → Prop} {Post : Pt → Array Value → Option Value → Pt → Prop} (hK : Back l R p e below s args y 3 W9 Pre Post)
    {b : Addr} {cellB : Cell} (hcell : T.heap[b]? = some cellB) (hobj : cellB.vm.isStatics = false) (hcls : s.vm.findClass C = some cellB.cls)
    {g : JFrame} (hg : g.method = m) (hsize : g.locals.size = c.maxLocals) {argsL rest : List Value} (hlen : ∀ sig, parseMethodDescriptor y.desc = some sig → argsL.length = sig.parameters.length)
    (hstack : g.stack = argsL.reverse ++ .ref b :: rest) (hW : 2 * g.monitorRoom + (rest.map fun v => v.category).sum ≤ W9) (hdg : decode c.code g.pc = .ok (.invokevirtual index, 3))
    (hpre : ∀ vm₁, s.WarmedH vm₁ → Pre ⟨T.setVm vm₁, locs, cells, slots⟩ (Value.ref b :: argsL).toArray) :
    ∃ (v : Option Value) (vm₁ : Vm) (B : Pt), s.WarmedH vm₁ ∧ Stand p l e R s m args below meth c B.U B.locs B.cells B.slots ∧ Post ⟨T.setVm vm₁, locs, cells, slots⟩ (Value.ref b :: argsL).toArray v B ∧
      ∀ target, Steps p.tables e below (B.U.setTop { g with pc := g.pc + 3, stack := v.toList ++ rest }) target → Steps p.tables e below (T.setTop g) target := by
  obtain ⟨mk, methM, hnamed, hmethM, hstM, habM⟩ := Cond.instanceMethod_spec hinst
  obtain ⟨m8, methM', cM, hn8, hmethM', -, -, -, -, -, -, hsigM⟩ := Cond.codeWith_spec hcode
  cases Option.some.inj (hn8.symm.trans hnamed)
  cases hmethM.symm.trans hmethM'
  obtain ⟨c2, r2, m2, q1, q2, q3, q4, kP, hkP, hkPi⟩ := Cond.selects_spec hsel
  cases hcls.symm.trans q1
  cases (State.methodFound?_of_named hnamed hy).symm.trans q2
  cases hnamed.symm.trans q3
  have hselP : selectMethod e.platform s.vm cellB.cls mk = .method mk := by rw [Launch.admits_selectMethod X.admits]; exact q4
  obtain ⟨vm₁, X₁, hstep₁⟩ := X.invokevirtual hexec hown hlink hnamed hmethM hstM hkP hkPi hy (a := b) (cell := cellB) hcell
    (fun z h => by rw [h] at hobj; cases hobj) hselP hmethM habM hkP hkPi (g := g) hg (argsL := argsL) (rest := rest) (hlen _ hsigM) hstack hdg
  obtain ⟨v, B, X', hpost, hsteps⟩ := hK m meth c ⟨T.setVm vm₁, locs, cells, slots⟩ { g with stack := rest } (.invokevirtual index) mk (Value.ref b :: argsL).toArray X₁ hg hsize hdg hW (X₁.named hnamed) (hpre vm₁ X₁.warmed)
  exact ⟨v, vm₁, B, X₁.warmed, X', hpost, fun target h => hstep₁ _ fun acts => by rw [doInvoke_state]; exact hsteps.trans h⟩
abbrev vx_CVW (R : Room) (s : State) (args : Array Value) (own C : String) (index : Nat) (y : MethodName) (bytes : ByteArray) (maxL : Nat) (ret : Option FieldType) (hh : List (Nat × Nat × Nat × Nat)) (ws : List Cond) (rm : Room) (mc ms n : Nat) : Prop :=
  (rm.cells = mc ∧ rm.slots = ms ∧ rm.frames + 1 ≤ R.frames ∧ 8 + (maxL + 11) + rm.locals ≤ R.locals ∧ (∀ w ∈ ws, ∀ (a' : Array Value) (U : State), s.WarmedH U.vm → w.before a' U = true) ∧ Cond.codeWith y bytes maxL ret hh ∈ ws) ∧
  (Cond.codeWith y bytes maxL ret hh).before args s = true ∧ (Cond.initialized y.cls).before args s = true ∧ (y.cls ≠ "java/lang/invoke/MethodHandle" ∧ y.cls ≠ "java/lang/invoke/VarHandle") ∧
  (∀ sig, parseMethodDescriptor y.desc = some sig → n = sig.parameters.length) ∧ (Cond.methodLink own index y).before args s = true ∧ (Cond.instanceMethod y).before args s = true ∧ (Cond.selects C y y).before args s = true
theorem vx_cwVW {own C : String} {index maxL mc ms : Nat} {y : MethodName} {bytes : ByteArray} {ret : Option FieldType} {hh : List (Nat × Nat × Nat × Nat)} {Ts ws ws' : List Cond} {rm : Room} (n : Nat) (ht : ∀ w ∈ Ts, w.before args s = true) (hT : GoodIn Ts (wsV own index C y ws)) (hw : ws = Cond.codeWith y bytes maxL ret hh :: ws') (hrc : rm.cells = mc) (hrs : rm.slots = ms)
    (hd : y.cls = C ∧ y.cls ≠ "java/lang/invoke/MethodHandle" ∧ y.cls ≠ "java/lang/invoke/VarHandle" ∧ (parseMethodDescriptor y.desc).map (fun d => d.parameters.length) = some n) (hR : rm.frames + 1 ≤ R.frames ∧ 8 + (maxL + 11) + rm.locals ≤ R.locals) :
    vx_CVW R s args own C index y bytes maxL ret hh ws rm mc ms n := by
  obtain ⟨hC, hd⟩ := hd
  subst hC
  have ok : ∀ w ∈ wsV own index y.cls y ws, w.before args s = true := fun w h => ht w (hT w h).1
  have hG : GoodIn Ts ws := fun w h => hT w (by unfold wsV; exact List.mem_append_right _ h)
  have hc : Cond.codeWith y bytes maxL ret hh ∈ ws := by rw [hw]; exact List.mem_cons_self
  refine ⟨⟨hrc, hrs, hR.1, hR.2, pay_in ht hG, hc⟩, ht _ (hG _ hc).1, ok _ (by simp [wsV]), ⟨hd.1, hd.2.1⟩, fun sig h => ?_, ok _ (by simp [wsV]), ok _ (by simp [wsV]), ok _ (by simp [wsV])⟩
  have h2 := hd.2.2
  rw [h] at h2
  exact (Option.some.inj h2).symm
theorem vx_runVW {y : MethodName} {bytes cc : ByteArray} {maxL nL mc ms n index : Nat} {ret : Option FieldType} {hh : List (Nat × Nat × Nat × Nat)} {ws : List Cond} {rm : Room} {Pc : Array Value → State → Prop} {Qc : Array Value → State → Outcome → State → Prop} {free : Addr → Prop} {Ts : List Cond} {own C : String} {b : Addr} {As rest : List Value} {g : JFrame}
    (S : CallFix p m c cc nL s args Ts own) (hM : Met l y ws rm Pc Qc mc ms free) (cw : vx_CVW R s args own C index y bytes maxL ret hh ws rm mc ms n) (hp : PreV s H C b Pc As)
    (hg : g.method = m) (hn : As.length = n) (hsize : g.locals.size = nL) (hstack : g.stack = As.reverse ++ .ref b :: rest) (hW : 2 * g.monitorRoom + (rest.map fun v => v.category).sum ≤ 8) (hdg : decode cc g.pc = .ok (.invokevirtual index, 3)) (hf : cells + mc ≤ R.cells ∧ slots + ms ≤ R.slots) :
    va_Run p l e R s m args below meth c H locs cells slots mc ms g rest (Qc (Value.ref b :: As).toArray) free := by
  obtain ⟨⟨hrc, hrs, hfr, hlo, hws, hcw⟩, hcode, hini, hy, hlen, hl, hin, hse⟩ := cw
  have hK : Back l R p e below s args y 3 8 (PreOf R mc ms Pc) (PostOf Qc mc ms free) := va_backW (hh := hh) (bytes := bytes) (maxL := maxL) (ret := ret) hM hp.1 hrc hrs hfr hlo hws hcw (fun a' U hW => word_at hW (Or.inl (by first | rfl | simp [Cond.onTables, Cond.keeps, Cond.steady])) hini)
  obtain ⟨hx, hb, hml, ho, -⟩ := S
  obtain ⟨-, ⟨cellB, hcB, hoB, hclB⟩, hPc⟩ := hp
  intro T hT X
  obtain ⟨v, vm₁, ⟨U', l2, c2, s2⟩, hW₁, X', ⟨g', mk, t, L, e1, e2, hq, h1, hL, h2, h3⟩, st⟩ := vx_callVW X hx (C := C) (hh := hh) (bytes := bytes) (maxL := maxL) (ret := ret) ho hl hin hse hcode hy hK (by rw [hT]; exact hcB) hoB hclB hg (hsize.trans hml.symm) (argsL := As) (rest := rest) (fun sig h => hn.trans (hlen sig h)) hstack hW (by rw [hb]; exact hdg)
    (fun vm₁ hW₁ => ⟨hf.1, hf.2, hPc (T.setVm vm₁) hT hW₁⟩)
  dsimp only [Pt.U, Pt.locs, Pt.cells, Pt.slots] at X' e1 e2 h1 h2 h3 st
  subst h1; subst h2; subst h3
  exact ⟨v, (T.setVm vm₁).calling g' mk (Value.ref b :: As).toArray, t, U', L, hT, X', hL, e1, e2, hq, st⟩
section
variable {y : MethodName} {bytes cc : ByteArray} {maxL nL mc ms n index : Nat} {ret : Option FieldType} {ws : List Cond} {rm : Room} {Pc : Array Value → State → Prop} {Qc : Array Value → State → Outcome → State → Prop} {XC : String → State → State → Prop} {free : Addr → Prop} {Ts : List Cond} {own C : String} {b : Addr} {As rest : List Value} {g : JFrame}
theorem vx_runVX {hh : List (Nat × Nat × Nat × Nat)} (S : CallFix p m c cc nL s args Ts own) (hM : vx_Met l y ws rm Pc Qc XC mc ms free) (cw : vx_CVW R s args own C index y bytes maxL ret hh ws rm mc ms n) (hp : PreV s H C b Pc As)
    (hg : g.method = m) (hn : As.length = n) (hsize : g.locals.size = nL) (hstack : g.stack = As.reverse ++ .ref b :: rest) (hW : 2 * g.monitorRoom + (rest.map fun v => v.category).sum ≤ 8) (hdg : decode cc g.pc = .ok (.invokevirtual index, 3)) (hf : cells + mc ≤ R.cells ∧ slots + ms ≤ R.slots) :
    vx_Run p l e R s m args below meth c H locs cells slots mc ms g rest (Qc (Value.ref b :: As).toArray) XC free := by
  obtain ⟨⟨hrc, hrs, hfr, hlo, hws, hcw⟩, hcode, hini, hy, hlen, hl, hin, hse⟩ := cw
  have hK : vx_Back l R p e below s args y 3 8 (PreOf R mc ms Pc) (PostOf Qc mc ms free) (vx_Post XC mc ms free) := vx_backW (hh := hh) (bytes := bytes) (maxL := maxL) (ret := ret) hM hp.1 hrc hrs hfr hlo hws hcw (fun a' U hW => word_at hW (Or.inl (by first | rfl | simp [Cond.onTables, Cond.keeps, Cond.steady])) hini)
  obtain ⟨hx, hb, hml, ho, -⟩ := S
  obtain ⟨-, ⟨cellB, hcB, hoB, hclB⟩, hPc⟩ := hp
  intro T hT X
  rcases vx_callVX X hx (C := C) (hh := hh) (bytes := bytes) (maxL := maxL) (ret := ret) ho hl hin hse hcode hy hK (by rw [hT]; exact hcB) hoB hclB hg (hsize.trans hml.symm) (argsL := As) (rest := rest) (fun sig h => hn.trans (hlen sig h)) hstack hW (by rw [hb]; exact hdg)
    (fun vm₁ hW₁ => ⟨hf.1, hf.2, hPc (T.setVm vm₁) hT hW₁⟩) with ⟨v, vm₁, ⟨U', l2, c2, s2⟩, hW₁, X', ⟨g', mk, t, L, e1, e2, hq, h1, hL, h2, h3⟩, st⟩ | ⟨q, vm₁, ⟨U', l2, c2, s2⟩, hW₁, X', ⟨g', mk, t, L, E, ce, e1, e2, hq, hce, hcv, hcl, h1, hL, h2, h3⟩, st⟩
  · dsimp only [Pt.U, Pt.locs, Pt.cells, Pt.slots] at X' e1 e2 h1 h2 h3 st
    subst h1; subst h2; subst h3
    exact Or.inl ⟨v, (T.setVm vm₁).calling g' mk (Value.ref b :: As).toArray, t, U', L, hT, X', hL, e1, e2, hq, st⟩
  · dsimp only [Pt.U, Pt.locs, Pt.cells, Pt.slots] at X' e1 e2 h1 h2 h3 st hcl
    subst h1; subst h2; subst h3
    exact Or.inr ⟨q, (T.setVm vm₁).calling g' mk (Value.ref b :: As).toArray, t, U', L, E, ce, hT, X', hL, e1, e2, hq, hce, hcv, vx_cls hW₁ hcl, st⟩
theorem vx_runSX {hh : List (Nat × Nat × Nat × Nat)} (S : CallFix p m c cc nL s args Ts own) (hM : vx_Met l y ws rm Pc Qc XC mc ms free) (cw : vx_CSW R s args own index y bytes maxL ret hh ws rm mc ms n) (hp : PreS s H Pc As)
    (hg : g.method = m) (hn : As.length = n) (hsize : g.locals.size = nL) (hstack : g.stack = As.reverse ++ rest) (hW : 2 * g.monitorRoom + (rest.map fun v => v.category).sum ≤ 8) (hdg : decode cc g.pc = .ok (.invokestatic index, 3)) (hf : cells + mc ≤ R.cells ∧ slots + ms ≤ R.slots) :
    vx_Run p l e R s m args below meth c H locs cells slots mc ms g rest (Qc As.toArray) XC free := by
  obtain ⟨⟨hrc, hrs, hfr, hlo, hws, hcw⟩, hcode, hini, hy, hlen, hl, hstt⟩ := cw
  have hK : vx_Back l R p e below s args y 3 8 (PreOf R mc ms Pc) (PostOf Qc mc ms free) (vx_Post XC mc ms free) := vx_backW (hh := hh) (bytes := bytes) (maxL := maxL) (ret := ret) hM hp.1 hrc hrs hfr hlo hws hcw (fun a' U hW => word_at hW (Or.inl (by first | rfl | simp [Cond.onTables, Cond.keeps, Cond.steady])) hini)
  obtain ⟨hx, hb, hml, ho, -⟩ := S
  intro T hT X
  rcases vx_callSX X hx (hh := hh) (bytes := bytes) (maxL := maxL) (ret := ret) ho hl hstt hini hcode hy hK hg (hsize.trans hml.symm) (argsL := As) (rest := rest) (fun sig h => hn.trans (hlen sig h)) hstack hW (by rw [hb]; exact hdg)
    (fun vm₁ hW₁ => ⟨hf.1, hf.2, hp.2 (T.setVm vm₁) hT hW₁⟩) with ⟨v, vm₁, ⟨U', l2, c2, s2⟩, hW₁, X', ⟨g', mk, t, L, e1, e2, hq, h1, hL, h2, h3⟩, st⟩ | ⟨q, vm₁, ⟨U', l2, c2, s2⟩, hW₁, X', ⟨g', mk, t, L, E, ce, e1, e2, hq, hce, hcv, hcl, h1, hL, h2, h3⟩, st⟩
  · dsimp only [Pt.U, Pt.locs, Pt.cells, Pt.slots] at X' e1 e2 h1 h2 h3 st
    subst h1; subst h2; subst h3
    exact Or.inl ⟨v, (T.setVm vm₁).calling g' mk As.toArray, t, U', L, hT, X', hL, e1, e2, hq, st⟩
  · dsimp only [Pt.U, Pt.locs, Pt.cells, Pt.slots] at X' e1 e2 h1 h2 h3 st hcl
    subst h1; subst h2; subst h3
    exact Or.inr ⟨q, (T.setVm vm₁).calling g' mk As.toArray, t, U', L, E, ce, hT, X', hL, e1, e2, hq, hce, hcv, vx_cls hW₁ hcl, st⟩
end
end VXH
theorem vx_ofWH {l : Launch} {y : MethodName} {ws ws' : List Cond} {rm : Room} {Pc : Array Value → State → Prop} {Qc : Array Value → State → Outcome → State → Prop} {XC : String → State → State → Prop} {mc ms : Nat} {free : Addr → Prop} {cc : ByteArray} {maxL : Nat} {ret : Option FieldType} {hh : List (Nat × Nat × Nat × Nat)}
    (hy : plainName y.cls = true) (hw : ws = Cond.codeWith y cc maxL ret hh :: ws')
    (body : ∀ p e s m args below meth c s₁, BodyLoose p l y (headSpec ws rm) cc maxL ret e s m args below meth c s₁ → c.maxLocals = maxL → Pc args s →
      W p l e (headSpec ws rm).room s m args below meth c s.heap [] 0 0 (vx_MQ below Qc XC args s mc ms free) (entryFrame m args maxL)) : vx_Met l y ws rm Pc Qc XC mc ms free := by
  refine MetFree.of_bodyS (code := cc) (maxLocals := maxL) (ret := ret) hy ?_ ?_
  · intro args s m h hn
    obtain ⟨m9, meth, c, hn9, h1, h2, h3, h4, -, h5, h6, -⟩ := Cond.codeWith_spec (atoms_spec (ws := ws) h _ (by rw [hw]; exact List.mem_cons_self))
    cases hn.symm.trans hn9
    exact ⟨meth, c, h1, h2, h3, h4, h5, h6⟩
  · intro p e s m args below meth c s₁ B hml hP _
    have hh0 : s₁.heap = s.heap := by rw [B.state]; rfl
    obtain ⟨t, a1, o, b1, b2, b3⟩ := body p e s m args below meth c s₁ B hml hP s₁ hh0 (Stand.of_body B)
    exact ⟨t, o, a1, b1, b2, b3⟩
/-! ===== END ===== -/
end
section
def RX0 : String := "PromiseDesk$Duties"
def TX0 : u_T := fun k => match k with
  | 0 => ("PromiseDesk$Duties", "nodes", "LPromiseDesk$Nodes;", true)
  | 1 => ("PromiseDesk$Duties", "rows", "[LPromiseDesk$Duty;", true)
  | 2 => ("PromiseDesk$Duties", "behind", "[I", true)
  | _ => ("PromiseDesk$Duties", "size", "I", false)
def tyX0 : Nat → FieldType := fun k => match k with
  | 0 => .object "PromiseDesk$Nodes"
  | 1 => .array (.object "PromiseDesk$Duty")
  | 2 => .array .int
  | _ => .int
abbrev wsX00 : List Cond := u_ws RX0 TX0 4
theorem nmX0 : ∀ a, a < 4 → ∀ b, b < 4 → a ≠ b → (TX0 a).2.1 ≠ (TX0 b).2.1 := by decide +kernel
theorem tyX0_ok : ∀ k, k < 4 → parseFieldDescriptor (TX0 k).2.2.1 = some (tyX0 k) := by decide +kernel
abbrev cX0_init : ByteArray := prog_2_method_1_code
def yX0_init : MethodName := ⟨RX0, "<init>", "(LPromiseDesk$Nodes;)V"⟩
abbrev cX0_has : ByteArray := prog_2_method_2_code
def yX0_has : MethodName := ⟨RX0, "has", "(I)Z"⟩
abbrev cX0_howManyOf : ByteArray := prog_2_method_3_code
def yX0_howManyOf : MethodName := ⟨RX0, "howManyOf", "(I)I"⟩
abbrev cX0_replaceBy : ByteArray := prog_2_method_4_code
def yX0_replaceBy : MethodName := ⟨RX0, "replaceBy", "(III)V"⟩
abbrev cX0_gather : ByteArray := prog_2_method_5_code
def yX0_gather : MethodName := ⟨RX0, "gather", "(IIII)V"⟩
abbrev cX0_add : ByteArray := prog_2_method_6_code
def yX0_add : MethodName := ⟨RX0, "add", "(IIZIII)V"⟩
abbrev cX0_isKeptIn : ByteArray := prog_2_method_7_code
def yX0_isKeptIn : MethodName := ⟨RX0, "isKeptIn", "(II)Z"⟩
abbrev cX0_goalHoldsBehindPath : ByteArray := prog_2_method_8_code
def yX0_goalHoldsBehindPath : MethodName := ⟨RX0, "goalHoldsBehindPath", "(LPromiseDesk$Duty;I)Z"⟩
abbrev cX0_follow : ByteArray := prog_2_method_9_code
def yX0_follow : MethodName := ⟨RX0, "follow", "(II)I"⟩
abbrev cX0_leastBroken : ByteArray := prog_2_method_10_code
def yX0_leastBroken : MethodName := ⟨RX0, "leastBroken", "(I)I"⟩
abbrev cX0_howManyBroken : ByteArray := prog_2_method_11_code
def yX0_howManyBroken : MethodName := ⟨RX0, "howManyBroken", "(III)I"⟩
abbrev cX0_howManyBrokenPairs : ByteArray := prog_2_method_12_code
def yX0_howManyBrokenPairs : MethodName := ⟨RX0, "howManyBrokenPairs", "()I"⟩
abbrev cX0_howManyValid : ByteArray := prog_2_method_13_code
def yX0_howManyValid : MethodName := ⟨RX0, "howManyValid", "()I"⟩
def RX1 : String := "PromiseDesk$Duty"
def TX1 : u_T := fun k => match k with
  | 0 => ("PromiseDesk$Duty", "assumed", "I", false)
  | 1 => ("PromiseDesk$Duty", "guard", "I", false)
  | 2 => ("PromiseDesk$Duty", "guardWanted", "Z", false)
  | 3 => ("PromiseDesk$Duty", "path", "[I", true)
  | 4 => ("PromiseDesk$Duty", "pathLength", "I", false)
  | _ => ("PromiseDesk$Duty", "goal", "I", false)
def tyX1 : Nat → FieldType := fun k => match k with
  | 0 => .int
  | 1 => .int
  | 2 => .boolean
  | 3 => .array .int
  | 4 => .int
  | _ => .int
abbrev wsX10 : List Cond := u_ws RX1 TX1 6
theorem nmX1 : ∀ a, a < 6 → ∀ b, b < 6 → a ≠ b → (TX1 a).2.1 ≠ (TX1 b).2.1 := by decide +kernel
theorem tyX1_ok : ∀ k, k < 6 → parseFieldDescriptor (TX1 k).2.2.1 = some (tyX1 k) := by decide +kernel
abbrev cX1_init : ByteArray := prog_3_method_1_code
def yX1_init : MethodName := ⟨RX1, "<init>", "()V"⟩
def RX2 : String := "PromiseDesk$Nodes"
def TX2 : u_T := fun k => match k with
  | 0 => ("PromiseDesk$Nodes", "kinds", "[I", true)
  | 1 => ("PromiseDesk$Nodes", "as", "[I", true)
  | 2 => ("PromiseDesk$Nodes", "bs", "[I", true)
  | 3 => ("PromiseDesk$Nodes", "cs", "[I", true)
  | 4 => ("PromiseDesk$Nodes", "heights", "[I", true)
  | _ => ("PromiseDesk$Nodes", "size", "I", false)
def tyX2 : Nat → FieldType := fun k => match k with
  | 0 => .array .int
  | 1 => .array .int
  | 2 => .array .int
  | 3 => .array .int
  | 4 => .array .int
  | _ => .int
abbrev wsX20 : List Cond := u_ws RX2 TX2 6
theorem nmX2 : ∀ a, a < 6 → ∀ b, b < 6 → a ≠ b → (TX2 a).2.1 ≠ (TX2 b).2.1 := by decide +kernel
theorem tyX2_ok : ∀ k, k < 6 → parseFieldDescriptor (TX2 k).2.2.1 = some (tyX2 k) := by decide +kernel
abbrev cX2_init : ByteArray := prog_4_method_1_code
def yX2_init : MethodName := ⟨RX2, "<init>", "()V"⟩
abbrev cX2_has : ByteArray := prog_4_method_2_code
def yX2_has : MethodName := ⟨RX2, "has", "(II)Z"⟩
abbrev cX2_haveWordsFor : ByteArray := prog_4_method_3_code
def yX2_haveWordsFor : MethodName := ⟨RX2, "haveWordsFor", "(IIII)Z"⟩
abbrev cX2_heightOf : ByteArray := prog_4_method_4_code
def yX2_heightOf : MethodName := ⟨RX2, "heightOf", "(IIII)I"⟩
abbrev cX2_add : ByteArray := prog_4_method_5_code
def yX2_add : MethodName := ⟨RX2, "add", "(IIIII)I"⟩
abbrev cX2_numberIn : ByteArray := prog_4_method_6_code
def yX2_numberIn : MethodName := ⟨RX2, "numberIn", "(II)I"⟩
abbrev cX2_isTrueIn : ByteArray := prog_4_method_7_code
def yX2_isTrueIn : MethodName := ⟨RX2, "isTrueIn", "(II)Z"⟩
abbrev cX2_fits : ByteArray := prog_4_method_8_code
def yX2_fits : MethodName := ⟨RX2, "fits", "(II)Z"⟩
abbrev cX2_heightBelow : ByteArray := prog_4_method_9_code
def yX2_heightBelow : MethodName := ⟨RX2, "heightBelow", "(II)I"⟩
abbrev cX2_sortOf : ByteArray := prog_4_method_10_code
def yX2_sortOf : MethodName := ⟨RX2, "sortOf", "(I)I"⟩
def RX3 : String := "PromiseDesk$Runner"
def TX3 : u_T := fun k => match k with
  | 0 => ("PromiseDesk$Runner", "nodes", "LPromiseDesk$Nodes;", true)
  | 1 => ("PromiseDesk$Runner", "current", "I", false)
  | _ => ("PromiseDesk$Runner", "stepsLeft", "I", false)
def tyX3 : Nat → FieldType := fun k => match k with
  | 0 => .object "PromiseDesk$Nodes"
  | 1 => .int
  | _ => .int
abbrev wsX30 : List Cond := u_ws RX3 TX3 3
theorem nmX3 : ∀ a, a < 3 → ∀ b, b < 3 → a ≠ b → (TX3 a).2.1 ≠ (TX3 b).2.1 := by decide +kernel
theorem tyX3_ok : ∀ k, k < 3 → parseFieldDescriptor (TX3 k).2.2.1 = some (tyX3 k) := by decide +kernel
abbrev cX3_init : ByteArray := prog_5_method_1_code
def yX3_init : MethodName := ⟨RX3, "<init>", "(LPromiseDesk$Nodes;)V"⟩
abbrev cX3_storeBehind : ByteArray := prog_5_method_2_code
def yX3_storeBehind : MethodName := ⟨RX3, "storeBehind", "(III)I"⟩
abbrev cX3_ends : ByteArray := prog_5_method_3_code
def yX3_ends : MethodName := ⟨RX3, "ends", "(I)Z"⟩
abbrev cX3_loopEnds : ByteArray := prog_5_method_4_code
def yX3_loopEnds : MethodName := ⟨RX3, "loopEnds", "(II)Z"⟩
def RX4 : String := "PromiseDesk"
def TX4 : u_T := fun k => match k with
  | 0 => ("PromiseDesk", "nodes", "LPromiseDesk$Nodes;", true)
  | 1 => ("PromiseDesk", "runner", "LPromiseDesk$Runner;", true)
  | _ => ("PromiseDesk", "duties", "LPromiseDesk$Duties;", true)
def tyX4 : Nat → FieldType := fun k => match k with
  | 0 => .object "PromiseDesk$Nodes"
  | 1 => .object "PromiseDesk$Runner"
  | _ => .object "PromiseDesk$Duties"
abbrev wsX40 : List Cond := u_ws RX4 TX4 3
theorem nmX4 : ∀ a, a < 3 → ∀ b, b < 3 → a ≠ b → (TX4 a).2.1 ≠ (TX4 b).2.1 := by decide +kernel
theorem tyX4_ok : ∀ k, k < 3 → parseFieldDescriptor (TX4 k).2.2.1 = some (tyX4 k) := by decide +kernel
abbrev cX4_init : ByteArray := prog_1_method_1_code
def yX4_init : MethodName := ⟨RX4, "<init>", "()V"⟩
abbrev cX4_make : ByteArray := prog_1_method_2_code
def yX4_make : MethodName := ⟨RX4, "make", "(IIII)I"⟩
abbrev cX4_value : ByteArray := prog_1_method_3_code
def yX4_value : MethodName := ⟨RX4, "value", "(II)I"⟩
abbrev cX4_holds : ByteArray := prog_1_method_4_code
def yX4_holds : MethodName := ⟨RX4, "holds", "(II)Z"⟩
abbrev cX4_run : ByteArray := prog_1_method_5_code
def yX4_run : MethodName := ⟨RX4, "run", "(III)I"⟩
abbrev cX4_promise : ByteArray := prog_1_method_6_code
def yX4_promise : MethodName := ⟨RX4, "promise", "(III)I"⟩
abbrev cX4_kept : ByteArray := prog_1_method_7_code
def yX4_kept : MethodName := ⟨RX4, "kept", "(II)Z"⟩
abbrev cX4_decide : ByteArray := prog_1_method_8_code
def yX4_decide : MethodName := ⟨RX4, "decide", "(I)I"⟩
abbrev cX4_broken : ByteArray := prog_1_method_9_code
def yX4_broken : MethodName := ⟨RX4, "broken", "(III)I"⟩
abbrev cX4_part : ByteArray := prog_1_method_10_code
def yX4_part : MethodName := ⟨RX4, "part", "()D"⟩
abbrev cX4_count : ByteArray := prog_1_method_11_code
def yX4_count : MethodName := ⟨RX4, "count", "(I)I"⟩
abbrev cX4_isStore : ByteArray := prog_1_method_12_code
def yX4_isStore : MethodName := ⟨RX4, "isStore", "(I)Z"⟩
abbrev cX4_changedStore : ByteArray := prog_1_method_13_code
def yX4_changedStore : MethodName := ⟨RX4, "changedStore", "(III)I"⟩
def RX5 : String := "PromiseDeskModel"
def TX5 : u_T := fun k => match k with
  | 0 => ("PromiseDeskModel", "thrown", "I", false)
  | 1 => ("PromiseDeskModel", "nodes", "I", false)
  | 2 => ("PromiseDeskModel", "kinds", "[I", true)
  | 3 => ("PromiseDeskModel", "first", "[I", true)
  | 4 => ("PromiseDeskModel", "second", "[I", true)
  | 5 => ("PromiseDeskModel", "third", "[I", true)
  | 6 => ("PromiseDeskModel", "heights", "[I", true)
  | 7 => ("PromiseDeskModel", "below", "[J", true)
  | 8 => ("PromiseDeskModel", "given", "[I", true)
  | 9 => ("PromiseDeskModel", "targets", "I", false)
  | 10 => ("PromiseDeskModel", "command", "[I", true)
  | 11 => ("PromiseDeskModel", "behind", "[I", true)
  | 12 => ("PromiseDeskModel", "duties", "I", false)
  | 13 => ("PromiseDeskModel", "premise", "[I", true)
  | 14 => ("PromiseDeskModel", "about", "[I", true)
  | 15 => ("PromiseDeskModel", "target", "[I", true)
  | 16 => ("PromiseDeskModel", "newDuties", "I", false)
  | 17 => ("PromiseDeskModel", "newTargets", "I", false)
  | 18 => ("PromiseDeskModel", "newPremise", "[I", true)
  | 19 => ("PromiseDeskModel", "newAbout", "[I", true)
  | 20 => ("PromiseDeskModel", "newTarget", "[I", true)
  | 21 => ("PromiseDeskModel", "newCommand", "[I", true)
  | 22 => ("PromiseDeskModel", "newBehind", "[I", true)
  | 23 => ("PromiseDeskModel", "openCommand", "[I", true)
  | 24 => ("PromiseDeskModel", "openTarget", "[I", true)
  | 25 => ("PromiseDeskModel", "looked", "[Z", true)
  | 26 => ("PromiseDeskModel", "bad", "[I", true)
  | _ => ("PromiseDeskModel", "stack", "[I", true)
def tyX5 : Nat → FieldType := fun k => match k with
  | 0 => .int
  | 1 => .int
  | 2 => .array .int
  | 3 => .array .int
  | 4 => .array .int
  | 5 => .array .int
  | 6 => .array .int
  | 7 => .array .long
  | 8 => .array .int
  | 9 => .int
  | 10 => .array .int
  | 11 => .array .int
  | 12 => .int
  | 13 => .array .int
  | 14 => .array .int
  | 15 => .array .int
  | 16 => .int
  | 17 => .int
  | 18 => .array .int
  | 19 => .array .int
  | 20 => .array .int
  | 21 => .array .int
  | 22 => .array .int
  | 23 => .array .int
  | 24 => .array .int
  | 25 => .array .boolean
  | 26 => .array .int
  | _ => .array .int
abbrev wsX50 : List Cond := u_ws RX5 TX5 28
theorem nmX5 : ∀ a, a < 28 → ∀ b, b < 28 → a ≠ b → (TX5 a).2.1 ≠ (TX5 b).2.1 := by decide +kernel
theorem tyX5_ok : ∀ k, k < 28 → parseFieldDescriptor (TX5 k).2.2.1 = some (tyX5 k) := by decide +kernel
abbrev cX5_init : ByteArray := prog_7_method_1_code
def yX5_init : MethodName := ⟨RX5, "<init>", "()V"⟩
abbrev cX5_thrown : ByteArray := prog_7_method_2_code
def yX5_thrown : MethodName := ⟨RX5, "thrown", "()I"⟩
abbrev cX5_refuse : ByteArray := prog_7_method_3_code
def yX5_refuse : MethodName := ⟨RX5, "refuse", "(I)I"⟩
abbrev cX5_in : ByteArray := prog_7_method_4_code
def yX5_in : MethodName := ⟨RX5, "in", "(III)Z"⟩
abbrev cX5_isKind : ByteArray := prog_7_method_5_code
def yX5_isKind : MethodName := ⟨RX5, "isKind", "(III)Z"⟩
abbrev cX5_isExpression : ByteArray := prog_7_method_6_code
def yX5_isExpression : MethodName := ⟨RX5, "isExpression", "(I)Z"⟩
abbrev cX5_isCondition : ByteArray := prog_7_method_7_code
def yX5_isCondition : MethodName := ⟨RX5, "isCondition", "(I)Z"⟩
abbrev cX5_isCommand : ByteArray := prog_7_method_8_code
def yX5_isCommand : MethodName := ⟨RX5, "isCommand", "(I)Z"⟩
abbrev cX5_fitting : ByteArray := prog_7_method_9_code
def yX5_fitting : MethodName := ⟨RX5, "fitting", "(IIII)Z"⟩
abbrev cX5_firstIsNode : ByteArray := prog_7_method_10_code
def yX5_firstIsNode : MethodName := ⟨RX5, "firstIsNode", "(I)Z"⟩
abbrev cX5_secondIsNode : ByteArray := prog_7_method_11_code
def yX5_secondIsNode : MethodName := ⟨RX5, "secondIsNode", "(I)Z"⟩
abbrev cX5_heightWith : ByteArray := prog_7_method_12_code
def yX5_heightWith : MethodName := ⟨RX5, "heightWith", "(II)I"⟩
abbrev cX5_make : ByteArray := prog_7_method_13_code
def yX5_make : MethodName := ⟨RX5, "make", "(IIII)I"⟩
abbrev cX5_variable : ByteArray := prog_7_method_14_code
def yX5_variable : MethodName := ⟨RX5, "variable", "(II)I"⟩
abbrev cX5_give : ByteArray := prog_7_method_15_code
def yX5_give : MethodName := ⟨RX5, "give", "(II)I"⟩
abbrev cX5_reckon : ByteArray := prog_7_method_16_code
def yX5_reckon : MethodName := ⟨RX5, "reckon", "(II)I"⟩
abbrev cX5_isTrue : ByteArray := prog_7_method_17_code
def yX5_isTrue : MethodName := ⟨RX5, "isTrue", "(II)Z"⟩
abbrev cX5_changed : ByteArray := prog_7_method_18_code
def yX5_changed : MethodName := ⟨RX5, "changed", "(II)I"⟩
abbrev cX5_value : ByteArray := prog_7_method_19_code
def yX5_value : MethodName := ⟨RX5, "value", "(II)I"⟩
abbrev cX5_holds : ByteArray := prog_7_method_20_code
def yX5_holds : MethodName := ⟨RX5, "holds", "(II)Z"⟩
abbrev cX5_run : ByteArray := prog_7_method_21_code
def yX5_run : MethodName := ⟨RX5, "run", "(III)I"⟩
abbrev cX5_newTarget : ByteArray := prog_7_method_22_code
def yX5_newTarget : MethodName := ⟨RX5, "newTarget", "(II)I"⟩
abbrev cX5_duty : ByteArray := prog_7_method_23_code
def yX5_duty : MethodName := ⟨RX5, "duty", "(III)V"⟩
abbrev cX5_makeDuties : ByteArray := prog_7_method_24_code
def yX5_makeDuties : MethodName := ⟨RX5, "makeDuties", "(III)V"⟩
abbrev cX5_open : ByteArray := prog_7_method_25_code
def yX5_open : MethodName := ⟨RX5, "open", "(III)I"⟩
abbrev cX5_promise : ByteArray := prog_7_method_26_code
def yX5_promise : MethodName := ⟨RX5, "promise", "(III)I"⟩
abbrev cX5_reaches : ByteArray := prog_7_method_27_code
def yX5_reaches : MethodName := ⟨RX5, "reaches", "(II)Z"⟩
abbrev cX5_keeps : ByteArray := prog_7_method_28_code
def yX5_keeps : MethodName := ⟨RX5, "keeps", "(II)Z"⟩
abbrev cX5_look : ByteArray := prog_7_method_29_code
def yX5_look : MethodName := ⟨RX5, "look", "(I)V"⟩
abbrev cX5_isBad : ByteArray := prog_7_method_30_code
def yX5_isBad : MethodName := ⟨RX5, "isBad", "(II)Z"⟩
abbrev cX5_countBad : ByteArray := prog_7_method_31_code
def yX5_countBad : MethodName := ⟨RX5, "countBad", "(III)I"⟩
abbrev cX5_kept : ByteArray := prog_7_method_32_code
def yX5_kept : MethodName := ⟨RX5, "kept", "(II)Z"⟩
abbrev cX5_decide : ByteArray := prog_7_method_33_code
def yX5_decide : MethodName := ⟨RX5, "decide", "(I)I"⟩
abbrev cX5_broken : ByteArray := prog_7_method_34_code
def yX5_broken : MethodName := ⟨RX5, "broken", "(III)I"⟩
abbrev cX5_part : ByteArray := prog_7_method_35_code
def yX5_part : MethodName := ⟨RX5, "part", "()D"⟩
abbrev cX5_count : ByteArray := prog_7_method_36_code
def yX5_count : MethodName := ⟨RX5, "count", "(I)I"⟩
def RJ9 : String := "java/lang/Math"
def TJ9 : u_T := fun k => match k with
  | _ => ("", "", "", false)
def tyJ9 : Nat → FieldType := fun k => match k with
  | _ => .int
abbrev wsJ90 : List Cond := u_ws RJ9 TJ9 0
theorem nmJ9 : ∀ a, a < 0 → ∀ b, b < 0 → a ≠ b → (TJ9 a).2.1 ≠ (TJ9 b).2.1 := by decide +kernel
theorem tyJ9_ok : ∀ k, k < 0 → parseFieldDescriptor (TJ9 k).2.2.1 = some (tyJ9 k) := by decide +kernel
abbrev cJ9_max_7cf53 : ByteArray := prog_11_method_65_code
def yJ9_max_7cf53 : MethodName := ⟨RJ9, "max", "(II)I"⟩
def RJ10 : String := "java/lang/System"
def TJ10 : u_T := fun k => match k with
  | _ => ("", "", "", false)
def tyJ10 : Nat → FieldType := fun k => match k with
  | _ => .int
abbrev wsJ100 : List Cond := u_ws RJ10 TJ10 0
theorem nmJ10 : ∀ a, a < 0 → ∀ b, b < 0 → a ≠ b → (TJ10 a).2.1 ≠ (TJ10 b).2.1 := by decide +kernel
theorem tyJ10_ok : ∀ k, k < 0 → parseFieldDescriptor (TJ10 k).2.2.1 = some (tyJ10 k) := by decide +kernel
def RL : String := "PromiseDeskLaw"
abbrev cL_make : ByteArray := method_3_code
def yL_make : MethodName := ⟨RL, "make", "(LPromiseDesk;IIII[J)I"⟩
abbrev cL_value : ByteArray := method_4_code
def yL_value : MethodName := ⟨RL, "value", "(LPromiseDesk;II[J)I"⟩
abbrev cL_holds : ByteArray := method_5_code
def yL_holds : MethodName := ⟨RL, "holds", "(LPromiseDesk;II[J)I"⟩
abbrev cL_run : ByteArray := method_6_code
def yL_run : MethodName := ⟨RL, "run", "(LPromiseDesk;III[J)I"⟩
abbrev cL_promise : ByteArray := method_7_code
def yL_promise : MethodName := ⟨RL, "promise", "(LPromiseDesk;III[J)I"⟩
abbrev cL_kept : ByteArray := method_8_code
def yL_kept : MethodName := ⟨RL, "kept", "(LPromiseDesk;II[J)I"⟩
abbrev cL_decide : ByteArray := method_9_code
def yL_decide : MethodName := ⟨RL, "decide", "(LPromiseDesk;I[J)I"⟩
abbrev cL_broken : ByteArray := method_10_code
def yL_broken : MethodName := ⟨RL, "broken", "(LPromiseDesk;III[J)I"⟩
abbrev cL_part : ByteArray := method_11_code
def yL_part : MethodName := ⟨RL, "part", "(LPromiseDesk;[D)I"⟩
abbrev cL_count : ByteArray := method_12_code
def yL_count : MethodName := ⟨RL, "count", "(LPromiseDesk;I[J)I"⟩
abbrev cL_law : ByteArray := code
def yL_law : MethodName := ⟨RL, "law", "([I)Z"⟩
abbrev vwCl : List vw_C := [(RX0, TX0, 4), (RX1, TX1, 6), (RX2, TX2, 6), (RX3, TX3, 3), (RX4, TX4, 3), (RX5, TX5, 28)]
theorem inX0 : ∀ w ∈ wsX00, w ∈ lw_tbl := by decide +kernel
theorem inX1 : ∀ w ∈ wsX10, w ∈ lw_tbl := by decide +kernel
theorem inX2 : ∀ w ∈ wsX20, w ∈ lw_tbl := by decide +kernel
theorem inX3 : ∀ w ∈ wsX30, w ∈ lw_tbl := by decide +kernel
theorem inX4 : ∀ w ∈ wsX40, w ∈ lw_tbl := by decide +kernel
theorem inX5 : ∀ w ∈ wsX50, w ∈ lw_tbl := by decide +kernel
end
section
theorem dX0_init_0 : decode cX0_init 0 = .ok (.aload_n 0, 1) := by decide +kernel
theorem dX0_init_1 : decode cX0_init 1 = .ok (.invokespecial 3, 3) := by decide +kernel
theorem dX0_init_4 : decode cX0_init 4 = .ok (.aload_n 0, 1) := by decide +kernel
theorem dX0_init_5 : decode cX0_init 5 = .ok (.bipush 16, 2) := by decide +kernel
theorem dX0_init_7 : decode cX0_init 7 = .ok (.anewarray 9, 3) := by decide +kernel
theorem dX0_init_10 : decode cX0_init 10 = .ok (.putfield 11, 3) := by decide +kernel
theorem dX0_init_13 : decode cX0_init 13 = .ok (.aload_n 0, 1) := by decide +kernel
theorem dX0_init_14 : decode cX0_init 14 = .ok (.bipush 6, 2) := by decide +kernel
theorem dX0_init_16 : decode cX0_init 16 = .ok (.newarray .int, 2) := by decide +kernel
theorem dX0_init_18 : decode cX0_init 18 = .ok (.putfield 17, 3) := by decide +kernel
theorem dX0_init_21 : decode cX0_init 21 = .ok (.aload_n 0, 1) := by decide +kernel
theorem dX0_init_22 : decode cX0_init 22 = .ok (.iconst 0, 1) := by decide +kernel
theorem dX0_init_23 : decode cX0_init 23 = .ok (.putfield 21, 3) := by decide +kernel
theorem dX0_init_26 : decode cX0_init 26 = .ok (.aload_n 0, 1) := by decide +kernel
theorem dX0_init_27 : decode cX0_init 27 = .ok (.aload_n 1, 1) := by decide +kernel
theorem dX0_init_28 : decode cX0_init 28 = .ok (.putfield 25, 3) := by decide +kernel
theorem dX0_init_31 : decode cX0_init 31 = .ok (.iconst 0, 1) := by decide +kernel
theorem dX0_init_32 : decode cX0_init 32 = .ok (.istore_n 2, 1) := by decide +kernel
theorem dX0_init_33 : decode cX0_init 33 = .ok (.iload_n 2, 1) := by decide +kernel
theorem dX0_init_34 : decode cX0_init 34 = .ok (.bipush 16, 2) := by decide +kernel
theorem dX0_init_36 : decode cX0_init 36 = .ok (.if_icmp .ge 22, 3) := by decide +kernel
theorem dX0_init_39 : decode cX0_init 39 = .ok (.aload_n 0, 1) := by decide +kernel
theorem dX0_init_40 : decode cX0_init 40 = .ok (.getfield 11, 3) := by decide +kernel
theorem dX0_init_43 : decode cX0_init 43 = .ok (.iload_n 2, 1) := by decide +kernel
theorem dX0_init_44 : decode cX0_init 44 = .ok (.new 9, 3) := by decide +kernel
theorem dX0_init_47 : decode cX0_init 47 = .ok (.dup, 1) := by decide +kernel
theorem dX0_init_48 : decode cX0_init 48 = .ok (.invokespecial 29, 3) := by decide +kernel
theorem dX0_init_51 : decode cX0_init 51 = .ok (.aastore, 1) := by decide +kernel
theorem dX0_init_52 : decode cX0_init 52 = .ok (.iinc 2 1, 3) := by decide +kernel
theorem dX0_init_55 : decode cX0_init 55 = .ok (.goto (-22), 3) := by decide +kernel
theorem dX0_init_58 : decode cX0_init 58 = .ok (.return_, 1) := by decide +kernel
theorem dX0_has_0 : decode cX0_has 0 = .ok (.iload_n 1, 1) := by decide +kernel
theorem dX0_has_1 : decode cX0_has 1 = .ok (.ifCond .lt 15, 3) := by decide +kernel
theorem dX0_has_4 : decode cX0_has 4 = .ok (.iload_n 1, 1) := by decide +kernel
theorem dX0_has_5 : decode cX0_has 5 = .ok (.aload_n 0, 1) := by decide +kernel
theorem dX0_has_6 : decode cX0_has 6 = .ok (.getfield 21, 3) := by decide +kernel
theorem dX0_has_9 : decode cX0_has 9 = .ok (.if_icmp .ge 7, 3) := by decide +kernel
theorem dX0_has_12 : decode cX0_has 12 = .ok (.iconst 1, 1) := by decide +kernel
theorem dX0_has_13 : decode cX0_has 13 = .ok (.goto 4, 3) := by decide +kernel
theorem dX0_has_16 : decode cX0_has 16 = .ok (.iconst 0, 1) := by decide +kernel
theorem dX0_has_17 : decode cX0_has 17 = .ok (.ireturn, 1) := by decide +kernel
theorem dX0_howManyOf_0 : decode cX0_howManyOf 0 = .ok (.aload_n 0, 1) := by decide +kernel
theorem dX0_howManyOf_1 : decode cX0_howManyOf 1 = .ok (.getfield 25, 3) := by decide +kernel
theorem dX0_howManyOf_4 : decode cX0_howManyOf 4 = .ok (.getfield 30, 3) := by decide +kernel
theorem dX0_howManyOf_7 : decode cX0_howManyOf 7 = .ok (.iload_n 1, 1) := by decide +kernel
theorem dX0_howManyOf_8 : decode cX0_howManyOf 8 = .ok (.iaload, 1) := by decide +kernel
theorem dX0_howManyOf_9 : decode cX0_howManyOf 9 = .ok (.istore_n 2, 1) := by decide +kernel
theorem dX0_howManyOf_10 : decode cX0_howManyOf 10 = .ok (.aload_n 0, 1) := by decide +kernel
theorem dX0_howManyOf_11 : decode cX0_howManyOf 11 = .ok (.getfield 25, 3) := by decide +kernel
theorem dX0_howManyOf_14 : decode cX0_howManyOf 14 = .ok (.getfield 35, 3) := by decide +kernel
theorem dX0_howManyOf_17 : decode cX0_howManyOf 17 = .ok (.iload_n 1, 1) := by decide +kernel
theorem dX0_howManyOf_18 : decode cX0_howManyOf 18 = .ok (.iaload, 1) := by decide +kernel
theorem dX0_howManyOf_19 : decode cX0_howManyOf 19 = .ok (.istore_n 3, 1) := by decide +kernel
theorem dX0_howManyOf_20 : decode cX0_howManyOf 20 = .ok (.aload_n 0, 1) := by decide +kernel
theorem dX0_howManyOf_21 : decode cX0_howManyOf 21 = .ok (.getfield 25, 3) := by decide +kernel
theorem dX0_howManyOf_24 : decode cX0_howManyOf 24 = .ok (.getfield 38, 3) := by decide +kernel
theorem dX0_howManyOf_27 : decode cX0_howManyOf 27 = .ok (.iload_n 1, 1) := by decide +kernel
theorem dX0_howManyOf_28 : decode cX0_howManyOf 28 = .ok (.iaload, 1) := by decide +kernel
theorem dX0_howManyOf_29 : decode cX0_howManyOf 29 = .ok (.tableswitch 67 13 15 #[27, 47, 59], 27) := by decide +kernel
theorem dX0_howManyOf_56 : decode cX0_howManyOf 56 = .ok (.aload_n 0, 1) := by decide +kernel
theorem dX0_howManyOf_57 : decode cX0_howManyOf 57 = .ok (.aload_n 0, 1) := by decide +kernel
theorem dX0_howManyOf_58 : decode cX0_howManyOf 58 = .ok (.getfield 25, 3) := by decide +kernel
theorem dX0_howManyOf_61 : decode cX0_howManyOf 61 = .ok (.getfield 41, 3) := by decide +kernel
theorem dX0_howManyOf_64 : decode cX0_howManyOf 64 = .ok (.iload_n 1, 1) := by decide +kernel
theorem dX0_howManyOf_65 : decode cX0_howManyOf 65 = .ok (.iaload, 1) := by decide +kernel
theorem dX0_howManyOf_66 : decode cX0_howManyOf 66 = .ok (.invokevirtual 44, 3) := by decide +kernel
theorem dX0_howManyOf_69 : decode cX0_howManyOf 69 = .ok (.aload_n 0, 1) := by decide +kernel
theorem dX0_howManyOf_70 : decode cX0_howManyOf 70 = .ok (.iload_n 2, 1) := by decide +kernel
theorem dX0_howManyOf_71 : decode cX0_howManyOf 71 = .ok (.invokevirtual 44, 3) := by decide +kernel
theorem dX0_howManyOf_74 : decode cX0_howManyOf 74 = .ok (.iadd, 1) := by decide +kernel
theorem dX0_howManyOf_75 : decode cX0_howManyOf 75 = .ok (.ireturn, 1) := by decide +kernel
theorem dX0_howManyOf_76 : decode cX0_howManyOf 76 = .ok (.aload_n 0, 1) := by decide +kernel
theorem dX0_howManyOf_77 : decode cX0_howManyOf 77 = .ok (.iload_n 2, 1) := by decide +kernel
theorem dX0_howManyOf_78 : decode cX0_howManyOf 78 = .ok (.invokevirtual 44, 3) := by decide +kernel
theorem dX0_howManyOf_81 : decode cX0_howManyOf 81 = .ok (.aload_n 0, 1) := by decide +kernel
theorem dX0_howManyOf_82 : decode cX0_howManyOf 82 = .ok (.iload_n 3, 1) := by decide +kernel
theorem dX0_howManyOf_83 : decode cX0_howManyOf 83 = .ok (.invokevirtual 44, 3) := by decide +kernel
theorem dX0_howManyOf_86 : decode cX0_howManyOf 86 = .ok (.iadd, 1) := by decide +kernel
theorem dX0_howManyOf_87 : decode cX0_howManyOf 87 = .ok (.ireturn, 1) := by decide +kernel
theorem dX0_howManyOf_88 : decode cX0_howManyOf 88 = .ok (.iconst 2, 1) := by decide +kernel
theorem dX0_howManyOf_89 : decode cX0_howManyOf 89 = .ok (.aload_n 0, 1) := by decide +kernel
theorem dX0_howManyOf_90 : decode cX0_howManyOf 90 = .ok (.iload_n 3, 1) := by decide +kernel
theorem dX0_howManyOf_91 : decode cX0_howManyOf 91 = .ok (.invokevirtual 44, 3) := by decide +kernel
theorem dX0_howManyOf_94 : decode cX0_howManyOf 94 = .ok (.iadd, 1) := by decide +kernel
theorem dX0_howManyOf_95 : decode cX0_howManyOf 95 = .ok (.ireturn, 1) := by decide +kernel
theorem dX0_howManyOf_96 : decode cX0_howManyOf 96 = .ok (.iconst 0, 1) := by decide +kernel
theorem dX0_howManyOf_97 : decode cX0_howManyOf 97 = .ok (.ireturn, 1) := by decide +kernel
theorem dX0_replaceBy_0 : decode cX0_replaceBy 0 = .ok (.aload_n 0, 1) := by decide +kernel
theorem dX0_replaceBy_1 : decode cX0_replaceBy 1 = .ok (.iconst 0, 1) := by decide +kernel
theorem dX0_replaceBy_2 : decode cX0_replaceBy 2 = .ok (.putfield 21, 3) := by decide +kernel
theorem dX0_replaceBy_5 : decode cX0_replaceBy 5 = .ok (.aload_n 0, 1) := by decide +kernel
theorem dX0_replaceBy_6 : decode cX0_replaceBy 6 = .ok (.getfield 17, 3) := by decide +kernel
theorem dX0_replaceBy_9 : decode cX0_replaceBy 9 = .ok (.iconst 0, 1) := by decide +kernel
theorem dX0_replaceBy_10 : decode cX0_replaceBy 10 = .ok (.iload_n 2, 1) := by decide +kernel
theorem dX0_replaceBy_11 : decode cX0_replaceBy 11 = .ok (.iastore, 1) := by decide +kernel
theorem dX0_replaceBy_12 : decode cX0_replaceBy 12 = .ok (.aload_n 0, 1) := by decide +kernel
theorem dX0_replaceBy_13 : decode cX0_replaceBy 13 = .ok (.iload_n 1, 1) := by decide +kernel
theorem dX0_replaceBy_14 : decode cX0_replaceBy 14 = .ok (.iconst (-1), 1) := by decide +kernel
theorem dX0_replaceBy_15 : decode cX0_replaceBy 15 = .ok (.iconst 0, 1) := by decide +kernel
theorem dX0_replaceBy_16 : decode cX0_replaceBy 16 = .ok (.iconst 0, 1) := by decide +kernel
theorem dX0_replaceBy_17 : decode cX0_replaceBy 17 = .ok (.iconst 1, 1) := by decide +kernel
theorem dX0_replaceBy_18 : decode cX0_replaceBy 18 = .ok (.iload_n 3, 1) := by decide +kernel
theorem dX0_replaceBy_19 : decode cX0_replaceBy 19 = .ok (.invokevirtual 48, 3) := by decide +kernel
theorem dX0_replaceBy_22 : decode cX0_replaceBy 22 = .ok (.aload_n 0, 1) := by decide +kernel
theorem dX0_replaceBy_23 : decode cX0_replaceBy 23 = .ok (.iload_n 2, 1) := by decide +kernel
theorem dX0_replaceBy_24 : decode cX0_replaceBy 24 = .ok (.iconst 0, 1) := by decide +kernel
theorem dX0_replaceBy_25 : decode cX0_replaceBy 25 = .ok (.iconst 0, 1) := by decide +kernel
theorem dX0_replaceBy_26 : decode cX0_replaceBy 26 = .ok (.iload_n 3, 1) := by decide +kernel
theorem dX0_replaceBy_27 : decode cX0_replaceBy 27 = .ok (.invokevirtual 52, 3) := by decide +kernel
theorem dX0_replaceBy_30 : decode cX0_replaceBy 30 = .ok (.return_, 1) := by decide +kernel
theorem dX0_gather_0 : decode cX0_gather 0 = .ok (.aload_n 0, 1) := by decide +kernel
theorem dX0_gather_1 : decode cX0_gather 1 = .ok (.getfield 25, 3) := by decide +kernel
theorem dX0_gather_4 : decode cX0_gather 4 = .ok (.getfield 41, 3) := by decide +kernel
theorem dX0_gather_7 : decode cX0_gather 7 = .ok (.iload_n 1, 1) := by decide +kernel
theorem dX0_gather_8 : decode cX0_gather 8 = .ok (.iaload, 1) := by decide +kernel
theorem dX0_gather_9 : decode cX0_gather 9 = .ok (.istore 5, 2) := by decide +kernel
theorem dX0_gather_11 : decode cX0_gather 11 = .ok (.aload_n 0, 1) := by decide +kernel
theorem dX0_gather_12 : decode cX0_gather 12 = .ok (.getfield 25, 3) := by decide +kernel
theorem dX0_gather_15 : decode cX0_gather 15 = .ok (.getfield 30, 3) := by decide +kernel
theorem dX0_gather_18 : decode cX0_gather 18 = .ok (.iload_n 1, 1) := by decide +kernel
theorem dX0_gather_19 : decode cX0_gather 19 = .ok (.iaload, 1) := by decide +kernel
theorem dX0_gather_20 : decode cX0_gather 20 = .ok (.istore 6, 2) := by decide +kernel
theorem dX0_gather_22 : decode cX0_gather 22 = .ok (.aload_n 0, 1) := by decide +kernel
theorem dX0_gather_23 : decode cX0_gather 23 = .ok (.getfield 25, 3) := by decide +kernel
theorem dX0_gather_26 : decode cX0_gather 26 = .ok (.getfield 35, 3) := by decide +kernel
theorem dX0_gather_29 : decode cX0_gather 29 = .ok (.iload_n 1, 1) := by decide +kernel
theorem dX0_gather_30 : decode cX0_gather 30 = .ok (.iaload, 1) := by decide +kernel
theorem dX0_gather_31 : decode cX0_gather 31 = .ok (.istore 7, 2) := by decide +kernel
theorem dX0_gather_33 : decode cX0_gather 33 = .ok (.aload_n 0, 1) := by decide +kernel
theorem dX0_gather_34 : decode cX0_gather 34 = .ok (.getfield 25, 3) := by decide +kernel
theorem dX0_gather_37 : decode cX0_gather 37 = .ok (.getfield 38, 3) := by decide +kernel
theorem dX0_gather_40 : decode cX0_gather 40 = .ok (.iload_n 1, 1) := by decide +kernel
theorem dX0_gather_41 : decode cX0_gather 41 = .ok (.iaload, 1) := by decide +kernel
theorem dX0_gather_42 : decode cX0_gather 42 = .ok (.tableswitch 131 13 15 #[26, 59, 82], 26) := by decide +kernel
theorem dX0_gather_68 : decode cX0_gather 68 = .ok (.aload_n 0, 1) := by decide +kernel
theorem dX0_gather_69 : decode cX0_gather 69 = .ok (.getfield 17, 3) := by decide +kernel
theorem dX0_gather_72 : decode cX0_gather 72 = .ok (.iload_n 3, 1) := by decide +kernel
theorem dX0_gather_73 : decode cX0_gather 73 = .ok (.iload 6, 2) := by decide +kernel
theorem dX0_gather_75 : decode cX0_gather 75 = .ok (.iastore, 1) := by decide +kernel
theorem dX0_gather_76 : decode cX0_gather 76 = .ok (.aload_n 0, 1) := by decide +kernel
theorem dX0_gather_77 : decode cX0_gather 77 = .ok (.iload 5, 2) := by decide +kernel
theorem dX0_gather_79 : decode cX0_gather 79 = .ok (.iload_n 2, 1) := by decide +kernel
theorem dX0_gather_80 : decode cX0_gather 80 = .ok (.iload_n 3, 1) := by decide +kernel
theorem dX0_gather_81 : decode cX0_gather 81 = .ok (.iconst 1, 1) := by decide +kernel
theorem dX0_gather_82 : decode cX0_gather 82 = .ok (.iadd, 1) := by decide +kernel
theorem dX0_gather_83 : decode cX0_gather 83 = .ok (.iload 4, 2) := by decide +kernel
theorem dX0_gather_85 : decode cX0_gather 85 = .ok (.invokevirtual 52, 3) := by decide +kernel
theorem dX0_gather_88 : decode cX0_gather 88 = .ok (.aload_n 0, 1) := by decide +kernel
theorem dX0_gather_89 : decode cX0_gather 89 = .ok (.iload 6, 2) := by decide +kernel
theorem dX0_gather_91 : decode cX0_gather 91 = .ok (.iload_n 2, 1) := by decide +kernel
theorem dX0_gather_92 : decode cX0_gather 92 = .ok (.iload_n 3, 1) := by decide +kernel
theorem dX0_gather_93 : decode cX0_gather 93 = .ok (.iload 4, 2) := by decide +kernel
theorem dX0_gather_95 : decode cX0_gather 95 = .ok (.invokevirtual 52, 3) := by decide +kernel
theorem dX0_gather_98 : decode cX0_gather 98 = .ok (.goto 75, 3) := by decide +kernel
theorem dX0_gather_101 : decode cX0_gather 101 = .ok (.aload_n 0, 1) := by decide +kernel
theorem dX0_gather_102 : decode cX0_gather 102 = .ok (.iload 6, 2) := by decide +kernel
theorem dX0_gather_104 : decode cX0_gather 104 = .ok (.iload_n 2, 1) := by decide +kernel
theorem dX0_gather_105 : decode cX0_gather 105 = .ok (.iload_n 3, 1) := by decide +kernel
theorem dX0_gather_106 : decode cX0_gather 106 = .ok (.iload 4, 2) := by decide +kernel
theorem dX0_gather_108 : decode cX0_gather 108 = .ok (.invokevirtual 52, 3) := by decide +kernel
theorem dX0_gather_111 : decode cX0_gather 111 = .ok (.aload_n 0, 1) := by decide +kernel
theorem dX0_gather_112 : decode cX0_gather 112 = .ok (.iload 7, 2) := by decide +kernel
theorem dX0_gather_114 : decode cX0_gather 114 = .ok (.iload_n 2, 1) := by decide +kernel
theorem dX0_gather_115 : decode cX0_gather 115 = .ok (.iload_n 3, 1) := by decide +kernel
theorem dX0_gather_116 : decode cX0_gather 116 = .ok (.iload 4, 2) := by decide +kernel
theorem dX0_gather_118 : decode cX0_gather 118 = .ok (.invokevirtual 52, 3) := by decide +kernel
theorem dX0_gather_121 : decode cX0_gather 121 = .ok (.goto 52, 3) := by decide +kernel
theorem dX0_gather_124 : decode cX0_gather 124 = .ok (.aload_n 0, 1) := by decide +kernel
theorem dX0_gather_125 : decode cX0_gather 125 = .ok (.getfield 17, 3) := by decide +kernel
theorem dX0_gather_128 : decode cX0_gather 128 = .ok (.iload_n 3, 1) := by decide +kernel
theorem dX0_gather_129 : decode cX0_gather 129 = .ok (.iload 7, 2) := by decide +kernel
theorem dX0_gather_131 : decode cX0_gather 131 = .ok (.iastore, 1) := by decide +kernel
theorem dX0_gather_132 : decode cX0_gather 132 = .ok (.aload_n 0, 1) := by decide +kernel
theorem dX0_gather_133 : decode cX0_gather 133 = .ok (.iload 6, 2) := by decide +kernel
theorem dX0_gather_135 : decode cX0_gather 135 = .ok (.iload 5, 2) := by decide +kernel
theorem dX0_gather_137 : decode cX0_gather 137 = .ok (.iconst 1, 1) := by decide +kernel
theorem dX0_gather_138 : decode cX0_gather 138 = .ok (.iload_n 3, 1) := by decide +kernel
theorem dX0_gather_139 : decode cX0_gather 139 = .ok (.iload_n 3, 1) := by decide +kernel
theorem dX0_gather_140 : decode cX0_gather 140 = .ok (.iconst 1, 1) := by decide +kernel
theorem dX0_gather_141 : decode cX0_gather 141 = .ok (.iadd, 1) := by decide +kernel
theorem dX0_gather_142 : decode cX0_gather 142 = .ok (.iload 6, 2) := by decide +kernel
theorem dX0_gather_144 : decode cX0_gather 144 = .ok (.invokevirtual 48, 3) := by decide +kernel
theorem dX0_gather_147 : decode cX0_gather 147 = .ok (.aload_n 0, 1) := by decide +kernel
theorem dX0_gather_148 : decode cX0_gather 148 = .ok (.iload 6, 2) := by decide +kernel
theorem dX0_gather_150 : decode cX0_gather 150 = .ok (.iload 5, 2) := by decide +kernel
theorem dX0_gather_152 : decode cX0_gather 152 = .ok (.iconst 0, 1) := by decide +kernel
theorem dX0_gather_153 : decode cX0_gather 153 = .ok (.iload_n 2, 1) := by decide +kernel
theorem dX0_gather_154 : decode cX0_gather 154 = .ok (.iload_n 3, 1) := by decide +kernel
theorem dX0_gather_155 : decode cX0_gather 155 = .ok (.iload 4, 2) := by decide +kernel
theorem dX0_gather_157 : decode cX0_gather 157 = .ok (.invokevirtual 48, 3) := by decide +kernel
theorem dX0_gather_160 : decode cX0_gather 160 = .ok (.aload_n 0, 1) := by decide +kernel
theorem dX0_gather_161 : decode cX0_gather 161 = .ok (.iload 7, 2) := by decide +kernel
theorem dX0_gather_163 : decode cX0_gather 163 = .ok (.iload_n 3, 1) := by decide +kernel
theorem dX0_gather_164 : decode cX0_gather 164 = .ok (.iload_n 3, 1) := by decide +kernel
theorem dX0_gather_165 : decode cX0_gather 165 = .ok (.iload 6, 2) := by decide +kernel
theorem dX0_gather_167 : decode cX0_gather 167 = .ok (.invokevirtual 52, 3) := by decide +kernel
theorem dX0_gather_170 : decode cX0_gather 170 = .ok (.goto 3, 3) := by decide +kernel
theorem dX0_gather_173 : decode cX0_gather 173 = .ok (.return_, 1) := by decide +kernel
theorem dX0_add_0 : decode cX0_add 0 = .ok (.aload_n 0, 1) := by decide +kernel
theorem dX0_add_1 : decode cX0_add 1 = .ok (.getfield 11, 3) := by decide +kernel
theorem dX0_add_4 : decode cX0_add 4 = .ok (.aload_n 0, 1) := by decide +kernel
theorem dX0_add_5 : decode cX0_add 5 = .ok (.getfield 21, 3) := by decide +kernel
theorem dX0_add_8 : decode cX0_add 8 = .ok (.aaload, 1) := by decide +kernel
theorem dX0_add_9 : decode cX0_add 9 = .ok (.astore 7, 2) := by decide +kernel
theorem dX0_add_11 : decode cX0_add 11 = .ok (.aload 7, 2) := by decide +kernel
theorem dX0_add_13 : decode cX0_add 13 = .ok (.iload_n 1, 1) := by decide +kernel
theorem dX0_add_14 : decode cX0_add 14 = .ok (.putfield 56, 3) := by decide +kernel
theorem dX0_add_17 : decode cX0_add 17 = .ok (.aload 7, 2) := by decide +kernel
theorem dX0_add_19 : decode cX0_add 19 = .ok (.iload_n 2, 1) := by decide +kernel
theorem dX0_add_20 : decode cX0_add 20 = .ok (.putfield 59, 3) := by decide +kernel
theorem dX0_add_23 : decode cX0_add 23 = .ok (.aload 7, 2) := by decide +kernel
theorem dX0_add_25 : decode cX0_add 25 = .ok (.iload_n 3, 1) := by decide +kernel
theorem dX0_add_26 : decode cX0_add 26 = .ok (.putfield 62, 3) := by decide +kernel
theorem dX0_add_29 : decode cX0_add 29 = .ok (.aload 7, 2) := by decide +kernel
theorem dX0_add_31 : decode cX0_add 31 = .ok (.iload 5, 2) := by decide +kernel
theorem dX0_add_33 : decode cX0_add 33 = .ok (.iload 4, 2) := by decide +kernel
theorem dX0_add_35 : decode cX0_add 35 = .ok (.isub, 1) := by decide +kernel
theorem dX0_add_36 : decode cX0_add 36 = .ok (.putfield 66, 3) := by decide +kernel
theorem dX0_add_39 : decode cX0_add 39 = .ok (.aload_n 0, 1) := by decide +kernel
theorem dX0_add_40 : decode cX0_add 40 = .ok (.getfield 17, 3) := by decide +kernel
theorem dX0_add_43 : decode cX0_add 43 = .ok (.iload 4, 2) := by decide +kernel
theorem dX0_add_45 : decode cX0_add 45 = .ok (.aload 7, 2) := by decide +kernel
theorem dX0_add_47 : decode cX0_add 47 = .ok (.getfield 69, 3) := by decide +kernel
theorem dX0_add_50 : decode cX0_add 50 = .ok (.iconst 0, 1) := by decide +kernel
theorem dX0_add_51 : decode cX0_add 51 = .ok (.iload 5, 2) := by decide +kernel
theorem dX0_add_53 : decode cX0_add 53 = .ok (.iload 4, 2) := by decide +kernel
theorem dX0_add_55 : decode cX0_add 55 = .ok (.isub, 1) := by decide +kernel
theorem dX0_add_56 : decode cX0_add 56 = .ok (.invokestatic 72, 3) := by decide +kernel
theorem dX0_add_59 : decode cX0_add 59 = .ok (.aload 7, 2) := by decide +kernel
theorem dX0_add_61 : decode cX0_add 61 = .ok (.iload 6, 2) := by decide +kernel
theorem dX0_add_63 : decode cX0_add 63 = .ok (.putfield 78, 3) := by decide +kernel
theorem dX0_add_66 : decode cX0_add 66 = .ok (.aload_n 0, 1) := by decide +kernel
theorem dX0_add_67 : decode cX0_add 67 = .ok (.dup, 1) := by decide +kernel
theorem dX0_add_68 : decode cX0_add 68 = .ok (.getfield 21, 3) := by decide +kernel
theorem dX0_add_71 : decode cX0_add 71 = .ok (.iconst 1, 1) := by decide +kernel
theorem dX0_add_72 : decode cX0_add 72 = .ok (.iadd, 1) := by decide +kernel
theorem dX0_add_73 : decode cX0_add 73 = .ok (.putfield 21, 3) := by decide +kernel
theorem dX0_add_76 : decode cX0_add 76 = .ok (.return_, 1) := by decide +kernel
theorem dX0_isKeptIn_0 : decode cX0_isKeptIn 0 = .ok (.aload_n 0, 1) := by decide +kernel
theorem dX0_isKeptIn_1 : decode cX0_isKeptIn 1 = .ok (.getfield 11, 3) := by decide +kernel
theorem dX0_isKeptIn_4 : decode cX0_isKeptIn 4 = .ok (.iload_n 1, 1) := by decide +kernel
theorem dX0_isKeptIn_5 : decode cX0_isKeptIn 5 = .ok (.aaload, 1) := by decide +kernel
theorem dX0_isKeptIn_6 : decode cX0_isKeptIn 6 = .ok (.astore_n 3, 1) := by decide +kernel
theorem dX0_isKeptIn_7 : decode cX0_isKeptIn 7 = .ok (.aload_n 0, 1) := by decide +kernel
theorem dX0_isKeptIn_8 : decode cX0_isKeptIn 8 = .ok (.getfield 25, 3) := by decide +kernel
theorem dX0_isKeptIn_11 : decode cX0_isKeptIn 11 = .ok (.aload_n 3, 1) := by decide +kernel
theorem dX0_isKeptIn_12 : decode cX0_isKeptIn 12 = .ok (.getfield 56, 3) := by decide +kernel
theorem dX0_isKeptIn_15 : decode cX0_isKeptIn 15 = .ok (.iload_n 2, 1) := by decide +kernel
theorem dX0_isKeptIn_16 : decode cX0_isKeptIn 16 = .ok (.invokevirtual 81, 3) := by decide +kernel
theorem dX0_isKeptIn_19 : decode cX0_isKeptIn 19 = .ok (.ifCond .ne 5, 3) := by decide +kernel
theorem dX0_isKeptIn_22 : decode cX0_isKeptIn 22 = .ok (.iconst 1, 1) := by decide +kernel
theorem dX0_isKeptIn_23 : decode cX0_isKeptIn 23 = .ok (.ireturn, 1) := by decide +kernel
theorem dX0_isKeptIn_24 : decode cX0_isKeptIn 24 = .ok (.aload_n 3, 1) := by decide +kernel
theorem dX0_isKeptIn_25 : decode cX0_isKeptIn 25 = .ok (.getfield 59, 3) := by decide +kernel
theorem dX0_isKeptIn_28 : decode cX0_isKeptIn 28 = .ok (.iconst (-1), 1) := by decide +kernel
theorem dX0_isKeptIn_29 : decode cX0_isKeptIn 29 = .ok (.if_icmp .eq 24, 3) := by decide +kernel
theorem dX0_isKeptIn_32 : decode cX0_isKeptIn 32 = .ok (.aload_n 0, 1) := by decide +kernel
theorem dX0_isKeptIn_33 : decode cX0_isKeptIn 33 = .ok (.getfield 25, 3) := by decide +kernel
theorem dX0_isKeptIn_36 : decode cX0_isKeptIn 36 = .ok (.aload_n 3, 1) := by decide +kernel
theorem dX0_isKeptIn_37 : decode cX0_isKeptIn 37 = .ok (.getfield 59, 3) := by decide +kernel
theorem dX0_isKeptIn_40 : decode cX0_isKeptIn 40 = .ok (.iload_n 2, 1) := by decide +kernel
theorem dX0_isKeptIn_41 : decode cX0_isKeptIn 41 = .ok (.invokevirtual 81, 3) := by decide +kernel
theorem dX0_isKeptIn_44 : decode cX0_isKeptIn 44 = .ok (.aload_n 3, 1) := by decide +kernel
theorem dX0_isKeptIn_45 : decode cX0_isKeptIn 45 = .ok (.getfield 62, 3) := by decide +kernel
theorem dX0_isKeptIn_48 : decode cX0_isKeptIn 48 = .ok (.if_icmp .eq 5, 3) := by decide +kernel
theorem dX0_isKeptIn_51 : decode cX0_isKeptIn 51 = .ok (.iconst 1, 1) := by decide +kernel
theorem dX0_isKeptIn_52 : decode cX0_isKeptIn 52 = .ok (.ireturn, 1) := by decide +kernel
theorem dX0_isKeptIn_53 : decode cX0_isKeptIn 53 = .ok (.aload_n 0, 1) := by decide +kernel
theorem dX0_isKeptIn_54 : decode cX0_isKeptIn 54 = .ok (.aload_n 3, 1) := by decide +kernel
theorem dX0_isKeptIn_55 : decode cX0_isKeptIn 55 = .ok (.iload_n 2, 1) := by decide +kernel
theorem dX0_isKeptIn_56 : decode cX0_isKeptIn 56 = .ok (.invokevirtual 85, 3) := by decide +kernel
theorem dX0_isKeptIn_59 : decode cX0_isKeptIn 59 = .ok (.ireturn, 1) := by decide +kernel
theorem dX0_goalHoldsBehindPath_0 : decode cX0_goalHoldsBehindPath 0 = .ok (.iload_n 2, 1) := by decide +kernel
theorem dX0_goalHoldsBehindPath_1 : decode cX0_goalHoldsBehindPath 1 = .ok (.istore_n 3, 1) := by decide +kernel
theorem dX0_goalHoldsBehindPath_2 : decode cX0_goalHoldsBehindPath 2 = .ok (.aload_n 1, 1) := by decide +kernel
theorem dX0_goalHoldsBehindPath_3 : decode cX0_goalHoldsBehindPath 3 = .ok (.getfield 66, 3) := by decide +kernel
theorem dX0_goalHoldsBehindPath_6 : decode cX0_goalHoldsBehindPath 6 = .ok (.iconst 1, 1) := by decide +kernel
theorem dX0_goalHoldsBehindPath_7 : decode cX0_goalHoldsBehindPath 7 = .ok (.isub, 1) := by decide +kernel
theorem dX0_goalHoldsBehindPath_8 : decode cX0_goalHoldsBehindPath 8 = .ok (.istore 4, 2) := by decide +kernel
theorem dX0_goalHoldsBehindPath_10 : decode cX0_goalHoldsBehindPath 10 = .ok (.iload 4, 2) := by decide +kernel
theorem dX0_goalHoldsBehindPath_12 : decode cX0_goalHoldsBehindPath 12 = .ok (.ifCond .lt 37, 3) := by decide +kernel
theorem dX0_goalHoldsBehindPath_15 : decode cX0_goalHoldsBehindPath 15 = .ok (.aload_n 0, 1) := by decide +kernel
theorem dX0_goalHoldsBehindPath_16 : decode cX0_goalHoldsBehindPath 16 = .ok (.aload_n 1, 1) := by decide +kernel
theorem dX0_goalHoldsBehindPath_17 : decode cX0_goalHoldsBehindPath 17 = .ok (.getfield 69, 3) := by decide +kernel
theorem dX0_goalHoldsBehindPath_20 : decode cX0_goalHoldsBehindPath 20 = .ok (.iload 4, 2) := by decide +kernel
theorem dX0_goalHoldsBehindPath_22 : decode cX0_goalHoldsBehindPath 22 = .ok (.iaload, 1) := by decide +kernel
theorem dX0_goalHoldsBehindPath_23 : decode cX0_goalHoldsBehindPath 23 = .ok (.iload_n 3, 1) := by decide +kernel
theorem dX0_goalHoldsBehindPath_24 : decode cX0_goalHoldsBehindPath 24 = .ok (.invokevirtual 89, 3) := by decide +kernel
theorem dX0_goalHoldsBehindPath_27 : decode cX0_goalHoldsBehindPath 27 = .ok (.istore_n 3, 1) := by decide +kernel
theorem dX0_goalHoldsBehindPath_28 : decode cX0_goalHoldsBehindPath 28 = .ok (.iload_n 3, 1) := by decide +kernel
theorem dX0_goalHoldsBehindPath_29 : decode cX0_goalHoldsBehindPath 29 = .ok (.ifCond .ge 14, 3) := by decide +kernel
theorem dX0_goalHoldsBehindPath_32 : decode cX0_goalHoldsBehindPath 32 = .ok (.iload_n 3, 1) := by decide +kernel
theorem dX0_goalHoldsBehindPath_33 : decode cX0_goalHoldsBehindPath 33 = .ok (.iconst (-1), 1) := by decide +kernel
theorem dX0_goalHoldsBehindPath_34 : decode cX0_goalHoldsBehindPath 34 = .ok (.if_icmp .ne 7, 3) := by decide +kernel
theorem dX0_goalHoldsBehindPath_37 : decode cX0_goalHoldsBehindPath 37 = .ok (.iconst 1, 1) := by decide +kernel
theorem dX0_goalHoldsBehindPath_38 : decode cX0_goalHoldsBehindPath 38 = .ok (.goto 4, 3) := by decide +kernel
theorem dX0_goalHoldsBehindPath_41 : decode cX0_goalHoldsBehindPath 41 = .ok (.iconst 0, 1) := by decide +kernel
theorem dX0_goalHoldsBehindPath_42 : decode cX0_goalHoldsBehindPath 42 = .ok (.ireturn, 1) := by decide +kernel
theorem dX0_goalHoldsBehindPath_43 : decode cX0_goalHoldsBehindPath 43 = .ok (.iinc 4 (-1), 3) := by decide +kernel
theorem dX0_goalHoldsBehindPath_46 : decode cX0_goalHoldsBehindPath 46 = .ok (.goto (-36), 3) := by decide +kernel
theorem dX0_goalHoldsBehindPath_49 : decode cX0_goalHoldsBehindPath 49 = .ok (.aload_n 0, 1) := by decide +kernel
theorem dX0_goalHoldsBehindPath_50 : decode cX0_goalHoldsBehindPath 50 = .ok (.getfield 25, 3) := by decide +kernel
theorem dX0_goalHoldsBehindPath_53 : decode cX0_goalHoldsBehindPath 53 = .ok (.aload_n 1, 1) := by decide +kernel
theorem dX0_goalHoldsBehindPath_54 : decode cX0_goalHoldsBehindPath 54 = .ok (.getfield 78, 3) := by decide +kernel
theorem dX0_goalHoldsBehindPath_57 : decode cX0_goalHoldsBehindPath 57 = .ok (.iload_n 3, 1) := by decide +kernel
theorem dX0_goalHoldsBehindPath_58 : decode cX0_goalHoldsBehindPath 58 = .ok (.invokevirtual 81, 3) := by decide +kernel
theorem dX0_goalHoldsBehindPath_61 : decode cX0_goalHoldsBehindPath 61 = .ok (.ireturn, 1) := by decide +kernel
theorem dX0_follow_0 : decode cX0_follow 0 = .ok (.aload_n 0, 1) := by decide +kernel
theorem dX0_follow_1 : decode cX0_follow 1 = .ok (.getfield 25, 3) := by decide +kernel
theorem dX0_follow_4 : decode cX0_follow 4 = .ok (.getfield 41, 3) := by decide +kernel
theorem dX0_follow_7 : decode cX0_follow 7 = .ok (.iload_n 1, 1) := by decide +kernel
theorem dX0_follow_8 : decode cX0_follow 8 = .ok (.iaload, 1) := by decide +kernel
theorem dX0_follow_9 : decode cX0_follow 9 = .ok (.istore_n 3, 1) := by decide +kernel
theorem dX0_follow_10 : decode cX0_follow 10 = .ok (.aload_n 0, 1) := by decide +kernel
theorem dX0_follow_11 : decode cX0_follow 11 = .ok (.getfield 25, 3) := by decide +kernel
theorem dX0_follow_14 : decode cX0_follow 14 = .ok (.getfield 30, 3) := by decide +kernel
theorem dX0_follow_17 : decode cX0_follow 17 = .ok (.iload_n 1, 1) := by decide +kernel
theorem dX0_follow_18 : decode cX0_follow 18 = .ok (.iaload, 1) := by decide +kernel
theorem dX0_follow_19 : decode cX0_follow 19 = .ok (.istore 4, 2) := by decide +kernel
theorem dX0_follow_21 : decode cX0_follow 21 = .ok (.aload_n 0, 1) := by decide +kernel
theorem dX0_follow_22 : decode cX0_follow 22 = .ok (.getfield 25, 3) := by decide +kernel
theorem dX0_follow_25 : decode cX0_follow 25 = .ok (.getfield 38, 3) := by decide +kernel
theorem dX0_follow_28 : decode cX0_follow 28 = .ok (.iload_n 1, 1) := by decide +kernel
theorem dX0_follow_29 : decode cX0_follow 29 = .ok (.iaload, 1) := by decide +kernel
theorem dX0_follow_30 : decode cX0_follow 30 = .ok (.tableswitch 107 11 14 #[30, 32, 48, 75], 30) := by decide +kernel
theorem dX0_follow_60 : decode cX0_follow 60 = .ok (.iload_n 2, 1) := by decide +kernel
theorem dX0_follow_61 : decode cX0_follow 61 = .ok (.ireturn, 1) := by decide +kernel
theorem dX0_follow_62 : decode cX0_follow 62 = .ok (.iload_n 2, 1) := by decide +kernel
theorem dX0_follow_63 : decode cX0_follow 63 = .ok (.iload_n 3, 1) := by decide +kernel
theorem dX0_follow_64 : decode cX0_follow 64 = .ok (.aload_n 0, 1) := by decide +kernel
theorem dX0_follow_65 : decode cX0_follow 65 = .ok (.getfield 25, 3) := by decide +kernel
theorem dX0_follow_68 : decode cX0_follow 68 = .ok (.iload 4, 2) := by decide +kernel
theorem dX0_follow_70 : decode cX0_follow 70 = .ok (.iload_n 2, 1) := by decide +kernel
theorem dX0_follow_71 : decode cX0_follow 71 = .ok (.invokevirtual 93, 3) := by decide +kernel
theorem dX0_follow_74 : decode cX0_follow 74 = .ok (.invokestatic 96, 3) := by decide +kernel
theorem dX0_follow_77 : decode cX0_follow 77 = .ok (.ireturn, 1) := by decide +kernel
theorem dX0_follow_78 : decode cX0_follow 78 = .ok (.aload_n 0, 1) := by decide +kernel
theorem dX0_follow_79 : decode cX0_follow 79 = .ok (.iload_n 3, 1) := by decide +kernel
theorem dX0_follow_80 : decode cX0_follow 80 = .ok (.iload_n 2, 1) := by decide +kernel
theorem dX0_follow_81 : decode cX0_follow 81 = .ok (.invokevirtual 89, 3) := by decide +kernel
theorem dX0_follow_84 : decode cX0_follow 84 = .ok (.istore 5, 2) := by decide +kernel
theorem dX0_follow_86 : decode cX0_follow 86 = .ok (.iload 5, 2) := by decide +kernel
theorem dX0_follow_88 : decode cX0_follow 88 = .ok (.ifCond .ge 8, 3) := by decide +kernel
theorem dX0_follow_91 : decode cX0_follow 91 = .ok (.iload 5, 2) := by decide +kernel
theorem dX0_follow_93 : decode cX0_follow 93 = .ok (.goto 11, 3) := by decide +kernel
theorem dX0_follow_96 : decode cX0_follow 96 = .ok (.aload_n 0, 1) := by decide +kernel
theorem dX0_follow_97 : decode cX0_follow 97 = .ok (.iload 4, 2) := by decide +kernel
theorem dX0_follow_99 : decode cX0_follow 99 = .ok (.iload 5, 2) := by decide +kernel
theorem dX0_follow_101 : decode cX0_follow 101 = .ok (.invokevirtual 89, 3) := by decide +kernel
theorem dX0_follow_104 : decode cX0_follow 104 = .ok (.ireturn, 1) := by decide +kernel
theorem dX0_follow_105 : decode cX0_follow 105 = .ok (.aload_n 0, 1) := by decide +kernel
theorem dX0_follow_106 : decode cX0_follow 106 = .ok (.aload_n 0, 1) := by decide +kernel
theorem dX0_follow_107 : decode cX0_follow 107 = .ok (.getfield 25, 3) := by decide +kernel
theorem dX0_follow_110 : decode cX0_follow 110 = .ok (.iload_n 3, 1) := by decide +kernel
theorem dX0_follow_111 : decode cX0_follow 111 = .ok (.iload_n 2, 1) := by decide +kernel
theorem dX0_follow_112 : decode cX0_follow 112 = .ok (.invokevirtual 81, 3) := by decide +kernel
theorem dX0_follow_115 : decode cX0_follow 115 = .ok (.ifCond .eq 8, 3) := by decide +kernel
theorem dX0_follow_118 : decode cX0_follow 118 = .ok (.iload 4, 2) := by decide +kernel
theorem dX0_follow_120 : decode cX0_follow 120 = .ok (.goto 12, 3) := by decide +kernel
theorem dX0_follow_123 : decode cX0_follow 123 = .ok (.aload_n 0, 1) := by decide +kernel
theorem dX0_follow_124 : decode cX0_follow 124 = .ok (.getfield 25, 3) := by decide +kernel
theorem dX0_follow_127 : decode cX0_follow 127 = .ok (.getfield 35, 3) := by decide +kernel
theorem dX0_follow_130 : decode cX0_follow 130 = .ok (.iload_n 1, 1) := by decide +kernel
theorem dX0_follow_131 : decode cX0_follow 131 = .ok (.iaload, 1) := by decide +kernel
theorem dX0_follow_132 : decode cX0_follow 132 = .ok (.iload_n 2, 1) := by decide +kernel
theorem dX0_follow_133 : decode cX0_follow 133 = .ok (.invokevirtual 89, 3) := by decide +kernel
theorem dX0_follow_136 : decode cX0_follow 136 = .ok (.ireturn, 1) := by decide +kernel
theorem dX0_follow_137 : decode cX0_follow 137 = .ok (.aload_n 0, 1) := by decide +kernel
theorem dX0_follow_138 : decode cX0_follow 138 = .ok (.getfield 25, 3) := by decide +kernel
theorem dX0_follow_141 : decode cX0_follow 141 = .ok (.iload 4, 2) := by decide +kernel
theorem dX0_follow_143 : decode cX0_follow 143 = .ok (.iload_n 2, 1) := by decide +kernel
theorem dX0_follow_144 : decode cX0_follow 144 = .ok (.invokevirtual 81, 3) := by decide +kernel
theorem dX0_follow_147 : decode cX0_follow 147 = .ok (.ifCond .eq 7, 3) := by decide +kernel
theorem dX0_follow_150 : decode cX0_follow 150 = .ok (.iconst (-1), 1) := by decide +kernel
theorem dX0_follow_151 : decode cX0_follow 151 = .ok (.goto 5, 3) := by decide +kernel
theorem dX0_follow_154 : decode cX0_follow 154 = .ok (.bipush (-2), 2) := by decide +kernel
theorem dX0_follow_156 : decode cX0_follow 156 = .ok (.ireturn, 1) := by decide +kernel
theorem dX0_leastBroken_0 : decode cX0_leastBroken 0 = .ok (.iconst 0, 1) := by decide +kernel
theorem dX0_leastBroken_1 : decode cX0_leastBroken 1 = .ok (.istore_n 2, 1) := by decide +kernel
theorem dX0_leastBroken_2 : decode cX0_leastBroken 2 = .ok (.iload_n 2, 1) := by decide +kernel
theorem dX0_leastBroken_3 : decode cX0_leastBroken 3 = .ok (.sipush 4095, 3) := by decide +kernel
theorem dX0_leastBroken_6 : decode cX0_leastBroken 6 = .ok (.if_icmp .gt 20, 3) := by decide +kernel
theorem dX0_leastBroken_9 : decode cX0_leastBroken 9 = .ok (.aload_n 0, 1) := by decide +kernel
theorem dX0_leastBroken_10 : decode cX0_leastBroken 10 = .ok (.iload_n 1, 1) := by decide +kernel
theorem dX0_leastBroken_11 : decode cX0_leastBroken 11 = .ok (.iload_n 2, 1) := by decide +kernel
theorem dX0_leastBroken_12 : decode cX0_leastBroken 12 = .ok (.invokevirtual 100, 3) := by decide +kernel
theorem dX0_leastBroken_15 : decode cX0_leastBroken 15 = .ok (.ifCond .ne 5, 3) := by decide +kernel
theorem dX0_leastBroken_18 : decode cX0_leastBroken 18 = .ok (.iload_n 2, 1) := by decide +kernel
theorem dX0_leastBroken_19 : decode cX0_leastBroken 19 = .ok (.ireturn, 1) := by decide +kernel
theorem dX0_leastBroken_20 : decode cX0_leastBroken 20 = .ok (.iinc 2 1, 3) := by decide +kernel
theorem dX0_leastBroken_23 : decode cX0_leastBroken 23 = .ok (.goto (-21), 3) := by decide +kernel
theorem dX0_leastBroken_26 : decode cX0_leastBroken 26 = .ok (.iconst (-1), 1) := by decide +kernel
theorem dX0_leastBroken_27 : decode cX0_leastBroken 27 = .ok (.ireturn, 1) := by decide +kernel
theorem dX0_howManyBroken_0 : decode cX0_howManyBroken 0 = .ok (.iconst 0, 1) := by decide +kernel
theorem dX0_howManyBroken_1 : decode cX0_howManyBroken 1 = .ok (.istore 4, 2) := by decide +kernel
theorem dX0_howManyBroken_3 : decode cX0_howManyBroken 3 = .ok (.iload_n 2, 1) := by decide +kernel
theorem dX0_howManyBroken_4 : decode cX0_howManyBroken 4 = .ok (.istore 5, 2) := by decide +kernel
theorem dX0_howManyBroken_6 : decode cX0_howManyBroken 6 = .ok (.iload 5, 2) := by decide +kernel
theorem dX0_howManyBroken_8 : decode cX0_howManyBroken 8 = .ok (.iload_n 3, 1) := by decide +kernel
theorem dX0_howManyBroken_9 : decode cX0_howManyBroken 9 = .ok (.if_icmp .gt 22, 3) := by decide +kernel
theorem dX0_howManyBroken_12 : decode cX0_howManyBroken 12 = .ok (.aload_n 0, 1) := by decide +kernel
theorem dX0_howManyBroken_13 : decode cX0_howManyBroken 13 = .ok (.iload_n 1, 1) := by decide +kernel
theorem dX0_howManyBroken_14 : decode cX0_howManyBroken 14 = .ok (.iload 5, 2) := by decide +kernel
theorem dX0_howManyBroken_16 : decode cX0_howManyBroken 16 = .ok (.invokevirtual 100, 3) := by decide +kernel
theorem dX0_howManyBroken_19 : decode cX0_howManyBroken 19 = .ok (.ifCond .ne 6, 3) := by decide +kernel
theorem dX0_howManyBroken_22 : decode cX0_howManyBroken 22 = .ok (.iinc 4 1, 3) := by decide +kernel
theorem dX0_howManyBroken_25 : decode cX0_howManyBroken 25 = .ok (.iinc 5 1, 3) := by decide +kernel
theorem dX0_howManyBroken_28 : decode cX0_howManyBroken 28 = .ok (.goto (-22), 3) := by decide +kernel
theorem dX0_howManyBroken_31 : decode cX0_howManyBroken 31 = .ok (.iload 4, 2) := by decide +kernel
theorem dX0_howManyBroken_33 : decode cX0_howManyBroken 33 = .ok (.ireturn, 1) := by decide +kernel
theorem dX0_howManyBrokenPairs_0 : decode cX0_howManyBrokenPairs 0 = .ok (.iconst 0, 1) := by decide +kernel
theorem dX0_howManyBrokenPairs_1 : decode cX0_howManyBrokenPairs 1 = .ok (.istore_n 1, 1) := by decide +kernel
theorem dX0_howManyBrokenPairs_2 : decode cX0_howManyBrokenPairs 2 = .ok (.iconst 0, 1) := by decide +kernel
theorem dX0_howManyBrokenPairs_3 : decode cX0_howManyBrokenPairs 3 = .ok (.istore_n 2, 1) := by decide +kernel
theorem dX0_howManyBrokenPairs_4 : decode cX0_howManyBrokenPairs 4 = .ok (.iload_n 2, 1) := by decide +kernel
theorem dX0_howManyBrokenPairs_5 : decode cX0_howManyBrokenPairs 5 = .ok (.aload_n 0, 1) := by decide +kernel
theorem dX0_howManyBrokenPairs_6 : decode cX0_howManyBrokenPairs 6 = .ok (.getfield 21, 3) := by decide +kernel
theorem dX0_howManyBrokenPairs_9 : decode cX0_howManyBrokenPairs 9 = .ok (.if_icmp .ge 21, 3) := by decide +kernel
theorem dX0_howManyBrokenPairs_12 : decode cX0_howManyBrokenPairs 12 = .ok (.iload_n 1, 1) := by decide +kernel
theorem dX0_howManyBrokenPairs_13 : decode cX0_howManyBrokenPairs 13 = .ok (.aload_n 0, 1) := by decide +kernel
theorem dX0_howManyBrokenPairs_14 : decode cX0_howManyBrokenPairs 14 = .ok (.iload_n 2, 1) := by decide +kernel
theorem dX0_howManyBrokenPairs_15 : decode cX0_howManyBrokenPairs 15 = .ok (.iconst 0, 1) := by decide +kernel
theorem dX0_howManyBrokenPairs_16 : decode cX0_howManyBrokenPairs 16 = .ok (.sipush 4095, 3) := by decide +kernel
theorem dX0_howManyBrokenPairs_19 : decode cX0_howManyBrokenPairs 19 = .ok (.invokevirtual 103, 3) := by decide +kernel
theorem dX0_howManyBrokenPairs_22 : decode cX0_howManyBrokenPairs 22 = .ok (.iadd, 1) := by decide +kernel
theorem dX0_howManyBrokenPairs_23 : decode cX0_howManyBrokenPairs 23 = .ok (.istore_n 1, 1) := by decide +kernel
theorem dX0_howManyBrokenPairs_24 : decode cX0_howManyBrokenPairs 24 = .ok (.iinc 2 1, 3) := by decide +kernel
theorem dX0_howManyBrokenPairs_27 : decode cX0_howManyBrokenPairs 27 = .ok (.goto (-23), 3) := by decide +kernel
theorem dX0_howManyBrokenPairs_30 : decode cX0_howManyBrokenPairs 30 = .ok (.iload_n 1, 1) := by decide +kernel
theorem dX0_howManyBrokenPairs_31 : decode cX0_howManyBrokenPairs 31 = .ok (.ireturn, 1) := by decide +kernel
theorem dX0_howManyValid_0 : decode cX0_howManyValid 0 = .ok (.iconst 0, 1) := by decide +kernel
theorem dX0_howManyValid_1 : decode cX0_howManyValid 1 = .ok (.istore_n 1, 1) := by decide +kernel
theorem dX0_howManyValid_2 : decode cX0_howManyValid 2 = .ok (.iconst 0, 1) := by decide +kernel
theorem dX0_howManyValid_3 : decode cX0_howManyValid 3 = .ok (.istore_n 2, 1) := by decide +kernel
theorem dX0_howManyValid_4 : decode cX0_howManyValid 4 = .ok (.iload_n 2, 1) := by decide +kernel
theorem dX0_howManyValid_5 : decode cX0_howManyValid 5 = .ok (.aload_n 0, 1) := by decide +kernel
theorem dX0_howManyValid_6 : decode cX0_howManyValid 6 = .ok (.getfield 21, 3) := by decide +kernel
theorem dX0_howManyValid_9 : decode cX0_howManyValid 9 = .ok (.if_icmp .ge 21, 3) := by decide +kernel
theorem dX0_howManyValid_12 : decode cX0_howManyValid 12 = .ok (.aload_n 0, 1) := by decide +kernel
theorem dX0_howManyValid_13 : decode cX0_howManyValid 13 = .ok (.iload_n 2, 1) := by decide +kernel
theorem dX0_howManyValid_14 : decode cX0_howManyValid 14 = .ok (.invokevirtual 106, 3) := by decide +kernel
theorem dX0_howManyValid_17 : decode cX0_howManyValid 17 = .ok (.iconst (-1), 1) := by decide +kernel
theorem dX0_howManyValid_18 : decode cX0_howManyValid 18 = .ok (.if_icmp .ne 6, 3) := by decide +kernel
theorem dX0_howManyValid_21 : decode cX0_howManyValid 21 = .ok (.iinc 1 1, 3) := by decide +kernel
theorem dX0_howManyValid_24 : decode cX0_howManyValid 24 = .ok (.iinc 2 1, 3) := by decide +kernel
theorem dX0_howManyValid_27 : decode cX0_howManyValid 27 = .ok (.goto (-23), 3) := by decide +kernel
theorem dX0_howManyValid_30 : decode cX0_howManyValid 30 = .ok (.iload_n 1, 1) := by decide +kernel
theorem dX0_howManyValid_31 : decode cX0_howManyValid 31 = .ok (.ireturn, 1) := by decide +kernel
theorem dX1_init_0 : decode cX1_init 0 = .ok (.aload_n 0, 1) := by decide +kernel
theorem dX1_init_1 : decode cX1_init 1 = .ok (.invokespecial 3, 3) := by decide +kernel
theorem dX1_init_4 : decode cX1_init 4 = .ok (.aload_n 0, 1) := by decide +kernel
theorem dX1_init_5 : decode cX1_init 5 = .ok (.iconst (-1), 1) := by decide +kernel
theorem dX1_init_6 : decode cX1_init 6 = .ok (.putfield 9, 3) := by decide +kernel
theorem dX1_init_9 : decode cX1_init 9 = .ok (.aload_n 0, 1) := by decide +kernel
theorem dX1_init_10 : decode cX1_init 10 = .ok (.iconst (-1), 1) := by decide +kernel
theorem dX1_init_11 : decode cX1_init 11 = .ok (.putfield 15, 3) := by decide +kernel
theorem dX1_init_14 : decode cX1_init 14 = .ok (.aload_n 0, 1) := by decide +kernel
theorem dX1_init_15 : decode cX1_init 15 = .ok (.iconst 0, 1) := by decide +kernel
theorem dX1_init_16 : decode cX1_init 16 = .ok (.putfield 18, 3) := by decide +kernel
theorem dX1_init_19 : decode cX1_init 19 = .ok (.aload_n 0, 1) := by decide +kernel
theorem dX1_init_20 : decode cX1_init 20 = .ok (.bipush 6, 2) := by decide +kernel
theorem dX1_init_22 : decode cX1_init 22 = .ok (.newarray .int, 2) := by decide +kernel
theorem dX1_init_24 : decode cX1_init 24 = .ok (.putfield 22, 3) := by decide +kernel
theorem dX1_init_27 : decode cX1_init 27 = .ok (.aload_n 0, 1) := by decide +kernel
theorem dX1_init_28 : decode cX1_init 28 = .ok (.iconst 0, 1) := by decide +kernel
theorem dX1_init_29 : decode cX1_init 29 = .ok (.putfield 26, 3) := by decide +kernel
theorem dX1_init_32 : decode cX1_init 32 = .ok (.aload_n 0, 1) := by decide +kernel
theorem dX1_init_33 : decode cX1_init 33 = .ok (.iconst (-1), 1) := by decide +kernel
theorem dX1_init_34 : decode cX1_init 34 = .ok (.putfield 29, 3) := by decide +kernel
theorem dX1_init_37 : decode cX1_init 37 = .ok (.return_, 1) := by decide +kernel
theorem dX2_init_0 : decode cX2_init 0 = .ok (.aload_n 0, 1) := by decide +kernel
theorem dX2_init_1 : decode cX2_init 1 = .ok (.invokespecial 3, 3) := by decide +kernel
theorem dX2_init_4 : decode cX2_init 4 = .ok (.aload_n 0, 1) := by decide +kernel
theorem dX2_init_5 : decode cX2_init 5 = .ok (.bipush 60, 2) := by decide +kernel
theorem dX2_init_7 : decode cX2_init 7 = .ok (.newarray .int, 2) := by decide +kernel
theorem dX2_init_9 : decode cX2_init 9 = .ok (.putfield 9, 3) := by decide +kernel
theorem dX2_init_12 : decode cX2_init 12 = .ok (.aload_n 0, 1) := by decide +kernel
theorem dX2_init_13 : decode cX2_init 13 = .ok (.bipush 60, 2) := by decide +kernel
theorem dX2_init_15 : decode cX2_init 15 = .ok (.newarray .int, 2) := by decide +kernel
theorem dX2_init_17 : decode cX2_init 17 = .ok (.putfield 15, 3) := by decide +kernel
theorem dX2_init_20 : decode cX2_init 20 = .ok (.aload_n 0, 1) := by decide +kernel
theorem dX2_init_21 : decode cX2_init 21 = .ok (.bipush 60, 2) := by decide +kernel
theorem dX2_init_23 : decode cX2_init 23 = .ok (.newarray .int, 2) := by decide +kernel
theorem dX2_init_25 : decode cX2_init 25 = .ok (.putfield 18, 3) := by decide +kernel
theorem dX2_init_28 : decode cX2_init 28 = .ok (.aload_n 0, 1) := by decide +kernel
theorem dX2_init_29 : decode cX2_init 29 = .ok (.bipush 60, 2) := by decide +kernel
theorem dX2_init_31 : decode cX2_init 31 = .ok (.newarray .int, 2) := by decide +kernel
theorem dX2_init_33 : decode cX2_init 33 = .ok (.putfield 21, 3) := by decide +kernel
theorem dX2_init_36 : decode cX2_init 36 = .ok (.aload_n 0, 1) := by decide +kernel
theorem dX2_init_37 : decode cX2_init 37 = .ok (.bipush 60, 2) := by decide +kernel
theorem dX2_init_39 : decode cX2_init 39 = .ok (.newarray .int, 2) := by decide +kernel
theorem dX2_init_41 : decode cX2_init 41 = .ok (.putfield 24, 3) := by decide +kernel
theorem dX2_init_44 : decode cX2_init 44 = .ok (.aload_n 0, 1) := by decide +kernel
theorem dX2_init_45 : decode cX2_init 45 = .ok (.iconst 0, 1) := by decide +kernel
theorem dX2_init_46 : decode cX2_init 46 = .ok (.putfield 27, 3) := by decide +kernel
theorem dX2_init_49 : decode cX2_init 49 = .ok (.return_, 1) := by decide +kernel
theorem dX2_has_0 : decode cX2_has 0 = .ok (.iload_n 1, 1) := by decide +kernel
theorem dX2_has_1 : decode cX2_has 1 = .ok (.ifCond .lt 28, 3) := by decide +kernel
theorem dX2_has_4 : decode cX2_has 4 = .ok (.iload_n 1, 1) := by decide +kernel
theorem dX2_has_5 : decode cX2_has 5 = .ok (.aload_n 0, 1) := by decide +kernel
theorem dX2_has_6 : decode cX2_has 6 = .ok (.getfield 27, 3) := by decide +kernel
theorem dX2_has_9 : decode cX2_has 9 = .ok (.if_icmp .ge 20, 3) := by decide +kernel
theorem dX2_has_12 : decode cX2_has 12 = .ok (.aload_n 0, 1) := by decide +kernel
theorem dX2_has_13 : decode cX2_has 13 = .ok (.getfield 9, 3) := by decide +kernel
theorem dX2_has_16 : decode cX2_has 16 = .ok (.iload_n 1, 1) := by decide +kernel
theorem dX2_has_17 : decode cX2_has 17 = .ok (.iaload, 1) := by decide +kernel
theorem dX2_has_18 : decode cX2_has 18 = .ok (.invokestatic 31, 3) := by decide +kernel
theorem dX2_has_21 : decode cX2_has 21 = .ok (.iload_n 2, 1) := by decide +kernel
theorem dX2_has_22 : decode cX2_has 22 = .ok (.if_icmp .ne 7, 3) := by decide +kernel
theorem dX2_has_25 : decode cX2_has 25 = .ok (.iconst 1, 1) := by decide +kernel
theorem dX2_has_26 : decode cX2_has 26 = .ok (.goto 4, 3) := by decide +kernel
theorem dX2_has_29 : decode cX2_has 29 = .ok (.iconst 0, 1) := by decide +kernel
theorem dX2_has_30 : decode cX2_has 30 = .ok (.ireturn, 1) := by decide +kernel
theorem dX2_haveWordsFor_0 : decode cX2_haveWordsFor 0 = .ok (.aload_n 0, 1) := by decide +kernel
theorem dX2_haveWordsFor_1 : decode cX2_haveWordsFor 1 = .ok (.getstatic 35, 3) := by decide +kernel
theorem dX2_haveWordsFor_4 : decode cX2_haveWordsFor 4 = .ok (.iload_n 1, 1) := by decide +kernel
theorem dX2_haveWordsFor_5 : decode cX2_haveWordsFor 5 = .ok (.iaload, 1) := by decide +kernel
theorem dX2_haveWordsFor_6 : decode cX2_haveWordsFor 6 = .ok (.iload_n 2, 1) := by decide +kernel
theorem dX2_haveWordsFor_7 : decode cX2_haveWordsFor 7 = .ok (.invokevirtual 38, 3) := by decide +kernel
theorem dX2_haveWordsFor_10 : decode cX2_haveWordsFor 10 = .ok (.ifCond .eq 34, 3) := by decide +kernel
theorem dX2_haveWordsFor_13 : decode cX2_haveWordsFor 13 = .ok (.aload_n 0, 1) := by decide +kernel
theorem dX2_haveWordsFor_14 : decode cX2_haveWordsFor 14 = .ok (.getstatic 42, 3) := by decide +kernel
theorem dX2_haveWordsFor_17 : decode cX2_haveWordsFor 17 = .ok (.iload_n 1, 1) := by decide +kernel
theorem dX2_haveWordsFor_18 : decode cX2_haveWordsFor 18 = .ok (.iaload, 1) := by decide +kernel
theorem dX2_haveWordsFor_19 : decode cX2_haveWordsFor 19 = .ok (.iload_n 3, 1) := by decide +kernel
theorem dX2_haveWordsFor_20 : decode cX2_haveWordsFor 20 = .ok (.invokevirtual 38, 3) := by decide +kernel
theorem dX2_haveWordsFor_23 : decode cX2_haveWordsFor 23 = .ok (.ifCond .eq 21, 3) := by decide +kernel
theorem dX2_haveWordsFor_26 : decode cX2_haveWordsFor 26 = .ok (.aload_n 0, 1) := by decide +kernel
theorem dX2_haveWordsFor_27 : decode cX2_haveWordsFor 27 = .ok (.getstatic 45, 3) := by decide +kernel
theorem dX2_haveWordsFor_30 : decode cX2_haveWordsFor 30 = .ok (.iload_n 1, 1) := by decide +kernel
theorem dX2_haveWordsFor_31 : decode cX2_haveWordsFor 31 = .ok (.iaload, 1) := by decide +kernel
theorem dX2_haveWordsFor_32 : decode cX2_haveWordsFor 32 = .ok (.iload 4, 2) := by decide +kernel
theorem dX2_haveWordsFor_34 : decode cX2_haveWordsFor 34 = .ok (.invokevirtual 38, 3) := by decide +kernel
theorem dX2_haveWordsFor_37 : decode cX2_haveWordsFor 37 = .ok (.ifCond .eq 7, 3) := by decide +kernel
theorem dX2_haveWordsFor_40 : decode cX2_haveWordsFor 40 = .ok (.iconst 1, 1) := by decide +kernel
theorem dX2_haveWordsFor_41 : decode cX2_haveWordsFor 41 = .ok (.goto 4, 3) := by decide +kernel
theorem dX2_haveWordsFor_44 : decode cX2_haveWordsFor 44 = .ok (.iconst 0, 1) := by decide +kernel
theorem dX2_haveWordsFor_45 : decode cX2_haveWordsFor 45 = .ok (.ireturn, 1) := by decide +kernel
theorem dX2_heightOf_0 : decode cX2_heightOf 0 = .ok (.aload_n 0, 1) := by decide +kernel
theorem dX2_heightOf_1 : decode cX2_heightOf 1 = .ok (.getstatic 35, 3) := by decide +kernel
theorem dX2_heightOf_4 : decode cX2_heightOf 4 = .ok (.iload_n 1, 1) := by decide +kernel
theorem dX2_heightOf_5 : decode cX2_heightOf 5 = .ok (.iaload, 1) := by decide +kernel
theorem dX2_heightOf_6 : decode cX2_heightOf 6 = .ok (.iload_n 2, 1) := by decide +kernel
theorem dX2_heightOf_7 : decode cX2_heightOf 7 = .ok (.invokevirtual 48, 3) := by decide +kernel
theorem dX2_heightOf_10 : decode cX2_heightOf 10 = .ok (.aload_n 0, 1) := by decide +kernel
theorem dX2_heightOf_11 : decode cX2_heightOf 11 = .ok (.getstatic 42, 3) := by decide +kernel
theorem dX2_heightOf_14 : decode cX2_heightOf 14 = .ok (.iload_n 1, 1) := by decide +kernel
theorem dX2_heightOf_15 : decode cX2_heightOf 15 = .ok (.iaload, 1) := by decide +kernel
theorem dX2_heightOf_16 : decode cX2_heightOf 16 = .ok (.iload_n 3, 1) := by decide +kernel
theorem dX2_heightOf_17 : decode cX2_heightOf 17 = .ok (.invokevirtual 48, 3) := by decide +kernel
theorem dX2_heightOf_20 : decode cX2_heightOf 20 = .ok (.invokestatic 52, 3) := by decide +kernel
theorem dX2_heightOf_23 : decode cX2_heightOf 23 = .ok (.istore 5, 2) := by decide +kernel
theorem dX2_heightOf_25 : decode cX2_heightOf 25 = .ok (.iconst 1, 1) := by decide +kernel
theorem dX2_heightOf_26 : decode cX2_heightOf 26 = .ok (.iload 5, 2) := by decide +kernel
theorem dX2_heightOf_28 : decode cX2_heightOf 28 = .ok (.aload_n 0, 1) := by decide +kernel
theorem dX2_heightOf_29 : decode cX2_heightOf 29 = .ok (.getstatic 45, 3) := by decide +kernel
theorem dX2_heightOf_32 : decode cX2_heightOf 32 = .ok (.iload_n 1, 1) := by decide +kernel
theorem dX2_heightOf_33 : decode cX2_heightOf 33 = .ok (.iaload, 1) := by decide +kernel
theorem dX2_heightOf_34 : decode cX2_heightOf 34 = .ok (.iload 4, 2) := by decide +kernel
theorem dX2_heightOf_36 : decode cX2_heightOf 36 = .ok (.invokevirtual 48, 3) := by decide +kernel
theorem dX2_heightOf_39 : decode cX2_heightOf 39 = .ok (.invokestatic 52, 3) := by decide +kernel
theorem dX2_heightOf_42 : decode cX2_heightOf 42 = .ok (.iadd, 1) := by decide +kernel
theorem dX2_heightOf_43 : decode cX2_heightOf 43 = .ok (.ireturn, 1) := by decide +kernel
theorem dX2_add_0 : decode cX2_add 0 = .ok (.aload_n 0, 1) := by decide +kernel
theorem dX2_add_1 : decode cX2_add 1 = .ok (.getfield 27, 3) := by decide +kernel
theorem dX2_add_4 : decode cX2_add 4 = .ok (.istore 6, 2) := by decide +kernel
theorem dX2_add_6 : decode cX2_add 6 = .ok (.aload_n 0, 1) := by decide +kernel
theorem dX2_add_7 : decode cX2_add 7 = .ok (.getfield 9, 3) := by decide +kernel
theorem dX2_add_10 : decode cX2_add 10 = .ok (.iload 6, 2) := by decide +kernel
theorem dX2_add_12 : decode cX2_add 12 = .ok (.iload_n 1, 1) := by decide +kernel
theorem dX2_add_13 : decode cX2_add 13 = .ok (.iastore, 1) := by decide +kernel
theorem dX2_add_14 : decode cX2_add 14 = .ok (.aload_n 0, 1) := by decide +kernel
theorem dX2_add_15 : decode cX2_add 15 = .ok (.getfield 15, 3) := by decide +kernel
theorem dX2_add_18 : decode cX2_add 18 = .ok (.iload 6, 2) := by decide +kernel
theorem dX2_add_20 : decode cX2_add 20 = .ok (.iload_n 2, 1) := by decide +kernel
theorem dX2_add_21 : decode cX2_add 21 = .ok (.iastore, 1) := by decide +kernel
theorem dX2_add_22 : decode cX2_add 22 = .ok (.aload_n 0, 1) := by decide +kernel
theorem dX2_add_23 : decode cX2_add 23 = .ok (.getfield 18, 3) := by decide +kernel
theorem dX2_add_26 : decode cX2_add 26 = .ok (.iload 6, 2) := by decide +kernel
theorem dX2_add_28 : decode cX2_add 28 = .ok (.iload_n 3, 1) := by decide +kernel
theorem dX2_add_29 : decode cX2_add 29 = .ok (.iastore, 1) := by decide +kernel
theorem dX2_add_30 : decode cX2_add 30 = .ok (.aload_n 0, 1) := by decide +kernel
theorem dX2_add_31 : decode cX2_add 31 = .ok (.getfield 21, 3) := by decide +kernel
theorem dX2_add_34 : decode cX2_add 34 = .ok (.iload 6, 2) := by decide +kernel
theorem dX2_add_36 : decode cX2_add 36 = .ok (.iload 4, 2) := by decide +kernel
theorem dX2_add_38 : decode cX2_add 38 = .ok (.iastore, 1) := by decide +kernel
theorem dX2_add_39 : decode cX2_add 39 = .ok (.aload_n 0, 1) := by decide +kernel
theorem dX2_add_40 : decode cX2_add 40 = .ok (.getfield 24, 3) := by decide +kernel
theorem dX2_add_43 : decode cX2_add 43 = .ok (.iload 6, 2) := by decide +kernel
theorem dX2_add_45 : decode cX2_add 45 = .ok (.iload 5, 2) := by decide +kernel
theorem dX2_add_47 : decode cX2_add 47 = .ok (.iastore, 1) := by decide +kernel
theorem dX2_add_48 : decode cX2_add 48 = .ok (.aload_n 0, 1) := by decide +kernel
theorem dX2_add_49 : decode cX2_add 49 = .ok (.dup, 1) := by decide +kernel
theorem dX2_add_50 : decode cX2_add 50 = .ok (.getfield 27, 3) := by decide +kernel
theorem dX2_add_53 : decode cX2_add 53 = .ok (.iconst 1, 1) := by decide +kernel
theorem dX2_add_54 : decode cX2_add 54 = .ok (.iadd, 1) := by decide +kernel
theorem dX2_add_55 : decode cX2_add 55 = .ok (.putfield 27, 3) := by decide +kernel
theorem dX2_add_58 : decode cX2_add 58 = .ok (.iload 6, 2) := by decide +kernel
theorem dX2_add_60 : decode cX2_add 60 = .ok (.ireturn, 1) := by decide +kernel
theorem dX2_numberIn_0 : decode cX2_numberIn 0 = .ok (.aload_n 0, 1) := by decide +kernel
theorem dX2_numberIn_1 : decode cX2_numberIn 1 = .ok (.getfield 15, 3) := by decide +kernel
theorem dX2_numberIn_4 : decode cX2_numberIn 4 = .ok (.iload_n 1, 1) := by decide +kernel
theorem dX2_numberIn_5 : decode cX2_numberIn 5 = .ok (.iaload, 1) := by decide +kernel
theorem dX2_numberIn_6 : decode cX2_numberIn 6 = .ok (.istore_n 3, 1) := by decide +kernel
theorem dX2_numberIn_7 : decode cX2_numberIn 7 = .ok (.aload_n 0, 1) := by decide +kernel
theorem dX2_numberIn_8 : decode cX2_numberIn 8 = .ok (.getfield 18, 3) := by decide +kernel
theorem dX2_numberIn_11 : decode cX2_numberIn 11 = .ok (.iload_n 1, 1) := by decide +kernel
theorem dX2_numberIn_12 : decode cX2_numberIn 12 = .ok (.iaload, 1) := by decide +kernel
theorem dX2_numberIn_13 : decode cX2_numberIn 13 = .ok (.istore 4, 2) := by decide +kernel
theorem dX2_numberIn_15 : decode cX2_numberIn 15 = .ok (.aload_n 0, 1) := by decide +kernel
theorem dX2_numberIn_16 : decode cX2_numberIn 16 = .ok (.getfield 9, 3) := by decide +kernel
theorem dX2_numberIn_19 : decode cX2_numberIn 19 = .ok (.iload_n 1, 1) := by decide +kernel
theorem dX2_numberIn_20 : decode cX2_numberIn 20 = .ok (.iaload, 1) := by decide +kernel
theorem dX2_numberIn_21 : decode cX2_numberIn 21 = .ok (.tableswitch 72 0 3 #[31, 33, 42, 57], 31) := by decide +kernel
theorem dX2_numberIn_52 : decode cX2_numberIn 52 = .ok (.iload_n 3, 1) := by decide +kernel
theorem dX2_numberIn_53 : decode cX2_numberIn 53 = .ok (.ireturn, 1) := by decide +kernel
theorem dX2_numberIn_54 : decode cX2_numberIn 54 = .ok (.iload_n 2, 1) := by decide +kernel
theorem dX2_numberIn_55 : decode cX2_numberIn 55 = .ok (.iconst 4, 1) := by decide +kernel
theorem dX2_numberIn_56 : decode cX2_numberIn 56 = .ok (.iload_n 3, 1) := by decide +kernel
theorem dX2_numberIn_57 : decode cX2_numberIn 57 = .ok (.imul, 1) := by decide +kernel
theorem dX2_numberIn_58 : decode cX2_numberIn 58 = .ok (.ishr, 1) := by decide +kernel
theorem dX2_numberIn_59 : decode cX2_numberIn 59 = .ok (.bipush 15, 2) := by decide +kernel
theorem dX2_numberIn_61 : decode cX2_numberIn 61 = .ok (.iand, 1) := by decide +kernel
theorem dX2_numberIn_62 : decode cX2_numberIn 62 = .ok (.ireturn, 1) := by decide +kernel
theorem dX2_numberIn_63 : decode cX2_numberIn 63 = .ok (.aload_n 0, 1) := by decide +kernel
theorem dX2_numberIn_64 : decode cX2_numberIn 64 = .ok (.iload_n 3, 1) := by decide +kernel
theorem dX2_numberIn_65 : decode cX2_numberIn 65 = .ok (.iload_n 2, 1) := by decide +kernel
theorem dX2_numberIn_66 : decode cX2_numberIn 66 = .ok (.invokevirtual 57, 3) := by decide +kernel
theorem dX2_numberIn_69 : decode cX2_numberIn 69 = .ok (.aload_n 0, 1) := by decide +kernel
theorem dX2_numberIn_70 : decode cX2_numberIn 70 = .ok (.iload 4, 2) := by decide +kernel
theorem dX2_numberIn_72 : decode cX2_numberIn 72 = .ok (.iload_n 2, 1) := by decide +kernel
theorem dX2_numberIn_73 : decode cX2_numberIn 73 = .ok (.invokevirtual 57, 3) := by decide +kernel
theorem dX2_numberIn_76 : decode cX2_numberIn 76 = .ok (.iadd, 1) := by decide +kernel
theorem dX2_numberIn_77 : decode cX2_numberIn 77 = .ok (.ireturn, 1) := by decide +kernel
theorem dX2_numberIn_78 : decode cX2_numberIn 78 = .ok (.aload_n 0, 1) := by decide +kernel
theorem dX2_numberIn_79 : decode cX2_numberIn 79 = .ok (.iload_n 3, 1) := by decide +kernel
theorem dX2_numberIn_80 : decode cX2_numberIn 80 = .ok (.iload_n 2, 1) := by decide +kernel
theorem dX2_numberIn_81 : decode cX2_numberIn 81 = .ok (.invokevirtual 57, 3) := by decide +kernel
theorem dX2_numberIn_84 : decode cX2_numberIn 84 = .ok (.aload_n 0, 1) := by decide +kernel
theorem dX2_numberIn_85 : decode cX2_numberIn 85 = .ok (.iload 4, 2) := by decide +kernel
theorem dX2_numberIn_87 : decode cX2_numberIn 87 = .ok (.iload_n 2, 1) := by decide +kernel
theorem dX2_numberIn_88 : decode cX2_numberIn 88 = .ok (.invokevirtual 57, 3) := by decide +kernel
theorem dX2_numberIn_91 : decode cX2_numberIn 91 = .ok (.isub, 1) := by decide +kernel
theorem dX2_numberIn_92 : decode cX2_numberIn 92 = .ok (.ireturn, 1) := by decide +kernel
theorem dX2_numberIn_93 : decode cX2_numberIn 93 = .ok (.iload_n 3, 1) := by decide +kernel
theorem dX2_numberIn_94 : decode cX2_numberIn 94 = .ok (.aload_n 0, 1) := by decide +kernel
theorem dX2_numberIn_95 : decode cX2_numberIn 95 = .ok (.iload 4, 2) := by decide +kernel
theorem dX2_numberIn_97 : decode cX2_numberIn 97 = .ok (.iload_n 2, 1) := by decide +kernel
theorem dX2_numberIn_98 : decode cX2_numberIn 98 = .ok (.invokevirtual 57, 3) := by decide +kernel
theorem dX2_numberIn_101 : decode cX2_numberIn 101 = .ok (.imul, 1) := by decide +kernel
theorem dX2_numberIn_102 : decode cX2_numberIn 102 = .ok (.ireturn, 1) := by decide +kernel
theorem dX2_isTrueIn_0 : decode cX2_isTrueIn 0 = .ok (.aload_n 0, 1) := by decide +kernel
theorem dX2_isTrueIn_1 : decode cX2_isTrueIn 1 = .ok (.getfield 15, 3) := by decide +kernel
theorem dX2_isTrueIn_4 : decode cX2_isTrueIn 4 = .ok (.iload_n 1, 1) := by decide +kernel
theorem dX2_isTrueIn_5 : decode cX2_isTrueIn 5 = .ok (.iaload, 1) := by decide +kernel
theorem dX2_isTrueIn_6 : decode cX2_isTrueIn 6 = .ok (.istore_n 3, 1) := by decide +kernel
theorem dX2_isTrueIn_7 : decode cX2_isTrueIn 7 = .ok (.aload_n 0, 1) := by decide +kernel
theorem dX2_isTrueIn_8 : decode cX2_isTrueIn 8 = .ok (.getfield 18, 3) := by decide +kernel
theorem dX2_isTrueIn_11 : decode cX2_isTrueIn 11 = .ok (.iload_n 1, 1) := by decide +kernel
theorem dX2_isTrueIn_12 : decode cX2_isTrueIn 12 = .ok (.iaload, 1) := by decide +kernel
theorem dX2_isTrueIn_13 : decode cX2_isTrueIn 13 = .ok (.istore 4, 2) := by decide +kernel
theorem dX2_isTrueIn_15 : decode cX2_isTrueIn 15 = .ok (.aload_n 0, 1) := by decide +kernel
theorem dX2_isTrueIn_16 : decode cX2_isTrueIn 16 = .ok (.getfield 9, 3) := by decide +kernel
theorem dX2_isTrueIn_19 : decode cX2_isTrueIn 19 = .ok (.iload_n 1, 1) := by decide +kernel
theorem dX2_isTrueIn_20 : decode cX2_isTrueIn 20 = .ok (.iaload, 1) := by decide +kernel
theorem dX2_isTrueIn_21 : decode cX2_isTrueIn 21 = .ok (.tableswitch 137 5 9 #[35, 57, 79, 97, 112], 35) := by decide +kernel
theorem dX2_isTrueIn_56 : decode cX2_isTrueIn 56 = .ok (.aload_n 0, 1) := by decide +kernel
theorem dX2_isTrueIn_57 : decode cX2_isTrueIn 57 = .ok (.iload_n 3, 1) := by decide +kernel
theorem dX2_isTrueIn_58 : decode cX2_isTrueIn 58 = .ok (.iload_n 2, 1) := by decide +kernel
theorem dX2_isTrueIn_59 : decode cX2_isTrueIn 59 = .ok (.invokevirtual 57, 3) := by decide +kernel
theorem dX2_isTrueIn_62 : decode cX2_isTrueIn 62 = .ok (.aload_n 0, 1) := by decide +kernel
theorem dX2_isTrueIn_63 : decode cX2_isTrueIn 63 = .ok (.iload 4, 2) := by decide +kernel
theorem dX2_isTrueIn_65 : decode cX2_isTrueIn 65 = .ok (.iload_n 2, 1) := by decide +kernel
theorem dX2_isTrueIn_66 : decode cX2_isTrueIn 66 = .ok (.invokevirtual 57, 3) := by decide +kernel
theorem dX2_isTrueIn_69 : decode cX2_isTrueIn 69 = .ok (.if_icmp .ge 7, 3) := by decide +kernel
theorem dX2_isTrueIn_72 : decode cX2_isTrueIn 72 = .ok (.iconst 1, 1) := by decide +kernel
theorem dX2_isTrueIn_73 : decode cX2_isTrueIn 73 = .ok (.goto 4, 3) := by decide +kernel
theorem dX2_isTrueIn_76 : decode cX2_isTrueIn 76 = .ok (.iconst 0, 1) := by decide +kernel
theorem dX2_isTrueIn_77 : decode cX2_isTrueIn 77 = .ok (.ireturn, 1) := by decide +kernel
theorem dX2_isTrueIn_78 : decode cX2_isTrueIn 78 = .ok (.aload_n 0, 1) := by decide +kernel
theorem dX2_isTrueIn_79 : decode cX2_isTrueIn 79 = .ok (.iload_n 3, 1) := by decide +kernel
theorem dX2_isTrueIn_80 : decode cX2_isTrueIn 80 = .ok (.iload_n 2, 1) := by decide +kernel
theorem dX2_isTrueIn_81 : decode cX2_isTrueIn 81 = .ok (.invokevirtual 57, 3) := by decide +kernel
theorem dX2_isTrueIn_84 : decode cX2_isTrueIn 84 = .ok (.aload_n 0, 1) := by decide +kernel
theorem dX2_isTrueIn_85 : decode cX2_isTrueIn 85 = .ok (.iload 4, 2) := by decide +kernel
theorem dX2_isTrueIn_87 : decode cX2_isTrueIn 87 = .ok (.iload_n 2, 1) := by decide +kernel
theorem dX2_isTrueIn_88 : decode cX2_isTrueIn 88 = .ok (.invokevirtual 57, 3) := by decide +kernel
theorem dX2_isTrueIn_91 : decode cX2_isTrueIn 91 = .ok (.if_icmp .ne 7, 3) := by decide +kernel
theorem dX2_isTrueIn_94 : decode cX2_isTrueIn 94 = .ok (.iconst 1, 1) := by decide +kernel
theorem dX2_isTrueIn_95 : decode cX2_isTrueIn 95 = .ok (.goto 4, 3) := by decide +kernel
theorem dX2_isTrueIn_98 : decode cX2_isTrueIn 98 = .ok (.iconst 0, 1) := by decide +kernel
theorem dX2_isTrueIn_99 : decode cX2_isTrueIn 99 = .ok (.ireturn, 1) := by decide +kernel
theorem dX2_isTrueIn_100 : decode cX2_isTrueIn 100 = .ok (.aload_n 0, 1) := by decide +kernel
theorem dX2_isTrueIn_101 : decode cX2_isTrueIn 101 = .ok (.iload 4, 2) := by decide +kernel
theorem dX2_isTrueIn_103 : decode cX2_isTrueIn 103 = .ok (.iload_n 2, 1) := by decide +kernel
theorem dX2_isTrueIn_104 : decode cX2_isTrueIn 104 = .ok (.invokevirtual 57, 3) := by decide +kernel
theorem dX2_isTrueIn_107 : decode cX2_isTrueIn 107 = .ok (.iload_n 3, 1) := by decide +kernel
theorem dX2_isTrueIn_108 : decode cX2_isTrueIn 108 = .ok (.irem, 1) := by decide +kernel
theorem dX2_isTrueIn_109 : decode cX2_isTrueIn 109 = .ok (.ifCond .ne 7, 3) := by decide +kernel
theorem dX2_isTrueIn_112 : decode cX2_isTrueIn 112 = .ok (.iconst 1, 1) := by decide +kernel
theorem dX2_isTrueIn_113 : decode cX2_isTrueIn 113 = .ok (.goto 4, 3) := by decide +kernel
theorem dX2_isTrueIn_116 : decode cX2_isTrueIn 116 = .ok (.iconst 0, 1) := by decide +kernel
theorem dX2_isTrueIn_117 : decode cX2_isTrueIn 117 = .ok (.ireturn, 1) := by decide +kernel
theorem dX2_isTrueIn_118 : decode cX2_isTrueIn 118 = .ok (.aload_n 0, 1) := by decide +kernel
theorem dX2_isTrueIn_119 : decode cX2_isTrueIn 119 = .ok (.iload_n 3, 1) := by decide +kernel
theorem dX2_isTrueIn_120 : decode cX2_isTrueIn 120 = .ok (.iload_n 2, 1) := by decide +kernel
theorem dX2_isTrueIn_121 : decode cX2_isTrueIn 121 = .ok (.invokevirtual 60, 3) := by decide +kernel
theorem dX2_isTrueIn_124 : decode cX2_isTrueIn 124 = .ok (.ifCond .ne 7, 3) := by decide +kernel
theorem dX2_isTrueIn_127 : decode cX2_isTrueIn 127 = .ok (.iconst 1, 1) := by decide +kernel
theorem dX2_isTrueIn_128 : decode cX2_isTrueIn 128 = .ok (.goto 4, 3) := by decide +kernel
theorem dX2_isTrueIn_131 : decode cX2_isTrueIn 131 = .ok (.iconst 0, 1) := by decide +kernel
theorem dX2_isTrueIn_132 : decode cX2_isTrueIn 132 = .ok (.ireturn, 1) := by decide +kernel
theorem dX2_isTrueIn_133 : decode cX2_isTrueIn 133 = .ok (.aload_n 0, 1) := by decide +kernel
theorem dX2_isTrueIn_134 : decode cX2_isTrueIn 134 = .ok (.iload_n 3, 1) := by decide +kernel
theorem dX2_isTrueIn_135 : decode cX2_isTrueIn 135 = .ok (.iload_n 2, 1) := by decide +kernel
theorem dX2_isTrueIn_136 : decode cX2_isTrueIn 136 = .ok (.invokevirtual 60, 3) := by decide +kernel
theorem dX2_isTrueIn_139 : decode cX2_isTrueIn 139 = .ok (.ifCond .eq 17, 3) := by decide +kernel
theorem dX2_isTrueIn_142 : decode cX2_isTrueIn 142 = .ok (.aload_n 0, 1) := by decide +kernel
theorem dX2_isTrueIn_143 : decode cX2_isTrueIn 143 = .ok (.iload 4, 2) := by decide +kernel
theorem dX2_isTrueIn_145 : decode cX2_isTrueIn 145 = .ok (.iload_n 2, 1) := by decide +kernel
theorem dX2_isTrueIn_146 : decode cX2_isTrueIn 146 = .ok (.invokevirtual 60, 3) := by decide +kernel
theorem dX2_isTrueIn_149 : decode cX2_isTrueIn 149 = .ok (.ifCond .eq 7, 3) := by decide +kernel
theorem dX2_isTrueIn_152 : decode cX2_isTrueIn 152 = .ok (.iconst 1, 1) := by decide +kernel
theorem dX2_isTrueIn_153 : decode cX2_isTrueIn 153 = .ok (.goto 4, 3) := by decide +kernel
theorem dX2_isTrueIn_156 : decode cX2_isTrueIn 156 = .ok (.iconst 0, 1) := by decide +kernel
theorem dX2_isTrueIn_157 : decode cX2_isTrueIn 157 = .ok (.ireturn, 1) := by decide +kernel
theorem dX2_isTrueIn_158 : decode cX2_isTrueIn 158 = .ok (.aload_n 0, 1) := by decide +kernel
theorem dX2_isTrueIn_159 : decode cX2_isTrueIn 159 = .ok (.iload_n 3, 1) := by decide +kernel
theorem dX2_isTrueIn_160 : decode cX2_isTrueIn 160 = .ok (.iload_n 2, 1) := by decide +kernel
theorem dX2_isTrueIn_161 : decode cX2_isTrueIn 161 = .ok (.invokevirtual 60, 3) := by decide +kernel
theorem dX2_isTrueIn_164 : decode cX2_isTrueIn 164 = .ok (.ifCond .ne 13, 3) := by decide +kernel
theorem dX2_isTrueIn_167 : decode cX2_isTrueIn 167 = .ok (.aload_n 0, 1) := by decide +kernel
theorem dX2_isTrueIn_168 : decode cX2_isTrueIn 168 = .ok (.iload 4, 2) := by decide +kernel
theorem dX2_isTrueIn_170 : decode cX2_isTrueIn 170 = .ok (.iload_n 2, 1) := by decide +kernel
theorem dX2_isTrueIn_171 : decode cX2_isTrueIn 171 = .ok (.invokevirtual 60, 3) := by decide +kernel
theorem dX2_isTrueIn_174 : decode cX2_isTrueIn 174 = .ok (.ifCond .eq 7, 3) := by decide +kernel
theorem dX2_isTrueIn_177 : decode cX2_isTrueIn 177 = .ok (.iconst 1, 1) := by decide +kernel
theorem dX2_isTrueIn_178 : decode cX2_isTrueIn 178 = .ok (.goto 4, 3) := by decide +kernel
theorem dX2_isTrueIn_181 : decode cX2_isTrueIn 181 = .ok (.iconst 0, 1) := by decide +kernel
theorem dX2_isTrueIn_182 : decode cX2_isTrueIn 182 = .ok (.ireturn, 1) := by decide +kernel
theorem dX2_fits_0 : decode cX2_fits 0 = .ok (.iload_n 1, 1) := by decide +kernel
theorem dX2_fits_1 : decode cX2_fits 1 = .ok (.tableswitch 105 0 4 #[35, 37, 55, 73, 90], 35) := by decide +kernel
theorem dX2_fits_36 : decode cX2_fits 36 = .ok (.iconst 1, 1) := by decide +kernel
theorem dX2_fits_37 : decode cX2_fits 37 = .ok (.ireturn, 1) := by decide +kernel
theorem dX2_fits_38 : decode cX2_fits 38 = .ok (.iload_n 2, 1) := by decide +kernel
theorem dX2_fits_39 : decode cX2_fits 39 = .ok (.bipush (-100), 2) := by decide +kernel
theorem dX2_fits_41 : decode cX2_fits 41 = .ok (.if_icmp .lt 13, 3) := by decide +kernel
theorem dX2_fits_44 : decode cX2_fits 44 = .ok (.iload_n 2, 1) := by decide +kernel
theorem dX2_fits_45 : decode cX2_fits 45 = .ok (.bipush 100, 2) := by decide +kernel
theorem dX2_fits_47 : decode cX2_fits 47 = .ok (.if_icmp .gt 7, 3) := by decide +kernel
theorem dX2_fits_50 : decode cX2_fits 50 = .ok (.iconst 1, 1) := by decide +kernel
theorem dX2_fits_51 : decode cX2_fits 51 = .ok (.goto 4, 3) := by decide +kernel
theorem dX2_fits_54 : decode cX2_fits 54 = .ok (.iconst 0, 1) := by decide +kernel
theorem dX2_fits_55 : decode cX2_fits 55 = .ok (.ireturn, 1) := by decide +kernel
theorem dX2_fits_56 : decode cX2_fits 56 = .ok (.iload_n 2, 1) := by decide +kernel
theorem dX2_fits_57 : decode cX2_fits 57 = .ok (.bipush (-16), 2) := by decide +kernel
theorem dX2_fits_59 : decode cX2_fits 59 = .ok (.if_icmp .lt 13, 3) := by decide +kernel
theorem dX2_fits_62 : decode cX2_fits 62 = .ok (.iload_n 2, 1) := by decide +kernel
theorem dX2_fits_63 : decode cX2_fits 63 = .ok (.bipush 16, 2) := by decide +kernel
theorem dX2_fits_65 : decode cX2_fits 65 = .ok (.if_icmp .gt 7, 3) := by decide +kernel
theorem dX2_fits_68 : decode cX2_fits 68 = .ok (.iconst 1, 1) := by decide +kernel
theorem dX2_fits_69 : decode cX2_fits 69 = .ok (.goto 4, 3) := by decide +kernel
theorem dX2_fits_72 : decode cX2_fits 72 = .ok (.iconst 0, 1) := by decide +kernel
theorem dX2_fits_73 : decode cX2_fits 73 = .ok (.ireturn, 1) := by decide +kernel
theorem dX2_fits_74 : decode cX2_fits 74 = .ok (.iload_n 2, 1) := by decide +kernel
theorem dX2_fits_75 : decode cX2_fits 75 = .ok (.iconst 1, 1) := by decide +kernel
theorem dX2_fits_76 : decode cX2_fits 76 = .ok (.if_icmp .lt 13, 3) := by decide +kernel
theorem dX2_fits_79 : decode cX2_fits 79 = .ok (.iload_n 2, 1) := by decide +kernel
theorem dX2_fits_80 : decode cX2_fits 80 = .ok (.bipush 16, 2) := by decide +kernel
theorem dX2_fits_82 : decode cX2_fits 82 = .ok (.if_icmp .gt 7, 3) := by decide +kernel
theorem dX2_fits_85 : decode cX2_fits 85 = .ok (.iconst 1, 1) := by decide +kernel
theorem dX2_fits_86 : decode cX2_fits 86 = .ok (.goto 4, 3) := by decide +kernel
theorem dX2_fits_89 : decode cX2_fits 89 = .ok (.iconst 0, 1) := by decide +kernel
theorem dX2_fits_90 : decode cX2_fits 90 = .ok (.ireturn, 1) := by decide +kernel
theorem dX2_fits_91 : decode cX2_fits 91 = .ok (.iload_n 2, 1) := by decide +kernel
theorem dX2_fits_92 : decode cX2_fits 92 = .ok (.ifCond .lt 12, 3) := by decide +kernel
theorem dX2_fits_95 : decode cX2_fits 95 = .ok (.iload_n 2, 1) := by decide +kernel
theorem dX2_fits_96 : decode cX2_fits 96 = .ok (.iconst 2, 1) := by decide +kernel
theorem dX2_fits_97 : decode cX2_fits 97 = .ok (.if_icmp .gt 7, 3) := by decide +kernel
theorem dX2_fits_100 : decode cX2_fits 100 = .ok (.iconst 1, 1) := by decide +kernel
theorem dX2_fits_101 : decode cX2_fits 101 = .ok (.goto 4, 3) := by decide +kernel
theorem dX2_fits_104 : decode cX2_fits 104 = .ok (.iconst 0, 1) := by decide +kernel
theorem dX2_fits_105 : decode cX2_fits 105 = .ok (.ireturn, 1) := by decide +kernel
theorem dX2_fits_106 : decode cX2_fits 106 = .ok (.aload_n 0, 1) := by decide +kernel
theorem dX2_fits_107 : decode cX2_fits 107 = .ok (.iload_n 2, 1) := by decide +kernel
theorem dX2_fits_108 : decode cX2_fits 108 = .ok (.iload_n 1, 1) := by decide +kernel
theorem dX2_fits_109 : decode cX2_fits 109 = .ok (.invokevirtual 63, 3) := by decide +kernel
theorem dX2_fits_112 : decode cX2_fits 112 = .ok (.ireturn, 1) := by decide +kernel
theorem dX2_heightBelow_0 : decode cX2_heightBelow 0 = .ok (.iload_n 1, 1) := by decide +kernel
theorem dX2_heightBelow_1 : decode cX2_heightBelow 1 = .ok (.iconst 5, 1) := by decide +kernel
theorem dX2_heightBelow_2 : decode cX2_heightBelow 2 = .ok (.if_icmp .lt 12, 3) := by decide +kernel
theorem dX2_heightBelow_5 : decode cX2_heightBelow 5 = .ok (.aload_n 0, 1) := by decide +kernel
theorem dX2_heightBelow_6 : decode cX2_heightBelow 6 = .ok (.getfield 24, 3) := by decide +kernel
theorem dX2_heightBelow_9 : decode cX2_heightBelow 9 = .ok (.iload_n 2, 1) := by decide +kernel
theorem dX2_heightBelow_10 : decode cX2_heightBelow 10 = .ok (.iaload, 1) := by decide +kernel
theorem dX2_heightBelow_11 : decode cX2_heightBelow 11 = .ok (.goto 4, 3) := by decide +kernel
theorem dX2_heightBelow_14 : decode cX2_heightBelow 14 = .ok (.iconst 0, 1) := by decide +kernel
theorem dX2_heightBelow_15 : decode cX2_heightBelow 15 = .ok (.ireturn, 1) := by decide +kernel
theorem dX2_sortOf_0 : decode cX2_sortOf 0 = .ok (.iload_n 0, 1) := by decide +kernel
theorem dX2_sortOf_1 : decode cX2_sortOf 1 = .ok (.iconst 5, 1) := by decide +kernel
theorem dX2_sortOf_2 : decode cX2_sortOf 2 = .ok (.if_icmp .ge 5, 3) := by decide +kernel
theorem dX2_sortOf_5 : decode cX2_sortOf 5 = .ok (.iconst 5, 1) := by decide +kernel
theorem dX2_sortOf_6 : decode cX2_sortOf 6 = .ok (.ireturn, 1) := by decide +kernel
theorem dX2_sortOf_7 : decode cX2_sortOf 7 = .ok (.iload_n 0, 1) := by decide +kernel
theorem dX2_sortOf_8 : decode cX2_sortOf 8 = .ok (.bipush 11, 2) := by decide +kernel
theorem dX2_sortOf_10 : decode cX2_sortOf 10 = .ok (.if_icmp .ge 8, 3) := by decide +kernel
theorem dX2_sortOf_13 : decode cX2_sortOf 13 = .ok (.bipush 6, 2) := by decide +kernel
theorem dX2_sortOf_15 : decode cX2_sortOf 15 = .ok (.goto 5, 3) := by decide +kernel
theorem dX2_sortOf_18 : decode cX2_sortOf 18 = .ok (.bipush 7, 2) := by decide +kernel
theorem dX2_sortOf_20 : decode cX2_sortOf 20 = .ok (.ireturn, 1) := by decide +kernel
theorem dX3_init_0 : decode cX3_init 0 = .ok (.aload_n 0, 1) := by decide +kernel
theorem dX3_init_1 : decode cX3_init 1 = .ok (.invokespecial 3, 3) := by decide +kernel
theorem dX3_init_4 : decode cX3_init 4 = .ok (.aload_n 0, 1) := by decide +kernel
theorem dX3_init_5 : decode cX3_init 5 = .ok (.iconst 0, 1) := by decide +kernel
theorem dX3_init_6 : decode cX3_init 6 = .ok (.putfield 9, 3) := by decide +kernel
theorem dX3_init_9 : decode cX3_init 9 = .ok (.aload_n 0, 1) := by decide +kernel
theorem dX3_init_10 : decode cX3_init 10 = .ok (.iconst 0, 1) := by decide +kernel
theorem dX3_init_11 : decode cX3_init 11 = .ok (.putfield 15, 3) := by decide +kernel
theorem dX3_init_14 : decode cX3_init 14 = .ok (.aload_n 0, 1) := by decide +kernel
theorem dX3_init_15 : decode cX3_init 15 = .ok (.aload_n 1, 1) := by decide +kernel
theorem dX3_init_16 : decode cX3_init 16 = .ok (.putfield 18, 3) := by decide +kernel
theorem dX3_init_19 : decode cX3_init 19 = .ok (.return_, 1) := by decide +kernel
theorem dX3_storeBehind_0 : decode cX3_storeBehind 0 = .ok (.aload_n 0, 1) := by decide +kernel
theorem dX3_storeBehind_1 : decode cX3_storeBehind 1 = .ok (.iload_n 2, 1) := by decide +kernel
theorem dX3_storeBehind_2 : decode cX3_storeBehind 2 = .ok (.putfield 9, 3) := by decide +kernel
theorem dX3_storeBehind_5 : decode cX3_storeBehind 5 = .ok (.aload_n 0, 1) := by decide +kernel
theorem dX3_storeBehind_6 : decode cX3_storeBehind 6 = .ok (.iload_n 3, 1) := by decide +kernel
theorem dX3_storeBehind_7 : decode cX3_storeBehind 7 = .ok (.putfield 15, 3) := by decide +kernel
theorem dX3_storeBehind_10 : decode cX3_storeBehind 10 = .ok (.aload_n 0, 1) := by decide +kernel
theorem dX3_storeBehind_11 : decode cX3_storeBehind 11 = .ok (.iload_n 1, 1) := by decide +kernel
theorem dX3_storeBehind_12 : decode cX3_storeBehind 12 = .ok (.invokevirtual 22, 3) := by decide +kernel
theorem dX3_storeBehind_15 : decode cX3_storeBehind 15 = .ok (.ifCond .eq 10, 3) := by decide +kernel
theorem dX3_storeBehind_18 : decode cX3_storeBehind 18 = .ok (.aload_n 0, 1) := by decide +kernel
theorem dX3_storeBehind_19 : decode cX3_storeBehind 19 = .ok (.getfield 9, 3) := by decide +kernel
theorem dX3_storeBehind_22 : decode cX3_storeBehind 22 = .ok (.goto 4, 3) := by decide +kernel
theorem dX3_storeBehind_25 : decode cX3_storeBehind 25 = .ok (.iconst (-1), 1) := by decide +kernel
theorem dX3_storeBehind_26 : decode cX3_storeBehind 26 = .ok (.ireturn, 1) := by decide +kernel
theorem dX3_ends_0 : decode cX3_ends 0 = .ok (.aload_n 0, 1) := by decide +kernel
theorem dX3_ends_1 : decode cX3_ends 1 = .ok (.getfield 15, 3) := by decide +kernel
theorem dX3_ends_4 : decode cX3_ends 4 = .ok (.ifCond .ne 5, 3) := by decide +kernel
theorem dX3_ends_7 : decode cX3_ends 7 = .ok (.iconst 0, 1) := by decide +kernel
theorem dX3_ends_8 : decode cX3_ends 8 = .ok (.ireturn, 1) := by decide +kernel
theorem dX3_ends_9 : decode cX3_ends 9 = .ok (.aload_n 0, 1) := by decide +kernel
theorem dX3_ends_10 : decode cX3_ends 10 = .ok (.dup, 1) := by decide +kernel
theorem dX3_ends_11 : decode cX3_ends 11 = .ok (.getfield 15, 3) := by decide +kernel
theorem dX3_ends_14 : decode cX3_ends 14 = .ok (.iconst 1, 1) := by decide +kernel
theorem dX3_ends_15 : decode cX3_ends 15 = .ok (.isub, 1) := by decide +kernel
theorem dX3_ends_16 : decode cX3_ends 16 = .ok (.putfield 15, 3) := by decide +kernel
theorem dX3_ends_19 : decode cX3_ends 19 = .ok (.aload_n 0, 1) := by decide +kernel
theorem dX3_ends_20 : decode cX3_ends 20 = .ok (.getfield 18, 3) := by decide +kernel
theorem dX3_ends_23 : decode cX3_ends 23 = .ok (.getfield 26, 3) := by decide +kernel
theorem dX3_ends_26 : decode cX3_ends 26 = .ok (.iload_n 1, 1) := by decide +kernel
theorem dX3_ends_27 : decode cX3_ends 27 = .ok (.iaload, 1) := by decide +kernel
theorem dX3_ends_28 : decode cX3_ends 28 = .ok (.istore_n 2, 1) := by decide +kernel
theorem dX3_ends_29 : decode cX3_ends 29 = .ok (.aload_n 0, 1) := by decide +kernel
theorem dX3_ends_30 : decode cX3_ends 30 = .ok (.getfield 18, 3) := by decide +kernel
theorem dX3_ends_33 : decode cX3_ends 33 = .ok (.getfield 32, 3) := by decide +kernel
theorem dX3_ends_36 : decode cX3_ends 36 = .ok (.iload_n 1, 1) := by decide +kernel
theorem dX3_ends_37 : decode cX3_ends 37 = .ok (.iaload, 1) := by decide +kernel
theorem dX3_ends_38 : decode cX3_ends 38 = .ok (.istore_n 3, 1) := by decide +kernel
theorem dX3_ends_39 : decode cX3_ends 39 = .ok (.aload_n 0, 1) := by decide +kernel
theorem dX3_ends_40 : decode cX3_ends 40 = .ok (.getfield 18, 3) := by decide +kernel
theorem dX3_ends_43 : decode cX3_ends 43 = .ok (.getfield 35, 3) := by decide +kernel
theorem dX3_ends_46 : decode cX3_ends 46 = .ok (.iload_n 1, 1) := by decide +kernel
theorem dX3_ends_47 : decode cX3_ends 47 = .ok (.iaload, 1) := by decide +kernel
theorem dX3_ends_48 : decode cX3_ends 48 = .ok (.tableswitch 115 11 14 #[32, 34, 60, 82], 32) := by decide +kernel
theorem dX3_ends_80 : decode cX3_ends 80 = .ok (.iconst 1, 1) := by decide +kernel
theorem dX3_ends_81 : decode cX3_ends 81 = .ok (.ireturn, 1) := by decide +kernel
theorem dX3_ends_82 : decode cX3_ends 82 = .ok (.aload_n 0, 1) := by decide +kernel
theorem dX3_ends_83 : decode cX3_ends 83 = .ok (.aload_n 0, 1) := by decide +kernel
theorem dX3_ends_84 : decode cX3_ends 84 = .ok (.getfield 9, 3) := by decide +kernel
theorem dX3_ends_87 : decode cX3_ends 87 = .ok (.iload_n 2, 1) := by decide +kernel
theorem dX3_ends_88 : decode cX3_ends 88 = .ok (.aload_n 0, 1) := by decide +kernel
theorem dX3_ends_89 : decode cX3_ends 89 = .ok (.getfield 18, 3) := by decide +kernel
theorem dX3_ends_92 : decode cX3_ends 92 = .ok (.iload_n 3, 1) := by decide +kernel
theorem dX3_ends_93 : decode cX3_ends 93 = .ok (.aload_n 0, 1) := by decide +kernel
theorem dX3_ends_94 : decode cX3_ends 94 = .ok (.getfield 9, 3) := by decide +kernel
theorem dX3_ends_97 : decode cX3_ends 97 = .ok (.invokevirtual 38, 3) := by decide +kernel
theorem dX3_ends_100 : decode cX3_ends 100 = .ok (.invokestatic 42, 3) := by decide +kernel
theorem dX3_ends_103 : decode cX3_ends 103 = .ok (.putfield 9, 3) := by decide +kernel
theorem dX3_ends_106 : decode cX3_ends 106 = .ok (.iconst 1, 1) := by decide +kernel
theorem dX3_ends_107 : decode cX3_ends 107 = .ok (.ireturn, 1) := by decide +kernel
theorem dX3_ends_108 : decode cX3_ends 108 = .ok (.aload_n 0, 1) := by decide +kernel
theorem dX3_ends_109 : decode cX3_ends 109 = .ok (.iload_n 2, 1) := by decide +kernel
theorem dX3_ends_110 : decode cX3_ends 110 = .ok (.invokevirtual 22, 3) := by decide +kernel
theorem dX3_ends_113 : decode cX3_ends 113 = .ok (.ifCond .eq 15, 3) := by decide +kernel
theorem dX3_ends_116 : decode cX3_ends 116 = .ok (.aload_n 0, 1) := by decide +kernel
theorem dX3_ends_117 : decode cX3_ends 117 = .ok (.iload_n 3, 1) := by decide +kernel
theorem dX3_ends_118 : decode cX3_ends 118 = .ok (.invokevirtual 22, 3) := by decide +kernel
theorem dX3_ends_121 : decode cX3_ends 121 = .ok (.ifCond .eq 7, 3) := by decide +kernel
theorem dX3_ends_124 : decode cX3_ends 124 = .ok (.iconst 1, 1) := by decide +kernel
theorem dX3_ends_125 : decode cX3_ends 125 = .ok (.goto 4, 3) := by decide +kernel
theorem dX3_ends_128 : decode cX3_ends 128 = .ok (.iconst 0, 1) := by decide +kernel
theorem dX3_ends_129 : decode cX3_ends 129 = .ok (.ireturn, 1) := by decide +kernel
theorem dX3_ends_130 : decode cX3_ends 130 = .ok (.aload_n 0, 1) := by decide +kernel
theorem dX3_ends_131 : decode cX3_ends 131 = .ok (.aload_n 0, 1) := by decide +kernel
theorem dX3_ends_132 : decode cX3_ends 132 = .ok (.getfield 18, 3) := by decide +kernel
end
section
theorem dX3_ends_135 : decode cX3_ends 135 = .ok (.iload_n 2, 1) := by decide +kernel
theorem dX3_ends_136 : decode cX3_ends 136 = .ok (.aload_n 0, 1) := by decide +kernel
theorem dX3_ends_137 : decode cX3_ends 137 = .ok (.getfield 9, 3) := by decide +kernel
theorem dX3_ends_140 : decode cX3_ends 140 = .ok (.invokevirtual 46, 3) := by decide +kernel
theorem dX3_ends_143 : decode cX3_ends 143 = .ok (.ifCond .eq 7, 3) := by decide +kernel
theorem dX3_ends_146 : decode cX3_ends 146 = .ok (.iload_n 3, 1) := by decide +kernel
theorem dX3_ends_147 : decode cX3_ends 147 = .ok (.goto 12, 3) := by decide +kernel
theorem dX3_ends_150 : decode cX3_ends 150 = .ok (.aload_n 0, 1) := by decide +kernel
theorem dX3_ends_151 : decode cX3_ends 151 = .ok (.getfield 18, 3) := by decide +kernel
theorem dX3_ends_154 : decode cX3_ends 154 = .ok (.getfield 50, 3) := by decide +kernel
theorem dX3_ends_157 : decode cX3_ends 157 = .ok (.iload_n 1, 1) := by decide +kernel
theorem dX3_ends_158 : decode cX3_ends 158 = .ok (.iaload, 1) := by decide +kernel
theorem dX3_ends_159 : decode cX3_ends 159 = .ok (.invokevirtual 22, 3) := by decide +kernel
theorem dX3_ends_162 : decode cX3_ends 162 = .ok (.ireturn, 1) := by decide +kernel
theorem dX3_ends_163 : decode cX3_ends 163 = .ok (.aload_n 0, 1) := by decide +kernel
theorem dX3_ends_164 : decode cX3_ends 164 = .ok (.iload_n 2, 1) := by decide +kernel
theorem dX3_ends_165 : decode cX3_ends 165 = .ok (.aload_n 0, 1) := by decide +kernel
theorem dX3_ends_166 : decode cX3_ends 166 = .ok (.getfield 18, 3) := by decide +kernel
theorem dX3_ends_169 : decode cX3_ends 169 = .ok (.getfield 50, 3) := by decide +kernel
theorem dX3_ends_172 : decode cX3_ends 172 = .ok (.iload_n 1, 1) := by decide +kernel
theorem dX3_ends_173 : decode cX3_ends 173 = .ok (.iaload, 1) := by decide +kernel
theorem dX3_ends_174 : decode cX3_ends 174 = .ok (.invokevirtual 53, 3) := by decide +kernel
theorem dX3_ends_177 : decode cX3_ends 177 = .ok (.ireturn, 1) := by decide +kernel
theorem dX3_loopEnds_0 : decode cX3_loopEnds 0 = .ok (.iconst 0, 1) := by decide +kernel
theorem dX3_loopEnds_1 : decode cX3_loopEnds 1 = .ok (.istore_n 3, 1) := by decide +kernel
theorem dX3_loopEnds_2 : decode cX3_loopEnds 2 = .ok (.iload_n 3, 1) := by decide +kernel
theorem dX3_loopEnds_3 : decode cX3_loopEnds 3 = .ok (.sipush 500, 3) := by decide +kernel
theorem dX3_loopEnds_6 : decode cX3_loopEnds 6 = .ok (.if_icmp .gt 36, 3) := by decide +kernel
theorem dX3_loopEnds_9 : decode cX3_loopEnds 9 = .ok (.aload_n 0, 1) := by decide +kernel
theorem dX3_loopEnds_10 : decode cX3_loopEnds 10 = .ok (.getfield 18, 3) := by decide +kernel
theorem dX3_loopEnds_13 : decode cX3_loopEnds 13 = .ok (.iload_n 1, 1) := by decide +kernel
theorem dX3_loopEnds_14 : decode cX3_loopEnds 14 = .ok (.aload_n 0, 1) := by decide +kernel
theorem dX3_loopEnds_15 : decode cX3_loopEnds 15 = .ok (.getfield 9, 3) := by decide +kernel
theorem dX3_loopEnds_18 : decode cX3_loopEnds 18 = .ok (.invokevirtual 46, 3) := by decide +kernel
theorem dX3_loopEnds_21 : decode cX3_loopEnds 21 = .ok (.ifCond .ne 5, 3) := by decide +kernel
theorem dX3_loopEnds_24 : decode cX3_loopEnds 24 = .ok (.iconst 1, 1) := by decide +kernel
theorem dX3_loopEnds_25 : decode cX3_loopEnds 25 = .ok (.ireturn, 1) := by decide +kernel
theorem dX3_loopEnds_26 : decode cX3_loopEnds 26 = .ok (.aload_n 0, 1) := by decide +kernel
theorem dX3_loopEnds_27 : decode cX3_loopEnds 27 = .ok (.iload_n 2, 1) := by decide +kernel
theorem dX3_loopEnds_28 : decode cX3_loopEnds 28 = .ok (.invokevirtual 22, 3) := by decide +kernel
theorem dX3_loopEnds_31 : decode cX3_loopEnds 31 = .ok (.ifCond .ne 5, 3) := by decide +kernel
theorem dX3_loopEnds_34 : decode cX3_loopEnds 34 = .ok (.iconst 0, 1) := by decide +kernel
theorem dX3_loopEnds_35 : decode cX3_loopEnds 35 = .ok (.ireturn, 1) := by decide +kernel
theorem dX3_loopEnds_36 : decode cX3_loopEnds 36 = .ok (.iinc 3 1, 3) := by decide +kernel
theorem dX3_loopEnds_39 : decode cX3_loopEnds 39 = .ok (.goto (-37), 3) := by decide +kernel
theorem dX3_loopEnds_42 : decode cX3_loopEnds 42 = .ok (.iconst 0, 1) := by decide +kernel
theorem dX3_loopEnds_43 : decode cX3_loopEnds 43 = .ok (.ireturn, 1) := by decide +kernel
theorem dX4_init_0 : decode cX4_init 0 = .ok (.aload_n 0, 1) := by decide +kernel
theorem dX4_init_1 : decode cX4_init 1 = .ok (.invokespecial 1, 3) := by decide +kernel
theorem dX4_init_4 : decode cX4_init 4 = .ok (.aload_n 0, 1) := by decide +kernel
theorem dX4_init_5 : decode cX4_init 5 = .ok (.new 7, 3) := by decide +kernel
theorem dX4_init_8 : decode cX4_init 8 = .ok (.dup, 1) := by decide +kernel
theorem dX4_init_9 : decode cX4_init 9 = .ok (.invokespecial 9, 3) := by decide +kernel
theorem dX4_init_12 : decode cX4_init 12 = .ok (.putfield 10, 3) := by decide +kernel
theorem dX4_init_15 : decode cX4_init 15 = .ok (.aload_n 0, 1) := by decide +kernel
theorem dX4_init_16 : decode cX4_init 16 = .ok (.new 16, 3) := by decide +kernel
theorem dX4_init_19 : decode cX4_init 19 = .ok (.dup, 1) := by decide +kernel
theorem dX4_init_20 : decode cX4_init 20 = .ok (.aload_n 0, 1) := by decide +kernel
theorem dX4_init_21 : decode cX4_init 21 = .ok (.getfield 10, 3) := by decide +kernel
theorem dX4_init_24 : decode cX4_init 24 = .ok (.invokespecial 18, 3) := by decide +kernel
theorem dX4_init_27 : decode cX4_init 27 = .ok (.putfield 21, 3) := by decide +kernel
theorem dX4_init_30 : decode cX4_init 30 = .ok (.aload_n 0, 1) := by decide +kernel
theorem dX4_init_31 : decode cX4_init 31 = .ok (.new 25, 3) := by decide +kernel
theorem dX4_init_34 : decode cX4_init 34 = .ok (.dup, 1) := by decide +kernel
theorem dX4_init_35 : decode cX4_init 35 = .ok (.aload_n 0, 1) := by decide +kernel
theorem dX4_init_36 : decode cX4_init 36 = .ok (.getfield 10, 3) := by decide +kernel
theorem dX4_init_39 : decode cX4_init 39 = .ok (.invokespecial 27, 3) := by decide +kernel
theorem dX4_init_42 : decode cX4_init 42 = .ok (.putfield 28, 3) := by decide +kernel
theorem dX4_init_45 : decode cX4_init 45 = .ok (.return_, 1) := by decide +kernel
theorem dX4_make_0 : decode cX4_make 0 = .ok (.iload_n 1, 1) := by decide +kernel
theorem dX4_make_1 : decode cX4_make 1 = .ok (.ifCond .lt 24, 3) := by decide +kernel
theorem dX4_make_4 : decode cX4_make 4 = .ok (.iload_n 1, 1) := by decide +kernel
theorem dX4_make_5 : decode cX4_make 5 = .ok (.bipush 15, 2) := by decide +kernel
theorem dX4_make_7 : decode cX4_make 7 = .ok (.if_icmp .gt 18, 3) := by decide +kernel
theorem dX4_make_10 : decode cX4_make 10 = .ok (.aload_n 0, 1) := by decide +kernel
theorem dX4_make_11 : decode cX4_make 11 = .ok (.getfield 10, 3) := by decide +kernel
theorem dX4_make_14 : decode cX4_make 14 = .ok (.iload_n 1, 1) := by decide +kernel
theorem dX4_make_15 : decode cX4_make 15 = .ok (.iload_n 2, 1) := by decide +kernel
theorem dX4_make_16 : decode cX4_make 16 = .ok (.iload_n 3, 1) := by decide +kernel
theorem dX4_make_17 : decode cX4_make 17 = .ok (.iload 4, 2) := by decide +kernel
theorem dX4_make_19 : decode cX4_make 19 = .ok (.invokevirtual 32, 3) := by decide +kernel
theorem dX4_make_22 : decode cX4_make 22 = .ok (.ifCond .ne 11, 3) := by decide +kernel
theorem dX4_make_25 : decode cX4_make 25 = .ok (.new 36, 3) := by decide +kernel
theorem dX4_make_28 : decode cX4_make 28 = .ok (.dup, 1) := by decide +kernel
theorem dX4_make_29 : decode cX4_make 29 = .ok (.invokespecial 38, 3) := by decide +kernel
theorem dX4_make_32 : decode cX4_make 32 = .ok (.athrow, 1) := by decide +kernel
theorem dX4_make_33 : decode cX4_make 33 = .ok (.aload_n 0, 1) := by decide +kernel
theorem dX4_make_34 : decode cX4_make 34 = .ok (.getfield 10, 3) := by decide +kernel
theorem dX4_make_37 : decode cX4_make 37 = .ok (.iload_n 1, 1) := by decide +kernel
theorem dX4_make_38 : decode cX4_make 38 = .ok (.iload_n 2, 1) := by decide +kernel
theorem dX4_make_39 : decode cX4_make 39 = .ok (.iload_n 3, 1) := by decide +kernel
theorem dX4_make_40 : decode cX4_make 40 = .ok (.iload 4, 2) := by decide +kernel
theorem dX4_make_42 : decode cX4_make 42 = .ok (.invokevirtual 39, 3) := by decide +kernel
theorem dX4_make_45 : decode cX4_make 45 = .ok (.istore 5, 2) := by decide +kernel
theorem dX4_make_47 : decode cX4_make 47 = .ok (.aload_n 0, 1) := by decide +kernel
theorem dX4_make_48 : decode cX4_make 48 = .ok (.getfield 10, 3) := by decide +kernel
theorem dX4_make_51 : decode cX4_make 51 = .ok (.getfield 43, 3) := by decide +kernel
theorem dX4_make_54 : decode cX4_make 54 = .ok (.bipush 60, 2) := by decide +kernel
theorem dX4_make_56 : decode cX4_make 56 = .ok (.if_icmp .ge 10, 3) := by decide +kernel
theorem dX4_make_59 : decode cX4_make 59 = .ok (.iload 5, 2) := by decide +kernel
theorem dX4_make_61 : decode cX4_make 61 = .ok (.bipush 6, 2) := by decide +kernel
theorem dX4_make_63 : decode cX4_make 63 = .ok (.if_icmp .le 11, 3) := by decide +kernel
theorem dX4_make_66 : decode cX4_make 66 = .ok (.new 47, 3) := by decide +kernel
theorem dX4_make_69 : decode cX4_make 69 = .ok (.dup, 1) := by decide +kernel
theorem dX4_make_70 : decode cX4_make 70 = .ok (.invokespecial 49, 3) := by decide +kernel
theorem dX4_make_73 : decode cX4_make 73 = .ok (.athrow, 1) := by decide +kernel
theorem dX4_make_74 : decode cX4_make 74 = .ok (.aload_n 0, 1) := by decide +kernel
theorem dX4_make_75 : decode cX4_make 75 = .ok (.getfield 10, 3) := by decide +kernel
theorem dX4_make_78 : decode cX4_make 78 = .ok (.iload_n 1, 1) := by decide +kernel
theorem dX4_make_79 : decode cX4_make 79 = .ok (.iload_n 2, 1) := by decide +kernel
theorem dX4_make_80 : decode cX4_make 80 = .ok (.iload_n 3, 1) := by decide +kernel
theorem dX4_make_81 : decode cX4_make 81 = .ok (.iload 4, 2) := by decide +kernel
theorem dX4_make_83 : decode cX4_make 83 = .ok (.iload 5, 2) := by decide +kernel
theorem dX4_make_85 : decode cX4_make 85 = .ok (.invokevirtual 50, 3) := by decide +kernel
theorem dX4_make_88 : decode cX4_make 88 = .ok (.ireturn, 1) := by decide +kernel
theorem dX4_value_0 : decode cX4_value 0 = .ok (.aload_n 0, 1) := by decide +kernel
theorem dX4_value_1 : decode cX4_value 1 = .ok (.getfield 10, 3) := by decide +kernel
theorem dX4_value_4 : decode cX4_value 4 = .ok (.iload_n 1, 1) := by decide +kernel
theorem dX4_value_5 : decode cX4_value 5 = .ok (.iconst 5, 1) := by decide +kernel
theorem dX4_value_6 : decode cX4_value 6 = .ok (.invokevirtual 54, 3) := by decide +kernel
theorem dX4_value_9 : decode cX4_value 9 = .ok (.ifCond .eq 10, 3) := by decide +kernel
theorem dX4_value_12 : decode cX4_value 12 = .ok (.iload_n 2, 1) := by decide +kernel
theorem dX4_value_13 : decode cX4_value 13 = .ok (.invokestatic 58, 3) := by decide +kernel
theorem dX4_value_16 : decode cX4_value 16 = .ok (.ifCond .ne 11, 3) := by decide +kernel
theorem dX4_value_19 : decode cX4_value 19 = .ok (.new 36, 3) := by decide +kernel
theorem dX4_value_22 : decode cX4_value 22 = .ok (.dup, 1) := by decide +kernel
theorem dX4_value_23 : decode cX4_value 23 = .ok (.invokespecial 38, 3) := by decide +kernel
theorem dX4_value_26 : decode cX4_value 26 = .ok (.athrow, 1) := by decide +kernel
theorem dX4_value_27 : decode cX4_value 27 = .ok (.aload_n 0, 1) := by decide +kernel
theorem dX4_value_28 : decode cX4_value 28 = .ok (.getfield 10, 3) := by decide +kernel
theorem dX4_value_31 : decode cX4_value 31 = .ok (.iload_n 1, 1) := by decide +kernel
theorem dX4_value_32 : decode cX4_value 32 = .ok (.iload_n 2, 1) := by decide +kernel
theorem dX4_value_33 : decode cX4_value 33 = .ok (.invokevirtual 62, 3) := by decide +kernel
theorem dX4_value_36 : decode cX4_value 36 = .ok (.ireturn, 1) := by decide +kernel
theorem dX4_holds_0 : decode cX4_holds 0 = .ok (.aload_n 0, 1) := by decide +kernel
theorem dX4_holds_1 : decode cX4_holds 1 = .ok (.getfield 10, 3) := by decide +kernel
theorem dX4_holds_4 : decode cX4_holds 4 = .ok (.iload_n 1, 1) := by decide +kernel
theorem dX4_holds_5 : decode cX4_holds 5 = .ok (.bipush 6, 2) := by decide +kernel
theorem dX4_holds_7 : decode cX4_holds 7 = .ok (.invokevirtual 54, 3) := by decide +kernel
theorem dX4_holds_10 : decode cX4_holds 10 = .ok (.ifCond .eq 10, 3) := by decide +kernel
theorem dX4_holds_13 : decode cX4_holds 13 = .ok (.iload_n 2, 1) := by decide +kernel
theorem dX4_holds_14 : decode cX4_holds 14 = .ok (.invokestatic 58, 3) := by decide +kernel
theorem dX4_holds_17 : decode cX4_holds 17 = .ok (.ifCond .ne 11, 3) := by decide +kernel
theorem dX4_holds_20 : decode cX4_holds 20 = .ok (.new 36, 3) := by decide +kernel
theorem dX4_holds_23 : decode cX4_holds 23 = .ok (.dup, 1) := by decide +kernel
theorem dX4_holds_24 : decode cX4_holds 24 = .ok (.invokespecial 38, 3) := by decide +kernel
theorem dX4_holds_27 : decode cX4_holds 27 = .ok (.athrow, 1) := by decide +kernel
theorem dX4_holds_28 : decode cX4_holds 28 = .ok (.aload_n 0, 1) := by decide +kernel
theorem dX4_holds_29 : decode cX4_holds 29 = .ok (.getfield 10, 3) := by decide +kernel
theorem dX4_holds_32 : decode cX4_holds 32 = .ok (.iload_n 1, 1) := by decide +kernel
theorem dX4_holds_33 : decode cX4_holds 33 = .ok (.iload_n 2, 1) := by decide +kernel
theorem dX4_holds_34 : decode cX4_holds 34 = .ok (.invokevirtual 66, 3) := by decide +kernel
theorem dX4_holds_37 : decode cX4_holds 37 = .ok (.ireturn, 1) := by decide +kernel
theorem dX4_run_0 : decode cX4_run 0 = .ok (.aload_n 0, 1) := by decide +kernel
theorem dX4_run_1 : decode cX4_run 1 = .ok (.getfield 10, 3) := by decide +kernel
theorem dX4_run_4 : decode cX4_run 4 = .ok (.iload_n 1, 1) := by decide +kernel
theorem dX4_run_5 : decode cX4_run 5 = .ok (.bipush 7, 2) := by decide +kernel
theorem dX4_run_7 : decode cX4_run 7 = .ok (.invokevirtual 54, 3) := by decide +kernel
theorem dX4_run_10 : decode cX4_run 10 = .ok (.ifCond .eq 22, 3) := by decide +kernel
theorem dX4_run_13 : decode cX4_run 13 = .ok (.iload_n 2, 1) := by decide +kernel
theorem dX4_run_14 : decode cX4_run 14 = .ok (.invokestatic 58, 3) := by decide +kernel
theorem dX4_run_17 : decode cX4_run 17 = .ok (.ifCond .eq 15, 3) := by decide +kernel
theorem dX4_run_20 : decode cX4_run 20 = .ok (.iload_n 3, 1) := by decide +kernel
theorem dX4_run_21 : decode cX4_run 21 = .ok (.iconst 1, 1) := by decide +kernel
theorem dX4_run_22 : decode cX4_run 22 = .ok (.if_icmp .lt 10, 3) := by decide +kernel
theorem dX4_run_25 : decode cX4_run 25 = .ok (.iload_n 3, 1) := by decide +kernel
theorem dX4_run_26 : decode cX4_run 26 = .ok (.sipush 500, 3) := by decide +kernel
theorem dX4_run_29 : decode cX4_run 29 = .ok (.if_icmp .le 11, 3) := by decide +kernel
theorem dX4_run_32 : decode cX4_run 32 = .ok (.new 36, 3) := by decide +kernel
theorem dX4_run_35 : decode cX4_run 35 = .ok (.dup, 1) := by decide +kernel
theorem dX4_run_36 : decode cX4_run 36 = .ok (.invokespecial 38, 3) := by decide +kernel
theorem dX4_run_39 : decode cX4_run 39 = .ok (.athrow, 1) := by decide +kernel
theorem dX4_run_40 : decode cX4_run 40 = .ok (.aload_n 0, 1) := by decide +kernel
theorem dX4_run_41 : decode cX4_run 41 = .ok (.getfield 21, 3) := by decide +kernel
theorem dX4_run_44 : decode cX4_run 44 = .ok (.iload_n 1, 1) := by decide +kernel
theorem dX4_run_45 : decode cX4_run 45 = .ok (.iload_n 2, 1) := by decide +kernel
theorem dX4_run_46 : decode cX4_run 46 = .ok (.iload_n 3, 1) := by decide +kernel
theorem dX4_run_47 : decode cX4_run 47 = .ok (.invokevirtual 69, 3) := by decide +kernel
theorem dX4_run_50 : decode cX4_run 50 = .ok (.istore 4, 2) := by decide +kernel
theorem dX4_run_52 : decode cX4_run 52 = .ok (.iload 4, 2) := by decide +kernel
theorem dX4_run_54 : decode cX4_run 54 = .ok (.iconst (-1), 1) := by decide +kernel
theorem dX4_run_55 : decode cX4_run 55 = .ok (.if_icmp .ne 11, 3) := by decide +kernel
theorem dX4_run_58 : decode cX4_run 58 = .ok (.new 47, 3) := by decide +kernel
theorem dX4_run_61 : decode cX4_run 61 = .ok (.dup, 1) := by decide +kernel
theorem dX4_run_62 : decode cX4_run 62 = .ok (.invokespecial 49, 3) := by decide +kernel
theorem dX4_run_65 : decode cX4_run 65 = .ok (.athrow, 1) := by decide +kernel
theorem dX4_run_66 : decode cX4_run 66 = .ok (.iload 4, 2) := by decide +kernel
theorem dX4_run_68 : decode cX4_run 68 = .ok (.ireturn, 1) := by decide +kernel
theorem dX4_promise_0 : decode cX4_promise 0 = .ok (.aload_n 0, 1) := by decide +kernel
theorem dX4_promise_1 : decode cX4_promise 1 = .ok (.getfield 10, 3) := by decide +kernel
theorem dX4_promise_4 : decode cX4_promise 4 = .ok (.iload_n 1, 1) := by decide +kernel
theorem dX4_promise_5 : decode cX4_promise 5 = .ok (.bipush 6, 2) := by decide +kernel
theorem dX4_promise_7 : decode cX4_promise 7 = .ok (.invokevirtual 54, 3) := by decide +kernel
theorem dX4_promise_10 : decode cX4_promise 10 = .ok (.ifCond .eq 29, 3) := by decide +kernel
theorem dX4_promise_13 : decode cX4_promise 13 = .ok (.aload_n 0, 1) := by decide +kernel
theorem dX4_promise_14 : decode cX4_promise 14 = .ok (.getfield 10, 3) := by decide +kernel
theorem dX4_promise_17 : decode cX4_promise 17 = .ok (.iload_n 2, 1) := by decide +kernel
theorem dX4_promise_18 : decode cX4_promise 18 = .ok (.bipush 7, 2) := by decide +kernel
theorem dX4_promise_20 : decode cX4_promise 20 = .ok (.invokevirtual 54, 3) := by decide +kernel
theorem dX4_promise_23 : decode cX4_promise 23 = .ok (.ifCond .eq 16, 3) := by decide +kernel
theorem dX4_promise_26 : decode cX4_promise 26 = .ok (.aload_n 0, 1) := by decide +kernel
theorem dX4_promise_27 : decode cX4_promise 27 = .ok (.getfield 10, 3) := by decide +kernel
theorem dX4_promise_30 : decode cX4_promise 30 = .ok (.iload_n 3, 1) := by decide +kernel
theorem dX4_promise_31 : decode cX4_promise 31 = .ok (.bipush 6, 2) := by decide +kernel
theorem dX4_promise_33 : decode cX4_promise 33 = .ok (.invokevirtual 54, 3) := by decide +kernel
theorem dX4_promise_36 : decode cX4_promise 36 = .ok (.ifCond .ne 11, 3) := by decide +kernel
theorem dX4_promise_39 : decode cX4_promise 39 = .ok (.new 36, 3) := by decide +kernel
theorem dX4_promise_42 : decode cX4_promise 42 = .ok (.dup, 1) := by decide +kernel
theorem dX4_promise_43 : decode cX4_promise 43 = .ok (.invokespecial 38, 3) := by decide +kernel
theorem dX4_promise_46 : decode cX4_promise 46 = .ok (.athrow, 1) := by decide +kernel
theorem dX4_promise_47 : decode cX4_promise 47 = .ok (.iconst 1, 1) := by decide +kernel
theorem dX4_promise_48 : decode cX4_promise 48 = .ok (.aload_n 0, 1) := by decide +kernel
theorem dX4_promise_49 : decode cX4_promise 49 = .ok (.getfield 28, 3) := by decide +kernel
theorem dX4_promise_52 : decode cX4_promise 52 = .ok (.iload_n 2, 1) := by decide +kernel
theorem dX4_promise_53 : decode cX4_promise 53 = .ok (.invokevirtual 73, 3) := by decide +kernel
theorem dX4_promise_56 : decode cX4_promise 56 = .ok (.iadd, 1) := by decide +kernel
theorem dX4_promise_57 : decode cX4_promise 57 = .ok (.bipush 16, 2) := by decide +kernel
theorem dX4_promise_59 : decode cX4_promise 59 = .ok (.if_icmp .le 11, 3) := by decide +kernel
theorem dX4_promise_62 : decode cX4_promise 62 = .ok (.new 47, 3) := by decide +kernel
theorem dX4_promise_65 : decode cX4_promise 65 = .ok (.dup, 1) := by decide +kernel
theorem dX4_promise_66 : decode cX4_promise 66 = .ok (.invokespecial 49, 3) := by decide +kernel
theorem dX4_promise_69 : decode cX4_promise 69 = .ok (.athrow, 1) := by decide +kernel
theorem dX4_promise_70 : decode cX4_promise 70 = .ok (.aload_n 0, 1) := by decide +kernel
theorem dX4_promise_71 : decode cX4_promise 71 = .ok (.getfield 28, 3) := by decide +kernel
theorem dX4_promise_74 : decode cX4_promise 74 = .ok (.iload_n 1, 1) := by decide +kernel
theorem dX4_promise_75 : decode cX4_promise 75 = .ok (.iload_n 2, 1) := by decide +kernel
theorem dX4_promise_76 : decode cX4_promise 76 = .ok (.iload_n 3, 1) := by decide +kernel
theorem dX4_promise_77 : decode cX4_promise 77 = .ok (.invokevirtual 77, 3) := by decide +kernel
theorem dX4_promise_80 : decode cX4_promise 80 = .ok (.aload_n 0, 1) := by decide +kernel
theorem dX4_promise_81 : decode cX4_promise 81 = .ok (.getfield 28, 3) := by decide +kernel
theorem dX4_promise_84 : decode cX4_promise 84 = .ok (.getfield 81, 3) := by decide +kernel
theorem dX4_promise_87 : decode cX4_promise 87 = .ok (.ireturn, 1) := by decide +kernel
theorem dX4_kept_0 : decode cX4_kept 0 = .ok (.iload_n 2, 1) := by decide +kernel
theorem dX4_kept_1 : decode cX4_kept 1 = .ok (.invokestatic 58, 3) := by decide +kernel
theorem dX4_kept_4 : decode cX4_kept 4 = .ok (.ifCond .ne 11, 3) := by decide +kernel
theorem dX4_kept_7 : decode cX4_kept 7 = .ok (.new 36, 3) := by decide +kernel
theorem dX4_kept_10 : decode cX4_kept 10 = .ok (.dup, 1) := by decide +kernel
theorem dX4_kept_11 : decode cX4_kept 11 = .ok (.invokespecial 38, 3) := by decide +kernel
theorem dX4_kept_14 : decode cX4_kept 14 = .ok (.athrow, 1) := by decide +kernel
theorem dX4_kept_15 : decode cX4_kept 15 = .ok (.aload_n 0, 1) := by decide +kernel
theorem dX4_kept_16 : decode cX4_kept 16 = .ok (.getfield 28, 3) := by decide +kernel
theorem dX4_kept_19 : decode cX4_kept 19 = .ok (.iload_n 1, 1) := by decide +kernel
theorem dX4_kept_20 : decode cX4_kept 20 = .ok (.invokevirtual 82, 3) := by decide +kernel
theorem dX4_kept_23 : decode cX4_kept 23 = .ok (.ifCond .ne 11, 3) := by decide +kernel
theorem dX4_kept_26 : decode cX4_kept 26 = .ok (.new 47, 3) := by decide +kernel
theorem dX4_kept_29 : decode cX4_kept 29 = .ok (.dup, 1) := by decide +kernel
theorem dX4_kept_30 : decode cX4_kept 30 = .ok (.invokespecial 49, 3) := by decide +kernel
theorem dX4_kept_33 : decode cX4_kept 33 = .ok (.athrow, 1) := by decide +kernel
theorem dX4_kept_34 : decode cX4_kept 34 = .ok (.aload_n 0, 1) := by decide +kernel
theorem dX4_kept_35 : decode cX4_kept 35 = .ok (.getfield 28, 3) := by decide +kernel
theorem dX4_kept_38 : decode cX4_kept 38 = .ok (.iload_n 1, 1) := by decide +kernel
theorem dX4_kept_39 : decode cX4_kept 39 = .ok (.iload_n 2, 1) := by decide +kernel
theorem dX4_kept_40 : decode cX4_kept 40 = .ok (.invokevirtual 84, 3) := by decide +kernel
theorem dX4_kept_43 : decode cX4_kept 43 = .ok (.ireturn, 1) := by decide +kernel
theorem dX4_decide_0 : decode cX4_decide 0 = .ok (.aload_n 0, 1) := by decide +kernel
theorem dX4_decide_1 : decode cX4_decide 1 = .ok (.getfield 28, 3) := by decide +kernel
theorem dX4_decide_4 : decode cX4_decide 4 = .ok (.iload_n 1, 1) := by decide +kernel
theorem dX4_decide_5 : decode cX4_decide 5 = .ok (.invokevirtual 82, 3) := by decide +kernel
theorem dX4_decide_8 : decode cX4_decide 8 = .ok (.ifCond .ne 11, 3) := by decide +kernel
theorem dX4_decide_11 : decode cX4_decide 11 = .ok (.new 47, 3) := by decide +kernel
theorem dX4_decide_14 : decode cX4_decide 14 = .ok (.dup, 1) := by decide +kernel
theorem dX4_decide_15 : decode cX4_decide 15 = .ok (.invokespecial 49, 3) := by decide +kernel
theorem dX4_decide_18 : decode cX4_decide 18 = .ok (.athrow, 1) := by decide +kernel
theorem dX4_decide_19 : decode cX4_decide 19 = .ok (.aload_n 0, 1) := by decide +kernel
theorem dX4_decide_20 : decode cX4_decide 20 = .ok (.getfield 28, 3) := by decide +kernel
theorem dX4_decide_23 : decode cX4_decide 23 = .ok (.iload_n 1, 1) := by decide +kernel
theorem dX4_decide_24 : decode cX4_decide 24 = .ok (.invokevirtual 87, 3) := by decide +kernel
theorem dX4_decide_27 : decode cX4_decide 27 = .ok (.ireturn, 1) := by decide +kernel
theorem dX4_broken_0 : decode cX4_broken 0 = .ok (.iload_n 2, 1) := by decide +kernel
theorem dX4_broken_1 : decode cX4_broken 1 = .ok (.ifCond .lt 15, 3) := by decide +kernel
theorem dX4_broken_4 : decode cX4_broken 4 = .ok (.iload_n 2, 1) := by decide +kernel
theorem dX4_broken_5 : decode cX4_broken 5 = .ok (.iload_n 3, 1) := by decide +kernel
theorem dX4_broken_6 : decode cX4_broken 6 = .ok (.if_icmp .gt 10, 3) := by decide +kernel
theorem dX4_broken_9 : decode cX4_broken 9 = .ok (.iload_n 3, 1) := by decide +kernel
theorem dX4_broken_10 : decode cX4_broken 10 = .ok (.sipush 4095, 3) := by decide +kernel
theorem dX4_broken_13 : decode cX4_broken 13 = .ok (.if_icmp .le 11, 3) := by decide +kernel
theorem dX4_broken_16 : decode cX4_broken 16 = .ok (.new 36, 3) := by decide +kernel
theorem dX4_broken_19 : decode cX4_broken 19 = .ok (.dup, 1) := by decide +kernel
theorem dX4_broken_20 : decode cX4_broken 20 = .ok (.invokespecial 38, 3) := by decide +kernel
theorem dX4_broken_23 : decode cX4_broken 23 = .ok (.athrow, 1) := by decide +kernel
theorem dX4_broken_24 : decode cX4_broken 24 = .ok (.aload_n 0, 1) := by decide +kernel
theorem dX4_broken_25 : decode cX4_broken 25 = .ok (.getfield 28, 3) := by decide +kernel
theorem dX4_broken_28 : decode cX4_broken 28 = .ok (.iload_n 1, 1) := by decide +kernel
theorem dX4_broken_29 : decode cX4_broken 29 = .ok (.invokevirtual 82, 3) := by decide +kernel
theorem dX4_broken_32 : decode cX4_broken 32 = .ok (.ifCond .ne 11, 3) := by decide +kernel
theorem dX4_broken_35 : decode cX4_broken 35 = .ok (.new 47, 3) := by decide +kernel
theorem dX4_broken_38 : decode cX4_broken 38 = .ok (.dup, 1) := by decide +kernel
theorem dX4_broken_39 : decode cX4_broken 39 = .ok (.invokespecial 49, 3) := by decide +kernel
theorem dX4_broken_42 : decode cX4_broken 42 = .ok (.athrow, 1) := by decide +kernel
theorem dX4_broken_43 : decode cX4_broken 43 = .ok (.aload_n 0, 1) := by decide +kernel
theorem dX4_broken_44 : decode cX4_broken 44 = .ok (.getfield 28, 3) := by decide +kernel
theorem dX4_broken_47 : decode cX4_broken 47 = .ok (.iload_n 1, 1) := by decide +kernel
theorem dX4_broken_48 : decode cX4_broken 48 = .ok (.iload_n 2, 1) := by decide +kernel
theorem dX4_broken_49 : decode cX4_broken 49 = .ok (.iload_n 3, 1) := by decide +kernel
theorem dX4_broken_50 : decode cX4_broken 50 = .ok (.invokevirtual 90, 3) := by decide +kernel
theorem dX4_broken_53 : decode cX4_broken 53 = .ok (.ireturn, 1) := by decide +kernel
theorem dX4_part_0 : decode cX4_part 0 = .ok (.aload_n 0, 1) := by decide +kernel
theorem dX4_part_1 : decode cX4_part 1 = .ok (.getfield 28, 3) := by decide +kernel
theorem dX4_part_4 : decode cX4_part 4 = .ok (.getfield 81, 3) := by decide +kernel
theorem dX4_part_7 : decode cX4_part 7 = .ok (.ifCond .ne 11, 3) := by decide +kernel
theorem dX4_part_10 : decode cX4_part 10 = .ok (.new 47, 3) := by decide +kernel
theorem dX4_part_13 : decode cX4_part 13 = .ok (.dup, 1) := by decide +kernel
theorem dX4_part_14 : decode cX4_part 14 = .ok (.invokespecial 49, 3) := by decide +kernel
theorem dX4_part_17 : decode cX4_part 17 = .ok (.athrow, 1) := by decide +kernel
theorem dX4_part_18 : decode cX4_part 18 = .ok (.aload_n 0, 1) := by decide +kernel
theorem dX4_part_19 : decode cX4_part 19 = .ok (.getfield 28, 3) := by decide +kernel
theorem dX4_part_22 : decode cX4_part 22 = .ok (.getfield 81, 3) := by decide +kernel
theorem dX4_part_25 : decode cX4_part 25 = .ok (.sipush 4096, 3) := by decide +kernel
theorem dX4_part_28 : decode cX4_part 28 = .ok (.imul, 1) := by decide +kernel
theorem dX4_part_29 : decode cX4_part 29 = .ok (.istore_n 1, 1) := by decide +kernel
theorem dX4_part_30 : decode cX4_part 30 = .ok (.iload_n 1, 1) := by decide +kernel
theorem dX4_part_31 : decode cX4_part 31 = .ok (.aload_n 0, 1) := by decide +kernel
theorem dX4_part_32 : decode cX4_part 32 = .ok (.getfield 28, 3) := by decide +kernel
theorem dX4_part_35 : decode cX4_part 35 = .ok (.invokevirtual 93, 3) := by decide +kernel
theorem dX4_part_38 : decode cX4_part 38 = .ok (.isub, 1) := by decide +kernel
theorem dX4_part_39 : decode cX4_part 39 = .ok (.i2d, 1) := by decide +kernel
theorem dX4_part_40 : decode cX4_part 40 = .ok (.iload_n 1, 1) := by decide +kernel
theorem dX4_part_41 : decode cX4_part 41 = .ok (.i2d, 1) := by decide +kernel
theorem dX4_part_42 : decode cX4_part 42 = .ok (.ddiv, 1) := by decide +kernel
theorem dX4_part_43 : decode cX4_part 43 = .ok (.dreturn, 1) := by decide +kernel
theorem dX4_count_0 : decode cX4_count 0 = .ok (.iload_n 1, 1) := by decide +kernel
theorem dX4_count_1 : decode cX4_count 1 = .ok (.tableswitch 51 0 2 #[27, 35, 43], 27) := by decide +kernel
theorem dX4_count_28 : decode cX4_count 28 = .ok (.aload_n 0, 1) := by decide +kernel
theorem dX4_count_29 : decode cX4_count 29 = .ok (.getfield 10, 3) := by decide +kernel
theorem dX4_count_32 : decode cX4_count 32 = .ok (.getfield 43, 3) := by decide +kernel
theorem dX4_count_35 : decode cX4_count 35 = .ok (.ireturn, 1) := by decide +kernel
theorem dX4_count_36 : decode cX4_count 36 = .ok (.aload_n 0, 1) := by decide +kernel
theorem dX4_count_37 : decode cX4_count 37 = .ok (.getfield 28, 3) := by decide +kernel
theorem dX4_count_40 : decode cX4_count 40 = .ok (.getfield 81, 3) := by decide +kernel
theorem dX4_count_43 : decode cX4_count 43 = .ok (.ireturn, 1) := by decide +kernel
theorem dX4_count_44 : decode cX4_count 44 = .ok (.aload_n 0, 1) := by decide +kernel
theorem dX4_count_45 : decode cX4_count 45 = .ok (.getfield 28, 3) := by decide +kernel
theorem dX4_count_48 : decode cX4_count 48 = .ok (.invokevirtual 97, 3) := by decide +kernel
theorem dX4_count_51 : decode cX4_count 51 = .ok (.ireturn, 1) := by decide +kernel
theorem dX4_count_52 : decode cX4_count 52 = .ok (.new 36, 3) := by decide +kernel
theorem dX4_count_55 : decode cX4_count 55 = .ok (.dup, 1) := by decide +kernel
theorem dX4_count_56 : decode cX4_count 56 = .ok (.invokespecial 38, 3) := by decide +kernel
theorem dX4_count_59 : decode cX4_count 59 = .ok (.athrow, 1) := by decide +kernel
theorem dX4_isStore_0 : decode cX4_isStore 0 = .ok (.iload_n 0, 1) := by decide +kernel
theorem dX4_isStore_1 : decode cX4_isStore 1 = .ok (.ifCond .lt 14, 3) := by decide +kernel
theorem dX4_isStore_4 : decode cX4_isStore 4 = .ok (.iload_n 0, 1) := by decide +kernel
theorem dX4_isStore_5 : decode cX4_isStore 5 = .ok (.sipush 4095, 3) := by decide +kernel
theorem dX4_isStore_8 : decode cX4_isStore 8 = .ok (.if_icmp .gt 7, 3) := by decide +kernel
theorem dX4_isStore_11 : decode cX4_isStore 11 = .ok (.iconst 1, 1) := by decide +kernel
theorem dX4_isStore_12 : decode cX4_isStore 12 = .ok (.goto 4, 3) := by decide +kernel
theorem dX4_isStore_15 : decode cX4_isStore 15 = .ok (.iconst 0, 1) := by decide +kernel
theorem dX4_isStore_16 : decode cX4_isStore 16 = .ok (.ireturn, 1) := by decide +kernel
theorem dX4_changedStore_0 : decode cX4_changedStore 0 = .ok (.iconst 4, 1) := by decide +kernel
theorem dX4_changedStore_1 : decode cX4_changedStore 1 = .ok (.iload_n 1, 1) := by decide +kernel
theorem dX4_changedStore_2 : decode cX4_changedStore 2 = .ok (.imul, 1) := by decide +kernel
theorem dX4_changedStore_3 : decode cX4_changedStore 3 = .ok (.istore_n 3, 1) := by decide +kernel
theorem dX4_changedStore_4 : decode cX4_changedStore 4 = .ok (.iload_n 0, 1) := by decide +kernel
theorem dX4_changedStore_5 : decode cX4_changedStore 5 = .ok (.bipush 15, 2) := by decide +kernel
theorem dX4_changedStore_7 : decode cX4_changedStore 7 = .ok (.iload_n 3, 1) := by decide +kernel
theorem dX4_changedStore_8 : decode cX4_changedStore 8 = .ok (.ishl, 1) := by decide +kernel
theorem dX4_changedStore_9 : decode cX4_changedStore 9 = .ok (.iconst (-1), 1) := by decide +kernel
theorem dX4_changedStore_10 : decode cX4_changedStore 10 = .ok (.ixor, 1) := by decide +kernel
theorem dX4_changedStore_11 : decode cX4_changedStore 11 = .ok (.iand, 1) := by decide +kernel
theorem dX4_changedStore_12 : decode cX4_changedStore 12 = .ok (.iload_n 2, 1) := by decide +kernel
theorem dX4_changedStore_13 : decode cX4_changedStore 13 = .ok (.bipush 15, 2) := by decide +kernel
theorem dX4_changedStore_15 : decode cX4_changedStore 15 = .ok (.iand, 1) := by decide +kernel
theorem dX4_changedStore_16 : decode cX4_changedStore 16 = .ok (.iload_n 3, 1) := by decide +kernel
theorem dX4_changedStore_17 : decode cX4_changedStore 17 = .ok (.ishl, 1) := by decide +kernel
theorem dX4_changedStore_18 : decode cX4_changedStore 18 = .ok (.ior, 1) := by decide +kernel
theorem dX4_changedStore_19 : decode cX4_changedStore 19 = .ok (.ireturn, 1) := by decide +kernel
theorem dX5_init_0 : decode cX5_init 0 = .ok (.aload_n 0, 1) := by decide +kernel
theorem dX5_init_1 : decode cX5_init 1 = .ok (.invokespecial 1, 3) := by decide +kernel
theorem dX5_init_4 : decode cX5_init 4 = .ok (.aload_n 0, 1) := by decide +kernel
theorem dX5_init_5 : decode cX5_init 5 = .ok (.bipush 60, 2) := by decide +kernel
theorem dX5_init_7 : decode cX5_init 7 = .ok (.newarray .int, 2) := by decide +kernel
theorem dX5_init_9 : decode cX5_init 9 = .ok (.putfield 7, 3) := by decide +kernel
theorem dX5_init_12 : decode cX5_init 12 = .ok (.aload_n 0, 1) := by decide +kernel
theorem dX5_init_13 : decode cX5_init 13 = .ok (.bipush 60, 2) := by decide +kernel
theorem dX5_init_15 : decode cX5_init 15 = .ok (.newarray .int, 2) := by decide +kernel
theorem dX5_init_17 : decode cX5_init 17 = .ok (.putfield 13, 3) := by decide +kernel
theorem dX5_init_20 : decode cX5_init 20 = .ok (.aload_n 0, 1) := by decide +kernel
theorem dX5_init_21 : decode cX5_init 21 = .ok (.bipush 60, 2) := by decide +kernel
theorem dX5_init_23 : decode cX5_init 23 = .ok (.newarray .int, 2) := by decide +kernel
theorem dX5_init_25 : decode cX5_init 25 = .ok (.putfield 16, 3) := by decide +kernel
theorem dX5_init_28 : decode cX5_init 28 = .ok (.aload_n 0, 1) := by decide +kernel
theorem dX5_init_29 : decode cX5_init 29 = .ok (.bipush 60, 2) := by decide +kernel
theorem dX5_init_31 : decode cX5_init 31 = .ok (.newarray .int, 2) := by decide +kernel
theorem dX5_init_33 : decode cX5_init 33 = .ok (.putfield 19, 3) := by decide +kernel
theorem dX5_init_36 : decode cX5_init 36 = .ok (.aload_n 0, 1) := by decide +kernel
theorem dX5_init_37 : decode cX5_init 37 = .ok (.bipush 60, 2) := by decide +kernel
theorem dX5_init_39 : decode cX5_init 39 = .ok (.newarray .int, 2) := by decide +kernel
theorem dX5_init_41 : decode cX5_init 41 = .ok (.putfield 22, 3) := by decide +kernel
theorem dX5_init_44 : decode cX5_init 44 = .ok (.aload_n 0, 1) := by decide +kernel
theorem dX5_init_45 : decode cX5_init 45 = .ok (.bipush 60, 2) := by decide +kernel
theorem dX5_init_47 : decode cX5_init 47 = .ok (.newarray .long, 2) := by decide +kernel
theorem dX5_init_49 : decode cX5_init 49 = .ok (.putfield 25, 3) := by decide +kernel
theorem dX5_init_52 : decode cX5_init 52 = .ok (.aload_n 0, 1) := by decide +kernel
theorem dX5_init_53 : decode cX5_init 53 = .ok (.bipush 60, 2) := by decide +kernel
theorem dX5_init_55 : decode cX5_init 55 = .ok (.newarray .int, 2) := by decide +kernel
theorem dX5_init_57 : decode cX5_init 57 = .ok (.putfield 29, 3) := by decide +kernel
theorem dX5_init_60 : decode cX5_init 60 = .ok (.aload_n 0, 1) := by decide +kernel
theorem dX5_init_61 : decode cX5_init 61 = .ok (.sipush 400, 3) := by decide +kernel
theorem dX5_init_64 : decode cX5_init 64 = .ok (.newarray .int, 2) := by decide +kernel
theorem dX5_init_66 : decode cX5_init 66 = .ok (.putfield 32, 3) := by decide +kernel
theorem dX5_init_69 : decode cX5_init 69 = .ok (.aload_n 0, 1) := by decide +kernel
theorem dX5_init_70 : decode cX5_init 70 = .ok (.sipush 400, 3) := by decide +kernel
theorem dX5_init_73 : decode cX5_init 73 = .ok (.newarray .int, 2) := by decide +kernel
theorem dX5_init_75 : decode cX5_init 75 = .ok (.putfield 35, 3) := by decide +kernel
theorem dX5_init_78 : decode cX5_init 78 = .ok (.aload_n 0, 1) := by decide +kernel
theorem dX5_init_79 : decode cX5_init 79 = .ok (.bipush 20, 2) := by decide +kernel
theorem dX5_init_81 : decode cX5_init 81 = .ok (.newarray .int, 2) := by decide +kernel
theorem dX5_init_83 : decode cX5_init 83 = .ok (.putfield 38, 3) := by decide +kernel
theorem dX5_init_86 : decode cX5_init 86 = .ok (.aload_n 0, 1) := by decide +kernel
theorem dX5_init_87 : decode cX5_init 87 = .ok (.bipush 20, 2) := by decide +kernel
theorem dX5_init_89 : decode cX5_init 89 = .ok (.newarray .int, 2) := by decide +kernel
theorem dX5_init_91 : decode cX5_init 91 = .ok (.putfield 41, 3) := by decide +kernel
theorem dX5_init_94 : decode cX5_init 94 = .ok (.aload_n 0, 1) := by decide +kernel
theorem dX5_init_95 : decode cX5_init 95 = .ok (.bipush 20, 2) := by decide +kernel
theorem dX5_init_97 : decode cX5_init 97 = .ok (.newarray .int, 2) := by decide +kernel
theorem dX5_init_99 : decode cX5_init 99 = .ok (.putfield 44, 3) := by decide +kernel
theorem dX5_init_102 : decode cX5_init 102 = .ok (.aload_n 0, 1) := by decide +kernel
theorem dX5_init_103 : decode cX5_init 103 = .ok (.bipush 20, 2) := by decide +kernel
theorem dX5_init_105 : decode cX5_init 105 = .ok (.newarray .int, 2) := by decide +kernel
theorem dX5_init_107 : decode cX5_init 107 = .ok (.putfield 47, 3) := by decide +kernel
theorem dX5_init_110 : decode cX5_init 110 = .ok (.aload_n 0, 1) := by decide +kernel
theorem dX5_init_111 : decode cX5_init 111 = .ok (.bipush 20, 2) := by decide +kernel
theorem dX5_init_113 : decode cX5_init 113 = .ok (.newarray .int, 2) := by decide +kernel
theorem dX5_init_115 : decode cX5_init 115 = .ok (.putfield 50, 3) := by decide +kernel
theorem dX5_init_118 : decode cX5_init 118 = .ok (.aload_n 0, 1) := by decide +kernel
theorem dX5_init_119 : decode cX5_init 119 = .ok (.bipush 20, 2) := by decide +kernel
theorem dX5_init_121 : decode cX5_init 121 = .ok (.newarray .int, 2) := by decide +kernel
theorem dX5_init_123 : decode cX5_init 123 = .ok (.putfield 53, 3) := by decide +kernel
theorem dX5_init_126 : decode cX5_init 126 = .ok (.aload_n 0, 1) := by decide +kernel
theorem dX5_init_127 : decode cX5_init 127 = .ok (.sipush 400, 3) := by decide +kernel
theorem dX5_init_130 : decode cX5_init 130 = .ok (.newarray .int, 2) := by decide +kernel
theorem dX5_init_132 : decode cX5_init 132 = .ok (.putfield 56, 3) := by decide +kernel
theorem dX5_init_135 : decode cX5_init 135 = .ok (.aload_n 0, 1) := by decide +kernel
theorem dX5_init_136 : decode cX5_init 136 = .ok (.sipush 400, 3) := by decide +kernel
theorem dX5_init_139 : decode cX5_init 139 = .ok (.newarray .int, 2) := by decide +kernel
theorem dX5_init_141 : decode cX5_init 141 = .ok (.putfield 59, 3) := by decide +kernel
theorem dX5_init_144 : decode cX5_init 144 = .ok (.aload_n 0, 1) := by decide +kernel
theorem dX5_init_145 : decode cX5_init 145 = .ok (.bipush 100, 2) := by decide +kernel
theorem dX5_init_147 : decode cX5_init 147 = .ok (.newarray .int, 2) := by decide +kernel
theorem dX5_init_149 : decode cX5_init 149 = .ok (.putfield 62, 3) := by decide +kernel
theorem dX5_init_152 : decode cX5_init 152 = .ok (.aload_n 0, 1) := by decide +kernel
theorem dX5_init_153 : decode cX5_init 153 = .ok (.bipush 100, 2) := by decide +kernel
theorem dX5_init_155 : decode cX5_init 155 = .ok (.newarray .int, 2) := by decide +kernel
theorem dX5_init_157 : decode cX5_init 157 = .ok (.putfield 65, 3) := by decide +kernel
theorem dX5_init_160 : decode cX5_init 160 = .ok (.aload_n 0, 1) := by decide +kernel
theorem dX5_init_161 : decode cX5_init 161 = .ok (.bipush 16, 2) := by decide +kernel
theorem dX5_init_163 : decode cX5_init 163 = .ok (.newarray .boolean, 2) := by decide +kernel
theorem dX5_init_165 : decode cX5_init 165 = .ok (.putfield 68, 3) := by decide +kernel
theorem dX5_init_168 : decode cX5_init 168 = .ok (.aload_n 0, 1) := by decide +kernel
theorem dX5_init_169 : decode cX5_init 169 = .ok (.sipush 2048, 3) := by decide +kernel
theorem dX5_init_172 : decode cX5_init 172 = .ok (.newarray .int, 2) := by decide +kernel
theorem dX5_init_174 : decode cX5_init 174 = .ok (.putfield 72, 3) := by decide +kernel
theorem dX5_init_177 : decode cX5_init 177 = .ok (.aload_n 0, 1) := by decide +kernel
theorem dX5_init_178 : decode cX5_init 178 = .ok (.bipush 64, 2) := by decide +kernel
theorem dX5_init_180 : decode cX5_init 180 = .ok (.newarray .int, 2) := by decide +kernel
theorem dX5_init_182 : decode cX5_init 182 = .ok (.putfield 75, 3) := by decide +kernel
theorem dX5_init_185 : decode cX5_init 185 = .ok (.return_, 1) := by decide +kernel
theorem dX5_thrown_0 : decode cX5_thrown 0 = .ok (.aload_n 0, 1) := by decide +kernel
theorem dX5_thrown_1 : decode cX5_thrown 1 = .ok (.getfield 78, 3) := by decide +kernel
theorem dX5_thrown_4 : decode cX5_thrown 4 = .ok (.ireturn, 1) := by decide +kernel
theorem dX5_refuse_0 : decode cX5_refuse 0 = .ok (.aload_n 0, 1) := by decide +kernel
theorem dX5_refuse_1 : decode cX5_refuse 1 = .ok (.iload_n 1, 1) := by decide +kernel
theorem dX5_refuse_2 : decode cX5_refuse 2 = .ok (.putfield 78, 3) := by decide +kernel
theorem dX5_refuse_5 : decode cX5_refuse 5 = .ok (.iconst 0, 1) := by decide +kernel
theorem dX5_refuse_6 : decode cX5_refuse 6 = .ok (.ireturn, 1) := by decide +kernel
theorem dX5_in_0 : decode cX5_in 0 = .ok (.iload_n 0, 1) := by decide +kernel
theorem dX5_in_1 : decode cX5_in 1 = .ok (.iload_n 1, 1) := by decide +kernel
theorem dX5_in_2 : decode cX5_in 2 = .ok (.if_icmp .lt 12, 3) := by decide +kernel
theorem dX5_in_5 : decode cX5_in 5 = .ok (.iload_n 0, 1) := by decide +kernel
theorem dX5_in_6 : decode cX5_in 6 = .ok (.iload_n 2, 1) := by decide +kernel
theorem dX5_in_7 : decode cX5_in 7 = .ok (.if_icmp .gt 7, 3) := by decide +kernel
theorem dX5_in_10 : decode cX5_in 10 = .ok (.iconst 1, 1) := by decide +kernel
theorem dX5_in_11 : decode cX5_in 11 = .ok (.goto 4, 3) := by decide +kernel
theorem dX5_in_14 : decode cX5_in 14 = .ok (.iconst 0, 1) := by decide +kernel
theorem dX5_in_15 : decode cX5_in 15 = .ok (.ireturn, 1) := by decide +kernel
theorem dX5_isKind_0 : decode cX5_isKind 0 = .ok (.iload_n 1, 1) := by decide +kernel
theorem dX5_isKind_1 : decode cX5_isKind 1 = .ok (.iconst 0, 1) := by decide +kernel
theorem dX5_isKind_2 : decode cX5_isKind 2 = .ok (.aload_n 0, 1) := by decide +kernel
theorem dX5_isKind_3 : decode cX5_isKind 3 = .ok (.getfield 82, 3) := by decide +kernel
theorem dX5_isKind_6 : decode cX5_isKind 6 = .ok (.iconst 1, 1) := by decide +kernel
theorem dX5_isKind_7 : decode cX5_isKind 7 = .ok (.isub, 1) := by decide +kernel
theorem dX5_isKind_8 : decode cX5_isKind 8 = .ok (.invokestatic 85, 3) := by decide +kernel
theorem dX5_isKind_11 : decode cX5_isKind 11 = .ok (.ifCond .eq 39, 3) := by decide +kernel
theorem dX5_isKind_14 : decode cX5_isKind 14 = .ok (.aload_n 0, 1) := by decide +kernel
theorem dX5_isKind_15 : decode cX5_isKind 15 = .ok (.getfield 7, 3) := by decide +kernel
theorem dX5_isKind_18 : decode cX5_isKind 18 = .ok (.iload_n 1, 1) := by decide +kernel
theorem dX5_isKind_19 : decode cX5_isKind 19 = .ok (.iconst 0, 1) := by decide +kernel
theorem dX5_isKind_20 : decode cX5_isKind 20 = .ok (.aload_n 0, 1) := by decide +kernel
theorem dX5_isKind_21 : decode cX5_isKind 21 = .ok (.getfield 82, 3) := by decide +kernel
theorem dX5_isKind_24 : decode cX5_isKind 24 = .ok (.iconst 1, 1) := by decide +kernel
theorem dX5_isKind_25 : decode cX5_isKind 25 = .ok (.isub, 1) := by decide +kernel
theorem dX5_isKind_26 : decode cX5_isKind 26 = .ok (.invokestatic 85, 3) := by decide +kernel
theorem dX5_isKind_29 : decode cX5_isKind 29 = .ok (.ifCond .eq 7, 3) := by decide +kernel
theorem dX5_isKind_32 : decode cX5_isKind 32 = .ok (.iload_n 1, 1) := by decide +kernel
theorem dX5_isKind_33 : decode cX5_isKind 33 = .ok (.goto 4, 3) := by decide +kernel
theorem dX5_isKind_36 : decode cX5_isKind 36 = .ok (.iconst 0, 1) := by decide +kernel
theorem dX5_isKind_37 : decode cX5_isKind 37 = .ok (.iaload, 1) := by decide +kernel
theorem dX5_isKind_38 : decode cX5_isKind 38 = .ok (.iload_n 2, 1) := by decide +kernel
theorem dX5_isKind_39 : decode cX5_isKind 39 = .ok (.iload_n 3, 1) := by decide +kernel
theorem dX5_isKind_40 : decode cX5_isKind 40 = .ok (.invokestatic 85, 3) := by decide +kernel
theorem dX5_isKind_43 : decode cX5_isKind 43 = .ok (.ifCond .eq 7, 3) := by decide +kernel
theorem dX5_isKind_46 : decode cX5_isKind 46 = .ok (.iconst 1, 1) := by decide +kernel
theorem dX5_isKind_47 : decode cX5_isKind 47 = .ok (.goto 4, 3) := by decide +kernel
theorem dX5_isKind_50 : decode cX5_isKind 50 = .ok (.iconst 0, 1) := by decide +kernel
theorem dX5_isKind_51 : decode cX5_isKind 51 = .ok (.ireturn, 1) := by decide +kernel
theorem dX5_isExpression_0 : decode cX5_isExpression 0 = .ok (.aload_n 0, 1) := by decide +kernel
theorem dX5_isExpression_1 : decode cX5_isExpression 1 = .ok (.iload_n 1, 1) := by decide +kernel
theorem dX5_isExpression_2 : decode cX5_isExpression 2 = .ok (.iconst 0, 1) := by decide +kernel
theorem dX5_isExpression_3 : decode cX5_isExpression 3 = .ok (.iconst 4, 1) := by decide +kernel
theorem dX5_isExpression_4 : decode cX5_isExpression 4 = .ok (.invokevirtual 89, 3) := by decide +kernel
theorem dX5_isExpression_7 : decode cX5_isExpression 7 = .ok (.ireturn, 1) := by decide +kernel
theorem dX5_isCondition_0 : decode cX5_isCondition 0 = .ok (.aload_n 0, 1) := by decide +kernel
theorem dX5_isCondition_1 : decode cX5_isCondition 1 = .ok (.iload_n 1, 1) := by decide +kernel
theorem dX5_isCondition_2 : decode cX5_isCondition 2 = .ok (.iconst 5, 1) := by decide +kernel
theorem dX5_isCondition_3 : decode cX5_isCondition 3 = .ok (.bipush 10, 2) := by decide +kernel
theorem dX5_isCondition_5 : decode cX5_isCondition 5 = .ok (.invokevirtual 89, 3) := by decide +kernel
theorem dX5_isCondition_8 : decode cX5_isCondition 8 = .ok (.ireturn, 1) := by decide +kernel
theorem dX5_isCommand_0 : decode cX5_isCommand 0 = .ok (.aload_n 0, 1) := by decide +kernel
theorem dX5_isCommand_1 : decode cX5_isCommand 1 = .ok (.iload_n 1, 1) := by decide +kernel
theorem dX5_isCommand_2 : decode cX5_isCommand 2 = .ok (.bipush 11, 2) := by decide +kernel
theorem dX5_isCommand_4 : decode cX5_isCommand 4 = .ok (.bipush 15, 2) := by decide +kernel
theorem dX5_isCommand_6 : decode cX5_isCommand 6 = .ok (.invokevirtual 89, 3) := by decide +kernel
theorem dX5_isCommand_9 : decode cX5_isCommand 9 = .ok (.ireturn, 1) := by decide +kernel
theorem dX5_fitting_0 : decode cX5_fitting 0 = .ok (.iload_n 1, 1) := by decide +kernel
theorem dX5_fitting_1 : decode cX5_fitting 1 = .ok (.tableswitch 303 0 15 #[79, 88, 95, 95, 117, 95, 95, 142, 166, 172, 172, 194, 196, 219, 241, 272], 79) := by decide +kernel
theorem dX5_fitting_80 : decode cX5_fitting 80 = .ok (.iload_n 2, 1) := by decide +kernel
theorem dX5_fitting_81 : decode cX5_fitting 81 = .ok (.bipush (-100), 2) := by decide +kernel
theorem dX5_fitting_83 : decode cX5_fitting 83 = .ok (.bipush 100, 2) := by decide +kernel
theorem dX5_fitting_85 : decode cX5_fitting 85 = .ok (.invokestatic 85, 3) := by decide +kernel
theorem dX5_fitting_88 : decode cX5_fitting 88 = .ok (.ireturn, 1) := by decide +kernel
theorem dX5_fitting_89 : decode cX5_fitting 89 = .ok (.iload_n 2, 1) := by decide +kernel
theorem dX5_fitting_90 : decode cX5_fitting 90 = .ok (.iconst 0, 1) := by decide +kernel
theorem dX5_fitting_91 : decode cX5_fitting 91 = .ok (.iconst 2, 1) := by decide +kernel
theorem dX5_fitting_92 : decode cX5_fitting 92 = .ok (.invokestatic 85, 3) := by decide +kernel
theorem dX5_fitting_95 : decode cX5_fitting 95 = .ok (.ireturn, 1) := by decide +kernel
theorem dX5_fitting_96 : decode cX5_fitting 96 = .ok (.aload_n 0, 1) := by decide +kernel
theorem dX5_fitting_97 : decode cX5_fitting 97 = .ok (.iload_n 2, 1) := by decide +kernel
theorem dX5_fitting_98 : decode cX5_fitting 98 = .ok (.invokevirtual 92, 3) := by decide +kernel
theorem dX5_fitting_101 : decode cX5_fitting 101 = .ok (.ifCond .eq 15, 3) := by decide +kernel
theorem dX5_fitting_104 : decode cX5_fitting 104 = .ok (.aload_n 0, 1) := by decide +kernel
theorem dX5_fitting_105 : decode cX5_fitting 105 = .ok (.iload_n 3, 1) := by decide +kernel
theorem dX5_fitting_106 : decode cX5_fitting 106 = .ok (.invokevirtual 92, 3) := by decide +kernel
theorem dX5_fitting_109 : decode cX5_fitting 109 = .ok (.ifCond .eq 7, 3) := by decide +kernel
theorem dX5_fitting_112 : decode cX5_fitting 112 = .ok (.iconst 1, 1) := by decide +kernel
theorem dX5_fitting_113 : decode cX5_fitting 113 = .ok (.goto 4, 3) := by decide +kernel
theorem dX5_fitting_116 : decode cX5_fitting 116 = .ok (.iconst 0, 1) := by decide +kernel
theorem dX5_fitting_117 : decode cX5_fitting 117 = .ok (.ireturn, 1) := by decide +kernel
theorem dX5_fitting_118 : decode cX5_fitting 118 = .ok (.iload_n 2, 1) := by decide +kernel
theorem dX5_fitting_119 : decode cX5_fitting 119 = .ok (.bipush (-16), 2) := by decide +kernel
theorem dX5_fitting_121 : decode cX5_fitting 121 = .ok (.bipush 16, 2) := by decide +kernel
theorem dX5_fitting_123 : decode cX5_fitting 123 = .ok (.invokestatic 85, 3) := by decide +kernel
theorem dX5_fitting_126 : decode cX5_fitting 126 = .ok (.ifCond .eq 15, 3) := by decide +kernel
theorem dX5_fitting_129 : decode cX5_fitting 129 = .ok (.aload_n 0, 1) := by decide +kernel
theorem dX5_fitting_130 : decode cX5_fitting 130 = .ok (.iload_n 3, 1) := by decide +kernel
theorem dX5_fitting_131 : decode cX5_fitting 131 = .ok (.invokevirtual 92, 3) := by decide +kernel
theorem dX5_fitting_134 : decode cX5_fitting 134 = .ok (.ifCond .eq 7, 3) := by decide +kernel
theorem dX5_fitting_137 : decode cX5_fitting 137 = .ok (.iconst 1, 1) := by decide +kernel
theorem dX5_fitting_138 : decode cX5_fitting 138 = .ok (.goto 4, 3) := by decide +kernel
theorem dX5_fitting_141 : decode cX5_fitting 141 = .ok (.iconst 0, 1) := by decide +kernel
theorem dX5_fitting_142 : decode cX5_fitting 142 = .ok (.ireturn, 1) := by decide +kernel
theorem dX5_fitting_143 : decode cX5_fitting 143 = .ok (.iload_n 2, 1) := by decide +kernel
theorem dX5_fitting_144 : decode cX5_fitting 144 = .ok (.iconst 1, 1) := by decide +kernel
theorem dX5_fitting_145 : decode cX5_fitting 145 = .ok (.bipush 16, 2) := by decide +kernel
theorem dX5_fitting_147 : decode cX5_fitting 147 = .ok (.invokestatic 85, 3) := by decide +kernel
theorem dX5_fitting_150 : decode cX5_fitting 150 = .ok (.ifCond .eq 15, 3) := by decide +kernel
theorem dX5_fitting_153 : decode cX5_fitting 153 = .ok (.aload_n 0, 1) := by decide +kernel
theorem dX5_fitting_154 : decode cX5_fitting 154 = .ok (.iload_n 3, 1) := by decide +kernel
theorem dX5_fitting_155 : decode cX5_fitting 155 = .ok (.invokevirtual 92, 3) := by decide +kernel
theorem dX5_fitting_158 : decode cX5_fitting 158 = .ok (.ifCond .eq 7, 3) := by decide +kernel
theorem dX5_fitting_161 : decode cX5_fitting 161 = .ok (.iconst 1, 1) := by decide +kernel
theorem dX5_fitting_162 : decode cX5_fitting 162 = .ok (.goto 4, 3) := by decide +kernel
theorem dX5_fitting_165 : decode cX5_fitting 165 = .ok (.iconst 0, 1) := by decide +kernel
theorem dX5_fitting_166 : decode cX5_fitting 166 = .ok (.ireturn, 1) := by decide +kernel
theorem dX5_fitting_167 : decode cX5_fitting 167 = .ok (.aload_n 0, 1) := by decide +kernel
theorem dX5_fitting_168 : decode cX5_fitting 168 = .ok (.iload_n 2, 1) := by decide +kernel
theorem dX5_fitting_169 : decode cX5_fitting 169 = .ok (.invokevirtual 96, 3) := by decide +kernel
theorem dX5_fitting_172 : decode cX5_fitting 172 = .ok (.ireturn, 1) := by decide +kernel
theorem dX5_fitting_173 : decode cX5_fitting 173 = .ok (.aload_n 0, 1) := by decide +kernel
theorem dX5_fitting_174 : decode cX5_fitting 174 = .ok (.iload_n 2, 1) := by decide +kernel
theorem dX5_fitting_175 : decode cX5_fitting 175 = .ok (.invokevirtual 96, 3) := by decide +kernel
theorem dX5_fitting_178 : decode cX5_fitting 178 = .ok (.ifCond .eq 15, 3) := by decide +kernel
theorem dX5_fitting_181 : decode cX5_fitting 181 = .ok (.aload_n 0, 1) := by decide +kernel
theorem dX5_fitting_182 : decode cX5_fitting 182 = .ok (.iload_n 3, 1) := by decide +kernel
theorem dX5_fitting_183 : decode cX5_fitting 183 = .ok (.invokevirtual 96, 3) := by decide +kernel
theorem dX5_fitting_186 : decode cX5_fitting 186 = .ok (.ifCond .eq 7, 3) := by decide +kernel
theorem dX5_fitting_189 : decode cX5_fitting 189 = .ok (.iconst 1, 1) := by decide +kernel
theorem dX5_fitting_190 : decode cX5_fitting 190 = .ok (.goto 4, 3) := by decide +kernel
theorem dX5_fitting_193 : decode cX5_fitting 193 = .ok (.iconst 0, 1) := by decide +kernel
theorem dX5_fitting_194 : decode cX5_fitting 194 = .ok (.ireturn, 1) := by decide +kernel
theorem dX5_fitting_195 : decode cX5_fitting 195 = .ok (.iconst 1, 1) := by decide +kernel
theorem dX5_fitting_196 : decode cX5_fitting 196 = .ok (.ireturn, 1) := by decide +kernel
theorem dX5_fitting_197 : decode cX5_fitting 197 = .ok (.iload_n 2, 1) := by decide +kernel
theorem dX5_fitting_198 : decode cX5_fitting 198 = .ok (.iconst 0, 1) := by decide +kernel
theorem dX5_fitting_199 : decode cX5_fitting 199 = .ok (.iconst 2, 1) := by decide +kernel
theorem dX5_fitting_200 : decode cX5_fitting 200 = .ok (.invokestatic 85, 3) := by decide +kernel
theorem dX5_fitting_203 : decode cX5_fitting 203 = .ok (.ifCond .eq 15, 3) := by decide +kernel
theorem dX5_fitting_206 : decode cX5_fitting 206 = .ok (.aload_n 0, 1) := by decide +kernel
theorem dX5_fitting_207 : decode cX5_fitting 207 = .ok (.iload_n 3, 1) := by decide +kernel
theorem dX5_fitting_208 : decode cX5_fitting 208 = .ok (.invokevirtual 92, 3) := by decide +kernel
theorem dX5_fitting_211 : decode cX5_fitting 211 = .ok (.ifCond .eq 7, 3) := by decide +kernel
theorem dX5_fitting_214 : decode cX5_fitting 214 = .ok (.iconst 1, 1) := by decide +kernel
theorem dX5_fitting_215 : decode cX5_fitting 215 = .ok (.goto 4, 3) := by decide +kernel
theorem dX5_fitting_218 : decode cX5_fitting 218 = .ok (.iconst 0, 1) := by decide +kernel
theorem dX5_fitting_219 : decode cX5_fitting 219 = .ok (.ireturn, 1) := by decide +kernel
theorem dX5_fitting_220 : decode cX5_fitting 220 = .ok (.aload_n 0, 1) := by decide +kernel
theorem dX5_fitting_221 : decode cX5_fitting 221 = .ok (.iload_n 2, 1) := by decide +kernel
theorem dX5_fitting_222 : decode cX5_fitting 222 = .ok (.invokevirtual 99, 3) := by decide +kernel
theorem dX5_fitting_225 : decode cX5_fitting 225 = .ok (.ifCond .eq 15, 3) := by decide +kernel
theorem dX5_fitting_228 : decode cX5_fitting 228 = .ok (.aload_n 0, 1) := by decide +kernel
theorem dX5_fitting_229 : decode cX5_fitting 229 = .ok (.iload_n 3, 1) := by decide +kernel
theorem dX5_fitting_230 : decode cX5_fitting 230 = .ok (.invokevirtual 99, 3) := by decide +kernel
theorem dX5_fitting_233 : decode cX5_fitting 233 = .ok (.ifCond .eq 7, 3) := by decide +kernel
theorem dX5_fitting_236 : decode cX5_fitting 236 = .ok (.iconst 1, 1) := by decide +kernel
theorem dX5_fitting_237 : decode cX5_fitting 237 = .ok (.goto 4, 3) := by decide +kernel
theorem dX5_fitting_240 : decode cX5_fitting 240 = .ok (.iconst 0, 1) := by decide +kernel
theorem dX5_fitting_241 : decode cX5_fitting 241 = .ok (.ireturn, 1) := by decide +kernel
theorem dX5_fitting_242 : decode cX5_fitting 242 = .ok (.aload_n 0, 1) := by decide +kernel
theorem dX5_fitting_243 : decode cX5_fitting 243 = .ok (.iload_n 2, 1) := by decide +kernel
theorem dX5_fitting_244 : decode cX5_fitting 244 = .ok (.invokevirtual 96, 3) := by decide +kernel
theorem dX5_fitting_247 : decode cX5_fitting 247 = .ok (.ifCond .eq 24, 3) := by decide +kernel
theorem dX5_fitting_250 : decode cX5_fitting 250 = .ok (.aload_n 0, 1) := by decide +kernel
theorem dX5_fitting_251 : decode cX5_fitting 251 = .ok (.iload_n 3, 1) := by decide +kernel
theorem dX5_fitting_252 : decode cX5_fitting 252 = .ok (.invokevirtual 99, 3) := by decide +kernel
theorem dX5_fitting_255 : decode cX5_fitting 255 = .ok (.ifCond .eq 16, 3) := by decide +kernel
theorem dX5_fitting_258 : decode cX5_fitting 258 = .ok (.aload_n 0, 1) := by decide +kernel
theorem dX5_fitting_259 : decode cX5_fitting 259 = .ok (.iload 4, 2) := by decide +kernel
theorem dX5_fitting_261 : decode cX5_fitting 261 = .ok (.invokevirtual 99, 3) := by decide +kernel
theorem dX5_fitting_264 : decode cX5_fitting 264 = .ok (.ifCond .eq 7, 3) := by decide +kernel
theorem dX5_fitting_267 : decode cX5_fitting 267 = .ok (.iconst 1, 1) := by decide +kernel
theorem dX5_fitting_268 : decode cX5_fitting 268 = .ok (.goto 4, 3) := by decide +kernel
theorem dX5_fitting_271 : decode cX5_fitting 271 = .ok (.iconst 0, 1) := by decide +kernel
theorem dX5_fitting_272 : decode cX5_fitting 272 = .ok (.ireturn, 1) := by decide +kernel
theorem dX5_fitting_273 : decode cX5_fitting 273 = .ok (.aload_n 0, 1) := by decide +kernel
theorem dX5_fitting_274 : decode cX5_fitting 274 = .ok (.iload_n 2, 1) := by decide +kernel
theorem dX5_fitting_275 : decode cX5_fitting 275 = .ok (.invokevirtual 96, 3) := by decide +kernel
theorem dX5_fitting_278 : decode cX5_fitting 278 = .ok (.ifCond .eq 24, 3) := by decide +kernel
theorem dX5_fitting_281 : decode cX5_fitting 281 = .ok (.aload_n 0, 1) := by decide +kernel
theorem dX5_fitting_282 : decode cX5_fitting 282 = .ok (.iload_n 3, 1) := by decide +kernel
theorem dX5_fitting_283 : decode cX5_fitting 283 = .ok (.invokevirtual 96, 3) := by decide +kernel
theorem dX5_fitting_286 : decode cX5_fitting 286 = .ok (.ifCond .eq 16, 3) := by decide +kernel
theorem dX5_fitting_289 : decode cX5_fitting 289 = .ok (.aload_n 0, 1) := by decide +kernel
theorem dX5_fitting_290 : decode cX5_fitting 290 = .ok (.iload 4, 2) := by decide +kernel
theorem dX5_fitting_292 : decode cX5_fitting 292 = .ok (.invokevirtual 99, 3) := by decide +kernel
theorem dX5_fitting_295 : decode cX5_fitting 295 = .ok (.ifCond .eq 7, 3) := by decide +kernel
theorem dX5_fitting_298 : decode cX5_fitting 298 = .ok (.iconst 1, 1) := by decide +kernel
theorem dX5_fitting_299 : decode cX5_fitting 299 = .ok (.goto 4, 3) := by decide +kernel
theorem dX5_fitting_302 : decode cX5_fitting 302 = .ok (.iconst 0, 1) := by decide +kernel
theorem dX5_fitting_303 : decode cX5_fitting 303 = .ok (.ireturn, 1) := by decide +kernel
theorem dX5_fitting_304 : decode cX5_fitting 304 = .ok (.iconst 0, 1) := by decide +kernel
theorem dX5_fitting_305 : decode cX5_fitting 305 = .ok (.ireturn, 1) := by decide +kernel
theorem dX5_firstIsNode_0 : decode cX5_firstIsNode 0 = .ok (.iload_n 0, 1) := by decide +kernel
theorem dX5_firstIsNode_1 : decode cX5_firstIsNode 1 = .ok (.iconst 2, 1) := by decide +kernel
theorem dX5_firstIsNode_2 : decode cX5_firstIsNode 2 = .ok (.if_icmp .eq 36, 3) := by decide +kernel
theorem dX5_firstIsNode_5 : decode cX5_firstIsNode 5 = .ok (.iload_n 0, 1) := by decide +kernel
theorem dX5_firstIsNode_6 : decode cX5_firstIsNode 6 = .ok (.iconst 3, 1) := by decide +kernel
theorem dX5_firstIsNode_7 : decode cX5_firstIsNode 7 = .ok (.if_icmp .eq 31, 3) := by decide +kernel
theorem dX5_firstIsNode_10 : decode cX5_firstIsNode 10 = .ok (.iload_n 0, 1) := by decide +kernel
theorem dX5_firstIsNode_11 : decode cX5_firstIsNode 11 = .ok (.iconst 5, 1) := by decide +kernel
theorem dX5_firstIsNode_12 : decode cX5_firstIsNode 12 = .ok (.if_icmp .eq 26, 3) := by decide +kernel
theorem dX5_firstIsNode_15 : decode cX5_firstIsNode 15 = .ok (.iload_n 0, 1) := by decide +kernel
theorem dX5_firstIsNode_16 : decode cX5_firstIsNode 16 = .ok (.bipush 6, 2) := by decide +kernel
theorem dX5_firstIsNode_18 : decode cX5_firstIsNode 18 = .ok (.if_icmp .eq 20, 3) := by decide +kernel
theorem dX5_firstIsNode_21 : decode cX5_firstIsNode 21 = .ok (.iload_n 0, 1) := by decide +kernel
theorem dX5_firstIsNode_22 : decode cX5_firstIsNode 22 = .ok (.bipush 8, 2) := by decide +kernel
theorem dX5_firstIsNode_24 : decode cX5_firstIsNode 24 = .ok (.bipush 10, 2) := by decide +kernel
theorem dX5_firstIsNode_26 : decode cX5_firstIsNode 26 = .ok (.invokestatic 85, 3) := by decide +kernel
theorem dX5_firstIsNode_29 : decode cX5_firstIsNode 29 = .ok (.ifCond .ne 9, 3) := by decide +kernel
theorem dX5_firstIsNode_32 : decode cX5_firstIsNode 32 = .ok (.iload_n 0, 1) := by decide +kernel
theorem dX5_firstIsNode_33 : decode cX5_firstIsNode 33 = .ok (.bipush 12, 2) := by decide +kernel
theorem dX5_firstIsNode_35 : decode cX5_firstIsNode 35 = .ok (.if_icmp .le 7, 3) := by decide +kernel
theorem dX5_firstIsNode_38 : decode cX5_firstIsNode 38 = .ok (.iconst 1, 1) := by decide +kernel
theorem dX5_firstIsNode_39 : decode cX5_firstIsNode 39 = .ok (.goto 4, 3) := by decide +kernel
theorem dX5_firstIsNode_42 : decode cX5_firstIsNode 42 = .ok (.iconst 0, 1) := by decide +kernel
theorem dX5_firstIsNode_43 : decode cX5_firstIsNode 43 = .ok (.ireturn, 1) := by decide +kernel
theorem dX5_secondIsNode_0 : decode cX5_secondIsNode 0 = .ok (.iload_n 0, 1) := by decide +kernel
theorem dX5_secondIsNode_1 : decode cX5_secondIsNode 1 = .ok (.iconst 2, 1) := by decide +kernel
theorem dX5_secondIsNode_2 : decode cX5_secondIsNode 2 = .ok (.bipush 7, 2) := by decide +kernel
theorem dX5_secondIsNode_4 : decode cX5_secondIsNode 4 = .ok (.invokestatic 85, 3) := by decide +kernel
theorem dX5_secondIsNode_7 : decode cX5_secondIsNode 7 = .ok (.ifCond .ne 21, 3) := by decide +kernel
theorem dX5_secondIsNode_10 : decode cX5_secondIsNode 10 = .ok (.iload_n 0, 1) := by decide +kernel
theorem dX5_secondIsNode_11 : decode cX5_secondIsNode 11 = .ok (.bipush 9, 2) := by decide +kernel
theorem dX5_secondIsNode_13 : decode cX5_secondIsNode 13 = .ok (.if_icmp .eq 15, 3) := by decide +kernel
theorem dX5_secondIsNode_16 : decode cX5_secondIsNode 16 = .ok (.iload_n 0, 1) := by decide +kernel
theorem dX5_secondIsNode_17 : decode cX5_secondIsNode 17 = .ok (.bipush 10, 2) := by decide +kernel
theorem dX5_secondIsNode_19 : decode cX5_secondIsNode 19 = .ok (.if_icmp .eq 9, 3) := by decide +kernel
theorem dX5_secondIsNode_22 : decode cX5_secondIsNode 22 = .ok (.iload_n 0, 1) := by decide +kernel
theorem dX5_secondIsNode_23 : decode cX5_secondIsNode 23 = .ok (.bipush 11, 2) := by decide +kernel
theorem dX5_secondIsNode_25 : decode cX5_secondIsNode 25 = .ok (.if_icmp .le 7, 3) := by decide +kernel
theorem dX5_secondIsNode_28 : decode cX5_secondIsNode 28 = .ok (.iconst 1, 1) := by decide +kernel
theorem dX5_secondIsNode_29 : decode cX5_secondIsNode 29 = .ok (.goto 4, 3) := by decide +kernel
theorem dX5_secondIsNode_32 : decode cX5_secondIsNode 32 = .ok (.iconst 0, 1) := by decide +kernel
theorem dX5_secondIsNode_33 : decode cX5_secondIsNode 33 = .ok (.ireturn, 1) := by decide +kernel
theorem dX5_heightWith_0 : decode cX5_heightWith 0 = .ok (.aload_n 0, 1) := by decide +kernel
theorem dX5_heightWith_1 : decode cX5_heightWith 1 = .ok (.getfield 22, 3) := by decide +kernel
theorem dX5_heightWith_4 : decode cX5_heightWith 4 = .ok (.iload_n 2, 1) := by decide +kernel
theorem dX5_heightWith_5 : decode cX5_heightWith 5 = .ok (.iaload, 1) := by decide +kernel
theorem dX5_heightWith_6 : decode cX5_heightWith 6 = .ok (.iconst 1, 1) := by decide +kernel
theorem dX5_heightWith_7 : decode cX5_heightWith 7 = .ok (.iadd, 1) := by decide +kernel
theorem dX5_heightWith_8 : decode cX5_heightWith 8 = .ok (.iload_n 1, 1) := by decide +kernel
theorem dX5_heightWith_9 : decode cX5_heightWith 9 = .ok (.if_icmp .le 14, 3) := by decide +kernel
theorem dX5_heightWith_12 : decode cX5_heightWith 12 = .ok (.aload_n 0, 1) := by decide +kernel
theorem dX5_heightWith_13 : decode cX5_heightWith 13 = .ok (.getfield 22, 3) := by decide +kernel
theorem dX5_heightWith_16 : decode cX5_heightWith 16 = .ok (.iload_n 2, 1) := by decide +kernel
theorem dX5_heightWith_17 : decode cX5_heightWith 17 = .ok (.iaload, 1) := by decide +kernel
theorem dX5_heightWith_18 : decode cX5_heightWith 18 = .ok (.iconst 1, 1) := by decide +kernel
theorem dX5_heightWith_19 : decode cX5_heightWith 19 = .ok (.iadd, 1) := by decide +kernel
theorem dX5_heightWith_20 : decode cX5_heightWith 20 = .ok (.goto 4, 3) := by decide +kernel
theorem dX5_heightWith_23 : decode cX5_heightWith 23 = .ok (.iload_n 1, 1) := by decide +kernel
theorem dX5_heightWith_24 : decode cX5_heightWith 24 = .ok (.ireturn, 1) := by decide +kernel
theorem dX5_make_0 : decode cX5_make 0 = .ok (.aload_n 0, 1) := by decide +kernel
theorem dX5_make_1 : decode cX5_make 1 = .ok (.iconst 0, 1) := by decide +kernel
theorem dX5_make_2 : decode cX5_make 2 = .ok (.putfield 78, 3) := by decide +kernel
theorem dX5_make_5 : decode cX5_make 5 = .ok (.aload_n 0, 1) := by decide +kernel
theorem dX5_make_6 : decode cX5_make 6 = .ok (.iload_n 1, 1) := by decide +kernel
theorem dX5_make_7 : decode cX5_make 7 = .ok (.iload_n 2, 1) := by decide +kernel
theorem dX5_make_8 : decode cX5_make 8 = .ok (.iload_n 3, 1) := by decide +kernel
theorem dX5_make_9 : decode cX5_make 9 = .ok (.iload 4, 2) := by decide +kernel
theorem dX5_make_11 : decode cX5_make 11 = .ok (.invokevirtual 102, 3) := by decide +kernel
theorem dX5_make_14 : decode cX5_make 14 = .ok (.ifCond .ne 9, 3) := by decide +kernel
theorem dX5_make_17 : decode cX5_make 17 = .ok (.aload_n 0, 1) := by decide +kernel
theorem dX5_make_18 : decode cX5_make 18 = .ok (.iconst 1, 1) := by decide +kernel
theorem dX5_make_19 : decode cX5_make 19 = .ok (.invokevirtual 106, 3) := by decide +kernel
theorem dX5_make_22 : decode cX5_make 22 = .ok (.ireturn, 1) := by decide +kernel
theorem dX5_make_23 : decode cX5_make 23 = .ok (.iconst 1, 1) := by decide +kernel
theorem dX5_make_24 : decode cX5_make 24 = .ok (.istore 5, 2) := by decide +kernel
theorem dX5_make_26 : decode cX5_make 26 = .ok (.iload_n 1, 1) := by decide +kernel
theorem dX5_make_27 : decode cX5_make 27 = .ok (.invokestatic 110, 3) := by decide +kernel
theorem dX5_make_30 : decode cX5_make 30 = .ok (.ifCond .eq 13, 3) := by decide +kernel
theorem dX5_make_33 : decode cX5_make 33 = .ok (.aload_n 0, 1) := by decide +kernel
theorem dX5_make_34 : decode cX5_make 34 = .ok (.iload 5, 2) := by decide +kernel
theorem dX5_make_36 : decode cX5_make 36 = .ok (.iload_n 2, 1) := by decide +kernel
theorem dX5_make_37 : decode cX5_make 37 = .ok (.invokevirtual 113, 3) := by decide +kernel
theorem dX5_make_40 : decode cX5_make 40 = .ok (.goto 5, 3) := by decide +kernel
theorem dX5_make_43 : decode cX5_make 43 = .ok (.iload 5, 2) := by decide +kernel
theorem dX5_make_45 : decode cX5_make 45 = .ok (.istore 5, 2) := by decide +kernel
theorem dX5_make_47 : decode cX5_make 47 = .ok (.iload_n 1, 1) := by decide +kernel
theorem dX5_make_48 : decode cX5_make 48 = .ok (.invokestatic 117, 3) := by decide +kernel
theorem dX5_make_51 : decode cX5_make 51 = .ok (.ifCond .eq 13, 3) := by decide +kernel
theorem dX5_make_54 : decode cX5_make 54 = .ok (.aload_n 0, 1) := by decide +kernel
theorem dX5_make_55 : decode cX5_make 55 = .ok (.iload 5, 2) := by decide +kernel
theorem dX5_make_57 : decode cX5_make 57 = .ok (.iload_n 3, 1) := by decide +kernel
theorem dX5_make_58 : decode cX5_make 58 = .ok (.invokevirtual 113, 3) := by decide +kernel
theorem dX5_make_61 : decode cX5_make 61 = .ok (.goto 5, 3) := by decide +kernel
theorem dX5_make_64 : decode cX5_make 64 = .ok (.iload 5, 2) := by decide +kernel
theorem dX5_make_66 : decode cX5_make 66 = .ok (.istore 5, 2) := by decide +kernel
theorem dX5_make_68 : decode cX5_make 68 = .ok (.iload_n 1, 1) := by decide +kernel
theorem dX5_make_69 : decode cX5_make 69 = .ok (.bipush 13, 2) := by decide +kernel
theorem dX5_make_71 : decode cX5_make 71 = .ok (.if_icmp .le 14, 3) := by decide +kernel
theorem dX5_make_74 : decode cX5_make 74 = .ok (.aload_n 0, 1) := by decide +kernel
theorem dX5_make_75 : decode cX5_make 75 = .ok (.iload 5, 2) := by decide +kernel
theorem dX5_make_77 : decode cX5_make 77 = .ok (.iload 4, 2) := by decide +kernel
theorem dX5_make_79 : decode cX5_make 79 = .ok (.invokevirtual 113, 3) := by decide +kernel
theorem dX5_make_82 : decode cX5_make 82 = .ok (.goto 5, 3) := by decide +kernel
theorem dX5_make_85 : decode cX5_make 85 = .ok (.iload 5, 2) := by decide +kernel
theorem dX5_make_87 : decode cX5_make 87 = .ok (.istore 5, 2) := by decide +kernel
theorem dX5_make_89 : decode cX5_make 89 = .ok (.aload_n 0, 1) := by decide +kernel
theorem dX5_make_90 : decode cX5_make 90 = .ok (.getfield 82, 3) := by decide +kernel
theorem dX5_make_93 : decode cX5_make 93 = .ok (.bipush 60, 2) := by decide +kernel
theorem dX5_make_95 : decode cX5_make 95 = .ok (.if_icmp .eq 10, 3) := by decide +kernel
theorem dX5_make_98 : decode cX5_make 98 = .ok (.iload 5, 2) := by decide +kernel
theorem dX5_make_100 : decode cX5_make 100 = .ok (.bipush 6, 2) := by decide +kernel
theorem dX5_make_102 : decode cX5_make 102 = .ok (.if_icmp .le 9, 3) := by decide +kernel
theorem dX5_make_105 : decode cX5_make 105 = .ok (.aload_n 0, 1) := by decide +kernel
theorem dX5_make_106 : decode cX5_make 106 = .ok (.iconst 2, 1) := by decide +kernel
theorem dX5_make_107 : decode cX5_make 107 = .ok (.invokevirtual 106, 3) := by decide +kernel
theorem dX5_make_110 : decode cX5_make 110 = .ok (.ireturn, 1) := by decide +kernel
theorem dX5_make_111 : decode cX5_make 111 = .ok (.aload_n 0, 1) := by decide +kernel
theorem dX5_make_112 : decode cX5_make 112 = .ok (.getfield 7, 3) := by decide +kernel
theorem dX5_make_115 : decode cX5_make 115 = .ok (.aload_n 0, 1) := by decide +kernel
theorem dX5_make_116 : decode cX5_make 116 = .ok (.getfield 82, 3) := by decide +kernel
theorem dX5_make_119 : decode cX5_make 119 = .ok (.iload_n 1, 1) := by decide +kernel
theorem dX5_make_120 : decode cX5_make 120 = .ok (.iastore, 1) := by decide +kernel
theorem dX5_make_121 : decode cX5_make 121 = .ok (.aload_n 0, 1) := by decide +kernel
theorem dX5_make_122 : decode cX5_make 122 = .ok (.getfield 13, 3) := by decide +kernel
theorem dX5_make_125 : decode cX5_make 125 = .ok (.aload_n 0, 1) := by decide +kernel
theorem dX5_make_126 : decode cX5_make 126 = .ok (.getfield 82, 3) := by decide +kernel
theorem dX5_make_129 : decode cX5_make 129 = .ok (.iload_n 2, 1) := by decide +kernel
theorem dX5_make_130 : decode cX5_make 130 = .ok (.iastore, 1) := by decide +kernel
theorem dX5_make_131 : decode cX5_make 131 = .ok (.aload_n 0, 1) := by decide +kernel
theorem dX5_make_132 : decode cX5_make 132 = .ok (.getfield 16, 3) := by decide +kernel
theorem dX5_make_135 : decode cX5_make 135 = .ok (.aload_n 0, 1) := by decide +kernel
theorem dX5_make_136 : decode cX5_make 136 = .ok (.getfield 82, 3) := by decide +kernel
theorem dX5_make_139 : decode cX5_make 139 = .ok (.iload_n 3, 1) := by decide +kernel
theorem dX5_make_140 : decode cX5_make 140 = .ok (.iastore, 1) := by decide +kernel
theorem dX5_make_141 : decode cX5_make 141 = .ok (.aload_n 0, 1) := by decide +kernel
theorem dX5_make_142 : decode cX5_make 142 = .ok (.getfield 19, 3) := by decide +kernel
theorem dX5_make_145 : decode cX5_make 145 = .ok (.aload_n 0, 1) := by decide +kernel
theorem dX5_make_146 : decode cX5_make 146 = .ok (.getfield 82, 3) := by decide +kernel
theorem dX5_make_149 : decode cX5_make 149 = .ok (.iload 4, 2) := by decide +kernel
theorem dX5_make_151 : decode cX5_make 151 = .ok (.iastore, 1) := by decide +kernel
theorem dX5_make_152 : decode cX5_make 152 = .ok (.aload_n 0, 1) := by decide +kernel
theorem dX5_make_153 : decode cX5_make 153 = .ok (.getfield 22, 3) := by decide +kernel
theorem dX5_make_156 : decode cX5_make 156 = .ok (.aload_n 0, 1) := by decide +kernel
theorem dX5_make_157 : decode cX5_make 157 = .ok (.getfield 82, 3) := by decide +kernel
theorem dX5_make_160 : decode cX5_make 160 = .ok (.iload 5, 2) := by decide +kernel
theorem dX5_make_162 : decode cX5_make 162 = .ok (.iastore, 1) := by decide +kernel
theorem dX5_make_163 : decode cX5_make 163 = .ok (.aload_n 0, 1) := by decide +kernel
theorem dX5_make_164 : decode cX5_make 164 = .ok (.getfield 25, 3) := by decide +kernel
theorem dX5_make_167 : decode cX5_make 167 = .ok (.aload_n 0, 1) := by decide +kernel
theorem dX5_make_168 : decode cX5_make 168 = .ok (.getfield 82, 3) := by decide +kernel
theorem dX5_make_171 : decode cX5_make 171 = .ok (.lconst 1, 1) := by decide +kernel
theorem dX5_make_172 : decode cX5_make 172 = .ok (.aload_n 0, 1) := by decide +kernel
theorem dX5_make_173 : decode cX5_make 173 = .ok (.getfield 82, 3) := by decide +kernel
theorem dX5_make_176 : decode cX5_make 176 = .ok (.lshl, 1) := by decide +kernel
theorem dX5_make_177 : decode cX5_make 177 = .ok (.iload_n 1, 1) := by decide +kernel
theorem dX5_make_178 : decode cX5_make 178 = .ok (.invokestatic 110, 3) := by decide +kernel
theorem dX5_make_181 : decode cX5_make 181 = .ok (.ifCond .eq 12, 3) := by decide +kernel
theorem dX5_make_184 : decode cX5_make 184 = .ok (.aload_n 0, 1) := by decide +kernel
theorem dX5_make_185 : decode cX5_make 185 = .ok (.getfield 25, 3) := by decide +kernel
theorem dX5_make_188 : decode cX5_make 188 = .ok (.iload_n 2, 1) := by decide +kernel
theorem dX5_make_189 : decode cX5_make 189 = .ok (.laload, 1) := by decide +kernel
theorem dX5_make_190 : decode cX5_make 190 = .ok (.goto 4, 3) := by decide +kernel
theorem dX5_make_193 : decode cX5_make 193 = .ok (.lconst 0, 1) := by decide +kernel
theorem dX5_make_194 : decode cX5_make 194 = .ok (.lor, 1) := by decide +kernel
theorem dX5_make_195 : decode cX5_make 195 = .ok (.iload_n 1, 1) := by decide +kernel
theorem dX5_make_196 : decode cX5_make 196 = .ok (.invokestatic 117, 3) := by decide +kernel
theorem dX5_make_199 : decode cX5_make 199 = .ok (.ifCond .eq 12, 3) := by decide +kernel
theorem dX5_make_202 : decode cX5_make 202 = .ok (.aload_n 0, 1) := by decide +kernel
theorem dX5_make_203 : decode cX5_make 203 = .ok (.getfield 25, 3) := by decide +kernel
theorem dX5_make_206 : decode cX5_make 206 = .ok (.iload_n 3, 1) := by decide +kernel
theorem dX5_make_207 : decode cX5_make 207 = .ok (.laload, 1) := by decide +kernel
theorem dX5_make_208 : decode cX5_make 208 = .ok (.goto 4, 3) := by decide +kernel
theorem dX5_make_211 : decode cX5_make 211 = .ok (.lconst 0, 1) := by decide +kernel
theorem dX5_make_212 : decode cX5_make 212 = .ok (.lor, 1) := by decide +kernel
theorem dX5_make_213 : decode cX5_make 213 = .ok (.lastore, 1) := by decide +kernel
theorem dX5_make_214 : decode cX5_make 214 = .ok (.aload_n 0, 1) := by decide +kernel
theorem dX5_make_215 : decode cX5_make 215 = .ok (.dup, 1) := by decide +kernel
theorem dX5_make_216 : decode cX5_make 216 = .ok (.getfield 82, 3) := by decide +kernel
theorem dX5_make_219 : decode cX5_make 219 = .ok (.iconst 1, 1) := by decide +kernel
theorem dX5_make_220 : decode cX5_make 220 = .ok (.iadd, 1) := by decide +kernel
theorem dX5_make_221 : decode cX5_make 221 = .ok (.putfield 82, 3) := by decide +kernel
theorem dX5_make_224 : decode cX5_make 224 = .ok (.aload_n 0, 1) := by decide +kernel
theorem dX5_make_225 : decode cX5_make 225 = .ok (.getfield 82, 3) := by decide +kernel
theorem dX5_make_228 : decode cX5_make 228 = .ok (.iconst 1, 1) := by decide +kernel
theorem dX5_make_229 : decode cX5_make 229 = .ok (.isub, 1) := by decide +kernel
theorem dX5_make_230 : decode cX5_make 230 = .ok (.ireturn, 1) := by decide +kernel
theorem dX5_variable_0 : decode cX5_variable 0 = .ok (.iload_n 0, 1) := by decide +kernel
theorem dX5_variable_1 : decode cX5_variable 1 = .ok (.iconst 4, 1) := by decide +kernel
theorem dX5_variable_2 : decode cX5_variable 2 = .ok (.iload_n 1, 1) := by decide +kernel
theorem dX5_variable_3 : decode cX5_variable 3 = .ok (.imul, 1) := by decide +kernel
theorem dX5_variable_4 : decode cX5_variable 4 = .ok (.ishr, 1) := by decide +kernel
theorem dX5_variable_5 : decode cX5_variable 5 = .ok (.bipush 15, 2) := by decide +kernel
theorem dX5_variable_7 : decode cX5_variable 7 = .ok (.iand, 1) := by decide +kernel
theorem dX5_variable_8 : decode cX5_variable 8 = .ok (.ireturn, 1) := by decide +kernel
theorem dX5_give_0 : decode cX5_give 0 = .ok (.iconst 0, 1) := by decide +kernel
theorem dX5_give_1 : decode cX5_give 1 = .ok (.istore_n 3, 1) := by decide +kernel
theorem dX5_give_2 : decode cX5_give 2 = .ok (.iload_n 3, 1) := by decide +kernel
theorem dX5_give_3 : decode cX5_give 3 = .ok (.iload_n 1, 1) := by decide +kernel
theorem dX5_give_4 : decode cX5_give 4 = .ok (.if_icmp .gt 36, 3) := by decide +kernel
theorem dX5_give_7 : decode cX5_give 7 = .ok (.aload_n 0, 1) := by decide +kernel
theorem dX5_give_8 : decode cX5_give 8 = .ok (.getfield 25, 3) := by decide +kernel
theorem dX5_give_11 : decode cX5_give 11 = .ok (.iload_n 1, 1) := by decide +kernel
theorem dX5_give_12 : decode cX5_give 12 = .ok (.laload, 1) := by decide +kernel
theorem dX5_give_13 : decode cX5_give 13 = .ok (.iload_n 3, 1) := by decide +kernel
theorem dX5_give_14 : decode cX5_give 14 = .ok (.lshr, 1) := by decide +kernel
theorem dX5_give_15 : decode cX5_give 15 = .ok (.lconst 1, 1) := by decide +kernel
theorem dX5_give_16 : decode cX5_give 16 = .ok (.land, 1) := by decide +kernel
theorem dX5_give_17 : decode cX5_give 17 = .ok (.lconst 1, 1) := by decide +kernel
theorem dX5_give_18 : decode cX5_give 18 = .ok (.lcmp, 1) := by decide +kernel
theorem dX5_give_19 : decode cX5_give 19 = .ok (.ifCond .ne 15, 3) := by decide +kernel
theorem dX5_give_22 : decode cX5_give 22 = .ok (.aload_n 0, 1) := by decide +kernel
theorem dX5_give_23 : decode cX5_give 23 = .ok (.getfield 29, 3) := by decide +kernel
theorem dX5_give_26 : decode cX5_give 26 = .ok (.iload_n 3, 1) := by decide +kernel
theorem dX5_give_27 : decode cX5_give 27 = .ok (.aload_n 0, 1) := by decide +kernel
theorem dX5_give_28 : decode cX5_give 28 = .ok (.iload_n 3, 1) := by decide +kernel
theorem dX5_give_29 : decode cX5_give 29 = .ok (.iload_n 2, 1) := by decide +kernel
theorem dX5_give_30 : decode cX5_give 30 = .ok (.invokevirtual 120, 3) := by decide +kernel
theorem dX5_give_33 : decode cX5_give 33 = .ok (.iastore, 1) := by decide +kernel
theorem dX5_give_34 : decode cX5_give 34 = .ok (.iinc 3 1, 3) := by decide +kernel
theorem dX5_give_37 : decode cX5_give 37 = .ok (.goto (-35), 3) := by decide +kernel
theorem dX5_give_40 : decode cX5_give 40 = .ok (.aload_n 0, 1) := by decide +kernel
theorem dX5_give_41 : decode cX5_give 41 = .ok (.getfield 29, 3) := by decide +kernel
theorem dX5_give_44 : decode cX5_give 44 = .ok (.iload_n 1, 1) := by decide +kernel
theorem dX5_give_45 : decode cX5_give 45 = .ok (.iaload, 1) := by decide +kernel
theorem dX5_give_46 : decode cX5_give 46 = .ok (.ireturn, 1) := by decide +kernel
theorem dX5_reckon_0 : decode cX5_reckon 0 = .ok (.aload_n 0, 1) := by decide +kernel
theorem dX5_reckon_1 : decode cX5_reckon 1 = .ok (.getfield 13, 3) := by decide +kernel
theorem dX5_reckon_4 : decode cX5_reckon 4 = .ok (.iload_n 1, 1) := by decide +kernel
theorem dX5_reckon_5 : decode cX5_reckon 5 = .ok (.iaload, 1) := by decide +kernel
theorem dX5_reckon_6 : decode cX5_reckon 6 = .ok (.istore_n 3, 1) := by decide +kernel
theorem dX5_reckon_7 : decode cX5_reckon 7 = .ok (.aload_n 0, 1) := by decide +kernel
theorem dX5_reckon_8 : decode cX5_reckon 8 = .ok (.getfield 7, 3) := by decide +kernel
theorem dX5_reckon_11 : decode cX5_reckon 11 = .ok (.iload_n 1, 1) := by decide +kernel
theorem dX5_reckon_12 : decode cX5_reckon 12 = .ok (.iaload, 1) := by decide +kernel
theorem dX5_reckon_13 : decode cX5_reckon 13 = .ok (.invokestatic 110, 3) := by decide +kernel
theorem dX5_reckon_16 : decode cX5_reckon 16 = .ok (.ifCond .eq 12, 3) := by decide +kernel
theorem dX5_reckon_19 : decode cX5_reckon 19 = .ok (.aload_n 0, 1) := by decide +kernel
theorem dX5_reckon_20 : decode cX5_reckon 20 = .ok (.getfield 29, 3) := by decide +kernel
theorem dX5_reckon_23 : decode cX5_reckon 23 = .ok (.iload_n 3, 1) := by decide +kernel
theorem dX5_reckon_24 : decode cX5_reckon 24 = .ok (.iaload, 1) := by decide +kernel
theorem dX5_reckon_25 : decode cX5_reckon 25 = .ok (.goto 4, 3) := by decide +kernel
theorem dX5_reckon_28 : decode cX5_reckon 28 = .ok (.iload_n 3, 1) := by decide +kernel
theorem dX5_reckon_29 : decode cX5_reckon 29 = .ok (.istore 4, 2) := by decide +kernel
theorem dX5_reckon_31 : decode cX5_reckon 31 = .ok (.aload_n 0, 1) := by decide +kernel
theorem dX5_reckon_32 : decode cX5_reckon 32 = .ok (.getfield 7, 3) := by decide +kernel
theorem dX5_reckon_35 : decode cX5_reckon 35 = .ok (.iload_n 1, 1) := by decide +kernel
theorem dX5_reckon_36 : decode cX5_reckon 36 = .ok (.iaload, 1) := by decide +kernel
theorem dX5_reckon_37 : decode cX5_reckon 37 = .ok (.invokestatic 117, 3) := by decide +kernel
theorem dX5_reckon_40 : decode cX5_reckon 40 = .ok (.ifCond .eq 17, 3) := by decide +kernel
end
section
theorem dX5_reckon_43 : decode cX5_reckon 43 = .ok (.aload_n 0, 1) := by decide +kernel
theorem dX5_reckon_44 : decode cX5_reckon 44 = .ok (.getfield 29, 3) := by decide +kernel
theorem dX5_reckon_47 : decode cX5_reckon 47 = .ok (.aload_n 0, 1) := by decide +kernel
theorem dX5_reckon_48 : decode cX5_reckon 48 = .ok (.getfield 16, 3) := by decide +kernel
theorem dX5_reckon_51 : decode cX5_reckon 51 = .ok (.iload_n 1, 1) := by decide +kernel
theorem dX5_reckon_52 : decode cX5_reckon 52 = .ok (.iaload, 1) := by decide +kernel
theorem dX5_reckon_53 : decode cX5_reckon 53 = .ok (.iaload, 1) := by decide +kernel
theorem dX5_reckon_54 : decode cX5_reckon 54 = .ok (.goto 4, 3) := by decide +kernel
theorem dX5_reckon_57 : decode cX5_reckon 57 = .ok (.iconst 0, 1) := by decide +kernel
theorem dX5_reckon_58 : decode cX5_reckon 58 = .ok (.istore 5, 2) := by decide +kernel
theorem dX5_reckon_60 : decode cX5_reckon 60 = .ok (.aload_n 0, 1) := by decide +kernel
theorem dX5_reckon_61 : decode cX5_reckon 61 = .ok (.getfield 7, 3) := by decide +kernel
theorem dX5_reckon_64 : decode cX5_reckon 64 = .ok (.iload_n 1, 1) := by decide +kernel
theorem dX5_reckon_65 : decode cX5_reckon 65 = .ok (.iaload, 1) := by decide +kernel
theorem dX5_reckon_66 : decode cX5_reckon 66 = .ok (.tableswitch 129 0 9 #[54, 56, 62, 68, 74, 79, 92, 105, 118, 123], 54) := by decide +kernel
theorem dX5_reckon_120 : decode cX5_reckon 120 = .ok (.iload_n 3, 1) := by decide +kernel
theorem dX5_reckon_121 : decode cX5_reckon 121 = .ok (.ireturn, 1) := by decide +kernel
theorem dX5_reckon_122 : decode cX5_reckon 122 = .ok (.iload_n 2, 1) := by decide +kernel
theorem dX5_reckon_123 : decode cX5_reckon 123 = .ok (.iload_n 3, 1) := by decide +kernel
theorem dX5_reckon_124 : decode cX5_reckon 124 = .ok (.invokestatic 123, 3) := by decide +kernel
theorem dX5_reckon_127 : decode cX5_reckon 127 = .ok (.ireturn, 1) := by decide +kernel
theorem dX5_reckon_128 : decode cX5_reckon 128 = .ok (.iload 4, 2) := by decide +kernel
theorem dX5_reckon_130 : decode cX5_reckon 130 = .ok (.iload 5, 2) := by decide +kernel
theorem dX5_reckon_132 : decode cX5_reckon 132 = .ok (.iadd, 1) := by decide +kernel
theorem dX5_reckon_133 : decode cX5_reckon 133 = .ok (.ireturn, 1) := by decide +kernel
theorem dX5_reckon_134 : decode cX5_reckon 134 = .ok (.iload 4, 2) := by decide +kernel
theorem dX5_reckon_136 : decode cX5_reckon 136 = .ok (.iload 5, 2) := by decide +kernel
theorem dX5_reckon_138 : decode cX5_reckon 138 = .ok (.isub, 1) := by decide +kernel
theorem dX5_reckon_139 : decode cX5_reckon 139 = .ok (.ireturn, 1) := by decide +kernel
theorem dX5_reckon_140 : decode cX5_reckon 140 = .ok (.iload_n 3, 1) := by decide +kernel
theorem dX5_reckon_141 : decode cX5_reckon 141 = .ok (.iload 5, 2) := by decide +kernel
theorem dX5_reckon_143 : decode cX5_reckon 143 = .ok (.imul, 1) := by decide +kernel
theorem dX5_reckon_144 : decode cX5_reckon 144 = .ok (.ireturn, 1) := by decide +kernel
theorem dX5_reckon_145 : decode cX5_reckon 145 = .ok (.iload 4, 2) := by decide +kernel
theorem dX5_reckon_147 : decode cX5_reckon 147 = .ok (.iload 5, 2) := by decide +kernel
theorem dX5_reckon_149 : decode cX5_reckon 149 = .ok (.if_icmp .ge 7, 3) := by decide +kernel
theorem dX5_reckon_152 : decode cX5_reckon 152 = .ok (.iconst 1, 1) := by decide +kernel
theorem dX5_reckon_153 : decode cX5_reckon 153 = .ok (.goto 4, 3) := by decide +kernel
theorem dX5_reckon_156 : decode cX5_reckon 156 = .ok (.iconst 0, 1) := by decide +kernel
theorem dX5_reckon_157 : decode cX5_reckon 157 = .ok (.ireturn, 1) := by decide +kernel
theorem dX5_reckon_158 : decode cX5_reckon 158 = .ok (.iload 4, 2) := by decide +kernel
theorem dX5_reckon_160 : decode cX5_reckon 160 = .ok (.iload 5, 2) := by decide +kernel
theorem dX5_reckon_162 : decode cX5_reckon 162 = .ok (.if_icmp .ne 7, 3) := by decide +kernel
theorem dX5_reckon_165 : decode cX5_reckon 165 = .ok (.iconst 1, 1) := by decide +kernel
theorem dX5_reckon_166 : decode cX5_reckon 166 = .ok (.goto 4, 3) := by decide +kernel
theorem dX5_reckon_169 : decode cX5_reckon 169 = .ok (.iconst 0, 1) := by decide +kernel
theorem dX5_reckon_170 : decode cX5_reckon 170 = .ok (.ireturn, 1) := by decide +kernel
theorem dX5_reckon_171 : decode cX5_reckon 171 = .ok (.iload 5, 2) := by decide +kernel
theorem dX5_reckon_173 : decode cX5_reckon 173 = .ok (.iload_n 3, 1) := by decide +kernel
theorem dX5_reckon_174 : decode cX5_reckon 174 = .ok (.irem, 1) := by decide +kernel
theorem dX5_reckon_175 : decode cX5_reckon 175 = .ok (.ifCond .ne 7, 3) := by decide +kernel
theorem dX5_reckon_178 : decode cX5_reckon 178 = .ok (.iconst 1, 1) := by decide +kernel
theorem dX5_reckon_179 : decode cX5_reckon 179 = .ok (.goto 4, 3) := by decide +kernel
theorem dX5_reckon_182 : decode cX5_reckon 182 = .ok (.iconst 0, 1) := by decide +kernel
theorem dX5_reckon_183 : decode cX5_reckon 183 = .ok (.ireturn, 1) := by decide +kernel
theorem dX5_reckon_184 : decode cX5_reckon 184 = .ok (.iconst 1, 1) := by decide +kernel
theorem dX5_reckon_185 : decode cX5_reckon 185 = .ok (.iload 4, 2) := by decide +kernel
theorem dX5_reckon_187 : decode cX5_reckon 187 = .ok (.isub, 1) := by decide +kernel
theorem dX5_reckon_188 : decode cX5_reckon 188 = .ok (.ireturn, 1) := by decide +kernel
theorem dX5_reckon_189 : decode cX5_reckon 189 = .ok (.iload 4, 2) := by decide +kernel
theorem dX5_reckon_191 : decode cX5_reckon 191 = .ok (.iload 5, 2) := by decide +kernel
theorem dX5_reckon_193 : decode cX5_reckon 193 = .ok (.iand, 1) := by decide +kernel
theorem dX5_reckon_194 : decode cX5_reckon 194 = .ok (.ireturn, 1) := by decide +kernel
theorem dX5_reckon_195 : decode cX5_reckon 195 = .ok (.iload 4, 2) := by decide +kernel
theorem dX5_reckon_197 : decode cX5_reckon 197 = .ok (.iload 5, 2) := by decide +kernel
theorem dX5_reckon_199 : decode cX5_reckon 199 = .ok (.ior, 1) := by decide +kernel
theorem dX5_reckon_200 : decode cX5_reckon 200 = .ok (.ireturn, 1) := by decide +kernel
theorem dX5_isTrue_0 : decode cX5_isTrue 0 = .ok (.aload_n 0, 1) := by decide +kernel
theorem dX5_isTrue_1 : decode cX5_isTrue 1 = .ok (.iload_n 1, 1) := by decide +kernel
theorem dX5_isTrue_2 : decode cX5_isTrue 2 = .ok (.iload_n 2, 1) := by decide +kernel
theorem dX5_isTrue_3 : decode cX5_isTrue 3 = .ok (.invokevirtual 126, 3) := by decide +kernel
theorem dX5_isTrue_6 : decode cX5_isTrue 6 = .ok (.iconst 1, 1) := by decide +kernel
theorem dX5_isTrue_7 : decode cX5_isTrue 7 = .ok (.if_icmp .ne 7, 3) := by decide +kernel
theorem dX5_isTrue_10 : decode cX5_isTrue 10 = .ok (.iconst 1, 1) := by decide +kernel
theorem dX5_isTrue_11 : decode cX5_isTrue 11 = .ok (.goto 4, 3) := by decide +kernel
theorem dX5_isTrue_14 : decode cX5_isTrue 14 = .ok (.iconst 0, 1) := by decide +kernel
theorem dX5_isTrue_15 : decode cX5_isTrue 15 = .ok (.ireturn, 1) := by decide +kernel
theorem dX5_changed_0 : decode cX5_changed 0 = .ok (.aload_n 0, 1) := by decide +kernel
theorem dX5_changed_1 : decode cX5_changed 1 = .ok (.aload_n 0, 1) := by decide +kernel
theorem dX5_changed_2 : decode cX5_changed 2 = .ok (.getfield 16, 3) := by decide +kernel
theorem dX5_changed_5 : decode cX5_changed 5 = .ok (.iload_n 1, 1) := by decide +kernel
theorem dX5_changed_6 : decode cX5_changed 6 = .ok (.iaload, 1) := by decide +kernel
theorem dX5_changed_7 : decode cX5_changed 7 = .ok (.iload_n 2, 1) := by decide +kernel
theorem dX5_changed_8 : decode cX5_changed 8 = .ok (.invokevirtual 126, 3) := by decide +kernel
theorem dX5_changed_11 : decode cX5_changed 11 = .ok (.bipush 15, 2) := by decide +kernel
theorem dX5_changed_13 : decode cX5_changed 13 = .ok (.iand, 1) := by decide +kernel
theorem dX5_changed_14 : decode cX5_changed 14 = .ok (.istore_n 3, 1) := by decide +kernel
theorem dX5_changed_15 : decode cX5_changed 15 = .ok (.iload_n 2, 1) := by decide +kernel
theorem dX5_changed_16 : decode cX5_changed 16 = .ok (.bipush 15, 2) := by decide +kernel
theorem dX5_changed_18 : decode cX5_changed 18 = .ok (.iconst 4, 1) := by decide +kernel
theorem dX5_changed_19 : decode cX5_changed 19 = .ok (.aload_n 0, 1) := by decide +kernel
theorem dX5_changed_20 : decode cX5_changed 20 = .ok (.getfield 13, 3) := by decide +kernel
theorem dX5_changed_23 : decode cX5_changed 23 = .ok (.iload_n 1, 1) := by decide +kernel
theorem dX5_changed_24 : decode cX5_changed 24 = .ok (.iaload, 1) := by decide +kernel
theorem dX5_changed_25 : decode cX5_changed 25 = .ok (.imul, 1) := by decide +kernel
theorem dX5_changed_26 : decode cX5_changed 26 = .ok (.ishl, 1) := by decide +kernel
theorem dX5_changed_27 : decode cX5_changed 27 = .ok (.iconst (-1), 1) := by decide +kernel
theorem dX5_changed_28 : decode cX5_changed 28 = .ok (.ixor, 1) := by decide +kernel
theorem dX5_changed_29 : decode cX5_changed 29 = .ok (.iand, 1) := by decide +kernel
theorem dX5_changed_30 : decode cX5_changed 30 = .ok (.iload_n 3, 1) := by decide +kernel
theorem dX5_changed_31 : decode cX5_changed 31 = .ok (.iconst 4, 1) := by decide +kernel
theorem dX5_changed_32 : decode cX5_changed 32 = .ok (.aload_n 0, 1) := by decide +kernel
theorem dX5_changed_33 : decode cX5_changed 33 = .ok (.getfield 13, 3) := by decide +kernel
theorem dX5_changed_36 : decode cX5_changed 36 = .ok (.iload_n 1, 1) := by decide +kernel
theorem dX5_changed_37 : decode cX5_changed 37 = .ok (.iaload, 1) := by decide +kernel
theorem dX5_changed_38 : decode cX5_changed 38 = .ok (.imul, 1) := by decide +kernel
theorem dX5_changed_39 : decode cX5_changed 39 = .ok (.ishl, 1) := by decide +kernel
theorem dX5_changed_40 : decode cX5_changed 40 = .ok (.ior, 1) := by decide +kernel
theorem dX5_changed_41 : decode cX5_changed 41 = .ok (.ireturn, 1) := by decide +kernel
theorem dX5_value_0 : decode cX5_value 0 = .ok (.aload_n 0, 1) := by decide +kernel
theorem dX5_value_1 : decode cX5_value 1 = .ok (.iconst 0, 1) := by decide +kernel
theorem dX5_value_2 : decode cX5_value 2 = .ok (.putfield 78, 3) := by decide +kernel
theorem dX5_value_5 : decode cX5_value 5 = .ok (.aload_n 0, 1) := by decide +kernel
theorem dX5_value_6 : decode cX5_value 6 = .ok (.iload_n 1, 1) := by decide +kernel
theorem dX5_value_7 : decode cX5_value 7 = .ok (.invokevirtual 92, 3) := by decide +kernel
theorem dX5_value_10 : decode cX5_value 10 = .ok (.ifCond .eq 14, 3) := by decide +kernel
theorem dX5_value_13 : decode cX5_value 13 = .ok (.iload_n 2, 1) := by decide +kernel
theorem dX5_value_14 : decode cX5_value 14 = .ok (.iconst 0, 1) := by decide +kernel
theorem dX5_value_15 : decode cX5_value 15 = .ok (.sipush 4095, 3) := by decide +kernel
theorem dX5_value_18 : decode cX5_value 18 = .ok (.invokestatic 85, 3) := by decide +kernel
theorem dX5_value_21 : decode cX5_value 21 = .ok (.ifCond .ne 9, 3) := by decide +kernel
theorem dX5_value_24 : decode cX5_value 24 = .ok (.aload_n 0, 1) := by decide +kernel
theorem dX5_value_25 : decode cX5_value 25 = .ok (.iconst 1, 1) := by decide +kernel
theorem dX5_value_26 : decode cX5_value 26 = .ok (.invokevirtual 106, 3) := by decide +kernel
theorem dX5_value_29 : decode cX5_value 29 = .ok (.ireturn, 1) := by decide +kernel
theorem dX5_value_30 : decode cX5_value 30 = .ok (.aload_n 0, 1) := by decide +kernel
theorem dX5_value_31 : decode cX5_value 31 = .ok (.iload_n 1, 1) := by decide +kernel
theorem dX5_value_32 : decode cX5_value 32 = .ok (.iload_n 2, 1) := by decide +kernel
theorem dX5_value_33 : decode cX5_value 33 = .ok (.invokevirtual 126, 3) := by decide +kernel
theorem dX5_value_36 : decode cX5_value 36 = .ok (.ireturn, 1) := by decide +kernel
theorem dX5_holds_0 : decode cX5_holds 0 = .ok (.aload_n 0, 1) := by decide +kernel
theorem dX5_holds_1 : decode cX5_holds 1 = .ok (.iconst 0, 1) := by decide +kernel
theorem dX5_holds_2 : decode cX5_holds 2 = .ok (.putfield 78, 3) := by decide +kernel
theorem dX5_holds_5 : decode cX5_holds 5 = .ok (.aload_n 0, 1) := by decide +kernel
theorem dX5_holds_6 : decode cX5_holds 6 = .ok (.iload_n 1, 1) := by decide +kernel
theorem dX5_holds_7 : decode cX5_holds 7 = .ok (.invokevirtual 96, 3) := by decide +kernel
theorem dX5_holds_10 : decode cX5_holds 10 = .ok (.ifCond .eq 14, 3) := by decide +kernel
theorem dX5_holds_13 : decode cX5_holds 13 = .ok (.iload_n 2, 1) := by decide +kernel
theorem dX5_holds_14 : decode cX5_holds 14 = .ok (.iconst 0, 1) := by decide +kernel
theorem dX5_holds_15 : decode cX5_holds 15 = .ok (.sipush 4095, 3) := by decide +kernel
theorem dX5_holds_18 : decode cX5_holds 18 = .ok (.invokestatic 85, 3) := by decide +kernel
theorem dX5_holds_21 : decode cX5_holds 21 = .ok (.ifCond .ne 17, 3) := by decide +kernel
theorem dX5_holds_24 : decode cX5_holds 24 = .ok (.aload_n 0, 1) := by decide +kernel
theorem dX5_holds_25 : decode cX5_holds 25 = .ok (.iconst 1, 1) := by decide +kernel
theorem dX5_holds_26 : decode cX5_holds 26 = .ok (.invokevirtual 106, 3) := by decide +kernel
theorem dX5_holds_29 : decode cX5_holds 29 = .ok (.ifCond .le 7, 3) := by decide +kernel
theorem dX5_holds_32 : decode cX5_holds 32 = .ok (.iconst 1, 1) := by decide +kernel
theorem dX5_holds_33 : decode cX5_holds 33 = .ok (.goto 4, 3) := by decide +kernel
theorem dX5_holds_36 : decode cX5_holds 36 = .ok (.iconst 0, 1) := by decide +kernel
theorem dX5_holds_37 : decode cX5_holds 37 = .ok (.ireturn, 1) := by decide +kernel
theorem dX5_holds_38 : decode cX5_holds 38 = .ok (.aload_n 0, 1) := by decide +kernel
theorem dX5_holds_39 : decode cX5_holds 39 = .ok (.iload_n 1, 1) := by decide +kernel
theorem dX5_holds_40 : decode cX5_holds 40 = .ok (.iload_n 2, 1) := by decide +kernel
theorem dX5_holds_41 : decode cX5_holds 41 = .ok (.invokevirtual 129, 3) := by decide +kernel
theorem dX5_holds_44 : decode cX5_holds 44 = .ok (.ireturn, 1) := by decide +kernel
theorem dX5_run_0 : decode cX5_run 0 = .ok (.aload_n 0, 1) := by decide +kernel
theorem dX5_run_1 : decode cX5_run 1 = .ok (.iconst 0, 1) := by decide +kernel
theorem dX5_run_2 : decode cX5_run 2 = .ok (.putfield 78, 3) := by decide +kernel
theorem dX5_run_5 : decode cX5_run 5 = .ok (.aload_n 0, 1) := by decide +kernel
theorem dX5_run_6 : decode cX5_run 6 = .ok (.iload_n 1, 1) := by decide +kernel
theorem dX5_run_7 : decode cX5_run 7 = .ok (.invokevirtual 99, 3) := by decide +kernel
theorem dX5_run_10 : decode cX5_run 10 = .ok (.ifCond .eq 25, 3) := by decide +kernel
theorem dX5_run_13 : decode cX5_run 13 = .ok (.iload_n 2, 1) := by decide +kernel
theorem dX5_run_14 : decode cX5_run 14 = .ok (.iconst 0, 1) := by decide +kernel
theorem dX5_run_15 : decode cX5_run 15 = .ok (.sipush 4095, 3) := by decide +kernel
theorem dX5_run_18 : decode cX5_run 18 = .ok (.invokestatic 85, 3) := by decide +kernel
theorem dX5_run_21 : decode cX5_run 21 = .ok (.ifCond .eq 14, 3) := by decide +kernel
theorem dX5_run_24 : decode cX5_run 24 = .ok (.iload_n 3, 1) := by decide +kernel
theorem dX5_run_25 : decode cX5_run 25 = .ok (.iconst 1, 1) := by decide +kernel
theorem dX5_run_26 : decode cX5_run 26 = .ok (.sipush 500, 3) := by decide +kernel
theorem dX5_run_29 : decode cX5_run 29 = .ok (.invokestatic 85, 3) := by decide +kernel
theorem dX5_run_32 : decode cX5_run 32 = .ok (.ifCond .ne 9, 3) := by decide +kernel
theorem dX5_run_35 : decode cX5_run 35 = .ok (.aload_n 0, 1) := by decide +kernel
theorem dX5_run_36 : decode cX5_run 36 = .ok (.iconst 1, 1) := by decide +kernel
theorem dX5_run_37 : decode cX5_run 37 = .ok (.invokevirtual 106, 3) := by decide +kernel
theorem dX5_run_40 : decode cX5_run 40 = .ok (.ireturn, 1) := by decide +kernel
theorem dX5_run_41 : decode cX5_run 41 = .ok (.iload_n 2, 1) := by decide +kernel
theorem dX5_run_42 : decode cX5_run 42 = .ok (.istore 4, 2) := by decide +kernel
theorem dX5_run_44 : decode cX5_run 44 = .ok (.iconst 0, 1) := by decide +kernel
theorem dX5_run_45 : decode cX5_run 45 = .ok (.istore 5, 2) := by decide +kernel
theorem dX5_run_47 : decode cX5_run 47 = .ok (.iconst 1, 1) := by decide +kernel
theorem dX5_run_48 : decode cX5_run 48 = .ok (.istore 6, 2) := by decide +kernel
theorem dX5_run_50 : decode cX5_run 50 = .ok (.aload_n 0, 1) := by decide +kernel
theorem dX5_run_51 : decode cX5_run 51 = .ok (.getfield 75, 3) := by decide +kernel
theorem dX5_run_54 : decode cX5_run 54 = .ok (.iconst 0, 1) := by decide +kernel
theorem dX5_run_55 : decode cX5_run 55 = .ok (.iload_n 1, 1) := by decide +kernel
theorem dX5_run_56 : decode cX5_run 56 = .ok (.iastore, 1) := by decide +kernel
theorem dX5_run_57 : decode cX5_run 57 = .ok (.iload 6, 2) := by decide +kernel
theorem dX5_run_59 : decode cX5_run 59 = .ok (.ifCond .le 263, 3) := by decide +kernel
theorem dX5_run_62 : decode cX5_run 62 = .ok (.iinc 6 (-1), 3) := by decide +kernel
theorem dX5_run_65 : decode cX5_run 65 = .ok (.aload_n 0, 1) := by decide +kernel
theorem dX5_run_66 : decode cX5_run 66 = .ok (.getfield 75, 3) := by decide +kernel
theorem dX5_run_69 : decode cX5_run 69 = .ok (.iload 6, 2) := by decide +kernel
theorem dX5_run_71 : decode cX5_run 71 = .ok (.iaload, 1) := by decide +kernel
theorem dX5_run_72 : decode cX5_run 72 = .ok (.bipush 100, 2) := by decide +kernel
theorem dX5_run_74 : decode cX5_run 74 = .ok (.irem, 1) := by decide +kernel
theorem dX5_run_75 : decode cX5_run 75 = .ok (.istore 7, 2) := by decide +kernel
theorem dX5_run_77 : decode cX5_run 77 = .ok (.aload_n 0, 1) := by decide +kernel
theorem dX5_run_78 : decode cX5_run 78 = .ok (.getfield 75, 3) := by decide +kernel
theorem dX5_run_81 : decode cX5_run 81 = .ok (.iload 6, 2) := by decide +kernel
theorem dX5_run_83 : decode cX5_run 83 = .ok (.iaload, 1) := by decide +kernel
theorem dX5_run_84 : decode cX5_run 84 = .ok (.bipush 100, 2) := by decide +kernel
theorem dX5_run_86 : decode cX5_run 86 = .ok (.if_icmp .ge 7, 3) := by decide +kernel
theorem dX5_run_89 : decode cX5_run 89 = .ok (.iconst 1, 1) := by decide +kernel
theorem dX5_run_90 : decode cX5_run 90 = .ok (.goto 4, 3) := by decide +kernel
theorem dX5_run_93 : decode cX5_run 93 = .ok (.iconst 0, 1) := by decide +kernel
theorem dX5_run_94 : decode cX5_run 94 = .ok (.istore 8, 2) := by decide +kernel
theorem dX5_run_96 : decode cX5_run 96 = .ok (.iload 8, 2) := by decide +kernel
theorem dX5_run_98 : decode cX5_run 98 = .ok (.ifCond .eq 15, 3) := by decide +kernel
theorem dX5_run_101 : decode cX5_run 101 = .ok (.iload 5, 2) := by decide +kernel
theorem dX5_run_103 : decode cX5_run 103 = .ok (.iload_n 3, 1) := by decide +kernel
theorem dX5_run_104 : decode cX5_run 104 = .ok (.if_icmp .ne 9, 3) := by decide +kernel
theorem dX5_run_107 : decode cX5_run 107 = .ok (.aload_n 0, 1) := by decide +kernel
theorem dX5_run_108 : decode cX5_run 108 = .ok (.iconst 2, 1) := by decide +kernel
theorem dX5_run_109 : decode cX5_run 109 = .ok (.invokevirtual 106, 3) := by decide +kernel
theorem dX5_run_112 : decode cX5_run 112 = .ok (.ireturn, 1) := by decide +kernel
theorem dX5_run_113 : decode cX5_run 113 = .ok (.iload 8, 2) := by decide +kernel
theorem dX5_run_115 : decode cX5_run 115 = .ok (.ifCond .eq 10, 3) := by decide +kernel
theorem dX5_run_118 : decode cX5_run 118 = .ok (.iload 5, 2) := by decide +kernel
theorem dX5_run_120 : decode cX5_run 120 = .ok (.iconst 1, 1) := by decide +kernel
theorem dX5_run_121 : decode cX5_run 121 = .ok (.iadd, 1) := by decide +kernel
theorem dX5_run_122 : decode cX5_run 122 = .ok (.goto 5, 3) := by decide +kernel
theorem dX5_run_125 : decode cX5_run 125 = .ok (.iload 5, 2) := by decide +kernel
theorem dX5_run_127 : decode cX5_run 127 = .ok (.istore 5, 2) := by decide +kernel
theorem dX5_run_129 : decode cX5_run 129 = .ok (.aload_n 0, 1) := by decide +kernel
theorem dX5_run_130 : decode cX5_run 130 = .ok (.getfield 7, 3) := by decide +kernel
theorem dX5_run_133 : decode cX5_run 133 = .ok (.iload 7, 2) := by decide +kernel
theorem dX5_run_135 : decode cX5_run 135 = .ok (.iaload, 1) := by decide +kernel
theorem dX5_run_136 : decode cX5_run 136 = .ok (.bipush 12, 2) := by decide +kernel
theorem dX5_run_138 : decode cX5_run 138 = .ok (.if_icmp .ne 16, 3) := by decide +kernel
theorem dX5_run_141 : decode cX5_run 141 = .ok (.aload_n 0, 1) := by decide +kernel
theorem dX5_run_142 : decode cX5_run 142 = .ok (.iload 7, 2) := by decide +kernel
theorem dX5_run_144 : decode cX5_run 144 = .ok (.iload 4, 2) := by decide +kernel
theorem dX5_run_146 : decode cX5_run 146 = .ok (.invokevirtual 133, 3) := by decide +kernel
theorem dX5_run_149 : decode cX5_run 149 = .ok (.istore 4, 2) := by decide +kernel
theorem dX5_run_151 : decode cX5_run 151 = .ok (.goto 168, 3) := by decide +kernel
theorem dX5_run_154 : decode cX5_run 154 = .ok (.aload_n 0, 1) := by decide +kernel
theorem dX5_run_155 : decode cX5_run 155 = .ok (.getfield 7, 3) := by decide +kernel
theorem dX5_run_158 : decode cX5_run 158 = .ok (.iload 7, 2) := by decide +kernel
theorem dX5_run_160 : decode cX5_run 160 = .ok (.iaload, 1) := by decide +kernel
theorem dX5_run_161 : decode cX5_run 161 = .ok (.bipush 13, 2) := by decide +kernel
theorem dX5_run_163 : decode cX5_run 163 = .ok (.if_icmp .ne 39, 3) := by decide +kernel
theorem dX5_run_166 : decode cX5_run 166 = .ok (.aload_n 0, 1) := by decide +kernel
theorem dX5_run_167 : decode cX5_run 167 = .ok (.getfield 75, 3) := by decide +kernel
theorem dX5_run_170 : decode cX5_run 170 = .ok (.iload 6, 2) := by decide +kernel
theorem dX5_run_172 : decode cX5_run 172 = .ok (.aload_n 0, 1) := by decide +kernel
theorem dX5_run_173 : decode cX5_run 173 = .ok (.getfield 16, 3) := by decide +kernel
theorem dX5_run_176 : decode cX5_run 176 = .ok (.iload 7, 2) := by decide +kernel
theorem dX5_run_178 : decode cX5_run 178 = .ok (.iaload, 1) := by decide +kernel
theorem dX5_run_179 : decode cX5_run 179 = .ok (.iastore, 1) := by decide +kernel
theorem dX5_run_180 : decode cX5_run 180 = .ok (.aload_n 0, 1) := by decide +kernel
theorem dX5_run_181 : decode cX5_run 181 = .ok (.getfield 75, 3) := by decide +kernel
theorem dX5_run_184 : decode cX5_run 184 = .ok (.iload 6, 2) := by decide +kernel
theorem dX5_run_186 : decode cX5_run 186 = .ok (.iconst 1, 1) := by decide +kernel
theorem dX5_run_187 : decode cX5_run 187 = .ok (.iadd, 1) := by decide +kernel
theorem dX5_run_188 : decode cX5_run 188 = .ok (.aload_n 0, 1) := by decide +kernel
theorem dX5_run_189 : decode cX5_run 189 = .ok (.getfield 13, 3) := by decide +kernel
theorem dX5_run_192 : decode cX5_run 192 = .ok (.iload 7, 2) := by decide +kernel
theorem dX5_run_194 : decode cX5_run 194 = .ok (.iaload, 1) := by decide +kernel
theorem dX5_run_195 : decode cX5_run 195 = .ok (.iastore, 1) := by decide +kernel
theorem dX5_run_196 : decode cX5_run 196 = .ok (.iinc 6 2, 3) := by decide +kernel
theorem dX5_run_199 : decode cX5_run 199 = .ok (.goto 120, 3) := by decide +kernel
theorem dX5_run_202 : decode cX5_run 202 = .ok (.aload_n 0, 1) := by decide +kernel
theorem dX5_run_203 : decode cX5_run 203 = .ok (.getfield 7, 3) := by decide +kernel
theorem dX5_run_206 : decode cX5_run 206 = .ok (.iload 7, 2) := by decide +kernel
theorem dX5_run_208 : decode cX5_run 208 = .ok (.iaload, 1) := by decide +kernel
theorem dX5_run_209 : decode cX5_run 209 = .ok (.bipush 14, 2) := by decide +kernel
theorem dX5_run_211 : decode cX5_run 211 = .ok (.if_icmp .ne 49, 3) := by decide +kernel
theorem dX5_run_214 : decode cX5_run 214 = .ok (.aload_n 0, 1) := by decide +kernel
theorem dX5_run_215 : decode cX5_run 215 = .ok (.getfield 75, 3) := by decide +kernel
theorem dX5_run_218 : decode cX5_run 218 = .ok (.iload 6, 2) := by decide +kernel
theorem dX5_run_220 : decode cX5_run 220 = .ok (.aload_n 0, 1) := by decide +kernel
theorem dX5_run_221 : decode cX5_run 221 = .ok (.aload_n 0, 1) := by decide +kernel
theorem dX5_run_222 : decode cX5_run 222 = .ok (.getfield 13, 3) := by decide +kernel
theorem dX5_run_225 : decode cX5_run 225 = .ok (.iload 7, 2) := by decide +kernel
theorem dX5_run_227 : decode cX5_run 227 = .ok (.iaload, 1) := by decide +kernel
theorem dX5_run_228 : decode cX5_run 228 = .ok (.iload 4, 2) := by decide +kernel
theorem dX5_run_230 : decode cX5_run 230 = .ok (.invokevirtual 129, 3) := by decide +kernel
theorem dX5_run_233 : decode cX5_run 233 = .ok (.ifCond .eq 13, 3) := by decide +kernel
theorem dX5_run_236 : decode cX5_run 236 = .ok (.aload_n 0, 1) := by decide +kernel
theorem dX5_run_237 : decode cX5_run 237 = .ok (.getfield 16, 3) := by decide +kernel
theorem dX5_run_240 : decode cX5_run 240 = .ok (.iload 7, 2) := by decide +kernel
theorem dX5_run_242 : decode cX5_run 242 = .ok (.iaload, 1) := by decide +kernel
theorem dX5_run_243 : decode cX5_run 243 = .ok (.goto 10, 3) := by decide +kernel
theorem dX5_run_246 : decode cX5_run 246 = .ok (.aload_n 0, 1) := by decide +kernel
theorem dX5_run_247 : decode cX5_run 247 = .ok (.getfield 19, 3) := by decide +kernel
theorem dX5_run_250 : decode cX5_run 250 = .ok (.iload 7, 2) := by decide +kernel
theorem dX5_run_252 : decode cX5_run 252 = .ok (.iaload, 1) := by decide +kernel
theorem dX5_run_253 : decode cX5_run 253 = .ok (.iastore, 1) := by decide +kernel
theorem dX5_run_254 : decode cX5_run 254 = .ok (.iinc 6 1, 3) := by decide +kernel
theorem dX5_run_257 : decode cX5_run 257 = .ok (.goto 62, 3) := by decide +kernel
theorem dX5_run_260 : decode cX5_run 260 = .ok (.aload_n 0, 1) := by decide +kernel
theorem dX5_run_261 : decode cX5_run 261 = .ok (.getfield 7, 3) := by decide +kernel
theorem dX5_run_264 : decode cX5_run 264 = .ok (.iload 7, 2) := by decide +kernel
theorem dX5_run_266 : decode cX5_run 266 = .ok (.iaload, 1) := by decide +kernel
theorem dX5_run_267 : decode cX5_run 267 = .ok (.bipush 15, 2) := by decide +kernel
theorem dX5_run_269 : decode cX5_run 269 = .ok (.if_icmp .ne 50, 3) := by decide +kernel
theorem dX5_run_272 : decode cX5_run 272 = .ok (.aload_n 0, 1) := by decide +kernel
theorem dX5_run_273 : decode cX5_run 273 = .ok (.aload_n 0, 1) := by decide +kernel
theorem dX5_run_274 : decode cX5_run 274 = .ok (.getfield 13, 3) := by decide +kernel
theorem dX5_run_277 : decode cX5_run 277 = .ok (.iload 7, 2) := by decide +kernel
theorem dX5_run_279 : decode cX5_run 279 = .ok (.iaload, 1) := by decide +kernel
theorem dX5_run_280 : decode cX5_run 280 = .ok (.iload 4, 2) := by decide +kernel
theorem dX5_run_282 : decode cX5_run 282 = .ok (.invokevirtual 129, 3) := by decide +kernel
theorem dX5_run_285 : decode cX5_run 285 = .ok (.ifCond .eq 34, 3) := by decide +kernel
theorem dX5_run_288 : decode cX5_run 288 = .ok (.aload_n 0, 1) := by decide +kernel
theorem dX5_run_289 : decode cX5_run 289 = .ok (.getfield 75, 3) := by decide +kernel
theorem dX5_run_292 : decode cX5_run 292 = .ok (.iload 6, 2) := by decide +kernel
theorem dX5_run_294 : decode cX5_run 294 = .ok (.bipush 100, 2) := by decide +kernel
theorem dX5_run_296 : decode cX5_run 296 = .ok (.iload 7, 2) := by decide +kernel
theorem dX5_run_298 : decode cX5_run 298 = .ok (.iadd, 1) := by decide +kernel
theorem dX5_run_299 : decode cX5_run 299 = .ok (.iastore, 1) := by decide +kernel
theorem dX5_run_300 : decode cX5_run 300 = .ok (.aload_n 0, 1) := by decide +kernel
theorem dX5_run_301 : decode cX5_run 301 = .ok (.getfield 75, 3) := by decide +kernel
theorem dX5_run_304 : decode cX5_run 304 = .ok (.iload 6, 2) := by decide +kernel
theorem dX5_run_306 : decode cX5_run 306 = .ok (.iconst 1, 1) := by decide +kernel
theorem dX5_run_307 : decode cX5_run 307 = .ok (.iadd, 1) := by decide +kernel
theorem dX5_run_308 : decode cX5_run 308 = .ok (.aload_n 0, 1) := by decide +kernel
theorem dX5_run_309 : decode cX5_run 309 = .ok (.getfield 19, 3) := by decide +kernel
theorem dX5_run_312 : decode cX5_run 312 = .ok (.iload 7, 2) := by decide +kernel
theorem dX5_run_314 : decode cX5_run 314 = .ok (.iaload, 1) := by decide +kernel
theorem dX5_run_315 : decode cX5_run 315 = .ok (.iastore, 1) := by decide +kernel
theorem dX5_run_316 : decode cX5_run 316 = .ok (.iinc 6 2, 3) := by decide +kernel
theorem dX5_run_319 : decode cX5_run 319 = .ok (.goto (-262), 3) := by decide +kernel
theorem dX5_run_322 : decode cX5_run 322 = .ok (.iload 4, 2) := by decide +kernel
theorem dX5_run_324 : decode cX5_run 324 = .ok (.ireturn, 1) := by decide +kernel
theorem dX5_newTarget_0 : decode cX5_newTarget 0 = .ok (.aload_n 0, 1) := by decide +kernel
theorem dX5_newTarget_1 : decode cX5_newTarget 1 = .ok (.getfield 56, 3) := by decide +kernel
theorem dX5_newTarget_4 : decode cX5_newTarget 4 = .ok (.aload_n 0, 1) := by decide +kernel
theorem dX5_newTarget_5 : decode cX5_newTarget 5 = .ok (.getfield 136, 3) := by decide +kernel
theorem dX5_newTarget_8 : decode cX5_newTarget 8 = .ok (.iload_n 1, 1) := by decide +kernel
theorem dX5_newTarget_9 : decode cX5_newTarget 9 = .ok (.iastore, 1) := by decide +kernel
theorem dX5_newTarget_10 : decode cX5_newTarget 10 = .ok (.aload_n 0, 1) := by decide +kernel
theorem dX5_newTarget_11 : decode cX5_newTarget 11 = .ok (.getfield 59, 3) := by decide +kernel
theorem dX5_newTarget_14 : decode cX5_newTarget 14 = .ok (.aload_n 0, 1) := by decide +kernel
theorem dX5_newTarget_15 : decode cX5_newTarget 15 = .ok (.getfield 136, 3) := by decide +kernel
theorem dX5_newTarget_18 : decode cX5_newTarget 18 = .ok (.iload_n 2, 1) := by decide +kernel
theorem dX5_newTarget_19 : decode cX5_newTarget 19 = .ok (.iastore, 1) := by decide +kernel
theorem dX5_newTarget_20 : decode cX5_newTarget 20 = .ok (.aload_n 0, 1) := by decide +kernel
theorem dX5_newTarget_21 : decode cX5_newTarget 21 = .ok (.dup, 1) := by decide +kernel
theorem dX5_newTarget_22 : decode cX5_newTarget 22 = .ok (.getfield 136, 3) := by decide +kernel
theorem dX5_newTarget_25 : decode cX5_newTarget 25 = .ok (.iconst 1, 1) := by decide +kernel
theorem dX5_newTarget_26 : decode cX5_newTarget 26 = .ok (.iadd, 1) := by decide +kernel
theorem dX5_newTarget_27 : decode cX5_newTarget 27 = .ok (.putfield 136, 3) := by decide +kernel
theorem dX5_newTarget_30 : decode cX5_newTarget 30 = .ok (.aload_n 0, 1) := by decide +kernel
theorem dX5_newTarget_31 : decode cX5_newTarget 31 = .ok (.getfield 136, 3) := by decide +kernel
theorem dX5_newTarget_34 : decode cX5_newTarget 34 = .ok (.iconst 1, 1) := by decide +kernel
theorem dX5_newTarget_35 : decode cX5_newTarget 35 = .ok (.isub, 1) := by decide +kernel
theorem dX5_newTarget_36 : decode cX5_newTarget 36 = .ok (.ireturn, 1) := by decide +kernel
theorem dX5_duty_0 : decode cX5_duty 0 = .ok (.aload_n 0, 1) := by decide +kernel
theorem dX5_duty_1 : decode cX5_duty 1 = .ok (.getfield 139, 3) := by decide +kernel
theorem dX5_duty_4 : decode cX5_duty 4 = .ok (.bipush 20, 2) := by decide +kernel
theorem dX5_duty_6 : decode cX5_duty 6 = .ok (.if_icmp .ge 33, 3) := by decide +kernel
theorem dX5_duty_9 : decode cX5_duty 9 = .ok (.aload_n 0, 1) := by decide +kernel
theorem dX5_duty_10 : decode cX5_duty 10 = .ok (.getfield 47, 3) := by decide +kernel
theorem dX5_duty_13 : decode cX5_duty 13 = .ok (.aload_n 0, 1) := by decide +kernel
theorem dX5_duty_14 : decode cX5_duty 14 = .ok (.getfield 139, 3) := by decide +kernel
theorem dX5_duty_17 : decode cX5_duty 17 = .ok (.iload_n 1, 1) := by decide +kernel
theorem dX5_duty_18 : decode cX5_duty 18 = .ok (.iastore, 1) := by decide +kernel
theorem dX5_duty_19 : decode cX5_duty 19 = .ok (.aload_n 0, 1) := by decide +kernel
theorem dX5_duty_20 : decode cX5_duty 20 = .ok (.getfield 50, 3) := by decide +kernel
theorem dX5_duty_23 : decode cX5_duty 23 = .ok (.aload_n 0, 1) := by decide +kernel
theorem dX5_duty_24 : decode cX5_duty 24 = .ok (.getfield 139, 3) := by decide +kernel
theorem dX5_duty_27 : decode cX5_duty 27 = .ok (.iload_n 2, 1) := by decide +kernel
theorem dX5_duty_28 : decode cX5_duty 28 = .ok (.iastore, 1) := by decide +kernel
theorem dX5_duty_29 : decode cX5_duty 29 = .ok (.aload_n 0, 1) := by decide +kernel
theorem dX5_duty_30 : decode cX5_duty 30 = .ok (.getfield 53, 3) := by decide +kernel
theorem dX5_duty_33 : decode cX5_duty 33 = .ok (.aload_n 0, 1) := by decide +kernel
theorem dX5_duty_34 : decode cX5_duty 34 = .ok (.getfield 139, 3) := by decide +kernel
theorem dX5_duty_37 : decode cX5_duty 37 = .ok (.iload_n 3, 1) := by decide +kernel
theorem dX5_duty_38 : decode cX5_duty 38 = .ok (.iastore, 1) := by decide +kernel
theorem dX5_duty_39 : decode cX5_duty 39 = .ok (.aload_n 0, 1) := by decide +kernel
theorem dX5_duty_40 : decode cX5_duty 40 = .ok (.dup, 1) := by decide +kernel
theorem dX5_duty_41 : decode cX5_duty 41 = .ok (.getfield 139, 3) := by decide +kernel
theorem dX5_duty_44 : decode cX5_duty 44 = .ok (.iconst 1, 1) := by decide +kernel
theorem dX5_duty_45 : decode cX5_duty 45 = .ok (.iadd, 1) := by decide +kernel
theorem dX5_duty_46 : decode cX5_duty 46 = .ok (.putfield 139, 3) := by decide +kernel
theorem dX5_duty_49 : decode cX5_duty 49 = .ok (.return_, 1) := by decide +kernel
theorem dX5_makeDuties_0 : decode cX5_makeDuties 0 = .ok (.aload_n 0, 1) := by decide +kernel
theorem dX5_makeDuties_1 : decode cX5_makeDuties 1 = .ok (.iconst 0, 1) := by decide +kernel
theorem dX5_makeDuties_2 : decode cX5_makeDuties 2 = .ok (.putfield 139, 3) := by decide +kernel
theorem dX5_makeDuties_5 : decode cX5_makeDuties 5 = .ok (.aload_n 0, 1) := by decide +kernel
theorem dX5_makeDuties_6 : decode cX5_makeDuties 6 = .ok (.iconst 0, 1) := by decide +kernel
theorem dX5_makeDuties_7 : decode cX5_makeDuties 7 = .ok (.putfield 136, 3) := by decide +kernel
theorem dX5_makeDuties_10 : decode cX5_makeDuties 10 = .ok (.aload_n 0, 1) := by decide +kernel
theorem dX5_makeDuties_11 : decode cX5_makeDuties 11 = .ok (.iconst (-1), 1) := by decide +kernel
theorem dX5_makeDuties_12 : decode cX5_makeDuties 12 = .ok (.iload_n 3, 1) := by decide +kernel
theorem dX5_makeDuties_13 : decode cX5_makeDuties 13 = .ok (.invokevirtual 142, 3) := by decide +kernel
theorem dX5_makeDuties_16 : decode cX5_makeDuties 16 = .ok (.istore 4, 2) := by decide +kernel
theorem dX5_makeDuties_18 : decode cX5_makeDuties 18 = .ok (.aload_n 0, 1) := by decide +kernel
theorem dX5_makeDuties_19 : decode cX5_makeDuties 19 = .ok (.iconst 0, 1) := by decide +kernel
theorem dX5_makeDuties_20 : decode cX5_makeDuties 20 = .ok (.iload_n 1, 1) := by decide +kernel
theorem dX5_makeDuties_21 : decode cX5_makeDuties 21 = .ok (.aload_n 0, 1) := by decide +kernel
theorem dX5_makeDuties_22 : decode cX5_makeDuties 22 = .ok (.iload_n 2, 1) := by decide +kernel
theorem dX5_makeDuties_23 : decode cX5_makeDuties 23 = .ok (.iload 4, 2) := by decide +kernel
theorem dX5_makeDuties_25 : decode cX5_makeDuties 25 = .ok (.invokevirtual 142, 3) := by decide +kernel
theorem dX5_makeDuties_28 : decode cX5_makeDuties 28 = .ok (.invokevirtual 144, 3) := by decide +kernel
theorem dX5_makeDuties_31 : decode cX5_makeDuties 31 = .ok (.iconst 1, 1) := by decide +kernel
theorem dX5_makeDuties_32 : decode cX5_makeDuties 32 = .ok (.istore 5, 2) := by decide +kernel
theorem dX5_makeDuties_34 : decode cX5_makeDuties 34 = .ok (.aload_n 0, 1) := by decide +kernel
theorem dX5_makeDuties_35 : decode cX5_makeDuties 35 = .ok (.getfield 62, 3) := by decide +kernel
theorem dX5_makeDuties_38 : decode cX5_makeDuties 38 = .ok (.iconst 0, 1) := by decide +kernel
theorem dX5_makeDuties_39 : decode cX5_makeDuties 39 = .ok (.iload_n 2, 1) := by decide +kernel
theorem dX5_makeDuties_40 : decode cX5_makeDuties 40 = .ok (.iastore, 1) := by decide +kernel
theorem dX5_makeDuties_41 : decode cX5_makeDuties 41 = .ok (.aload_n 0, 1) := by decide +kernel
theorem dX5_makeDuties_42 : decode cX5_makeDuties 42 = .ok (.getfield 65, 3) := by decide +kernel
theorem dX5_makeDuties_45 : decode cX5_makeDuties 45 = .ok (.iconst 0, 1) := by decide +kernel
theorem dX5_makeDuties_46 : decode cX5_makeDuties 46 = .ok (.iload 4, 2) := by decide +kernel
theorem dX5_makeDuties_48 : decode cX5_makeDuties 48 = .ok (.iastore, 1) := by decide +kernel
theorem dX5_makeDuties_49 : decode cX5_makeDuties 49 = .ok (.iload 5, 2) := by decide +kernel
theorem dX5_makeDuties_51 : decode cX5_makeDuties 51 = .ok (.ifCond .le 217, 3) := by decide +kernel
theorem dX5_makeDuties_54 : decode cX5_makeDuties 54 = .ok (.aload_n 0, 1) := by decide +kernel
theorem dX5_makeDuties_55 : decode cX5_makeDuties 55 = .ok (.getfield 139, 3) := by decide +kernel
theorem dX5_makeDuties_58 : decode cX5_makeDuties 58 = .ok (.bipush 16, 2) := by decide +kernel
theorem dX5_makeDuties_60 : decode cX5_makeDuties 60 = .ok (.if_icmp .gt 208, 3) := by decide +kernel
theorem dX5_makeDuties_63 : decode cX5_makeDuties 63 = .ok (.iinc 5 (-1), 3) := by decide +kernel
theorem dX5_makeDuties_66 : decode cX5_makeDuties 66 = .ok (.aload_n 0, 1) := by decide +kernel
theorem dX5_makeDuties_67 : decode cX5_makeDuties 67 = .ok (.getfield 62, 3) := by decide +kernel
theorem dX5_makeDuties_70 : decode cX5_makeDuties 70 = .ok (.iload 5, 2) := by decide +kernel
theorem dX5_makeDuties_72 : decode cX5_makeDuties 72 = .ok (.iaload, 1) := by decide +kernel
theorem dX5_makeDuties_73 : decode cX5_makeDuties 73 = .ok (.istore 6, 2) := by decide +kernel
theorem dX5_makeDuties_75 : decode cX5_makeDuties 75 = .ok (.aload_n 0, 1) := by decide +kernel
theorem dX5_makeDuties_76 : decode cX5_makeDuties 76 = .ok (.getfield 65, 3) := by decide +kernel
theorem dX5_makeDuties_79 : decode cX5_makeDuties 79 = .ok (.iload 5, 2) := by decide +kernel
theorem dX5_makeDuties_81 : decode cX5_makeDuties 81 = .ok (.iaload, 1) := by decide +kernel
theorem dX5_makeDuties_82 : decode cX5_makeDuties 82 = .ok (.istore 7, 2) := by decide +kernel
theorem dX5_makeDuties_84 : decode cX5_makeDuties 84 = .ok (.aload_n 0, 1) := by decide +kernel
theorem dX5_makeDuties_85 : decode cX5_makeDuties 85 = .ok (.getfield 7, 3) := by decide +kernel
theorem dX5_makeDuties_88 : decode cX5_makeDuties 88 = .ok (.iload 6, 2) := by decide +kernel
theorem dX5_makeDuties_90 : decode cX5_makeDuties 90 = .ok (.iaload, 1) := by decide +kernel
theorem dX5_makeDuties_91 : decode cX5_makeDuties 91 = .ok (.bipush 13, 2) := by decide +kernel
theorem dX5_makeDuties_93 : decode cX5_makeDuties 93 = .ok (.if_icmp .ne 51, 3) := by decide +kernel
theorem dX5_makeDuties_96 : decode cX5_makeDuties 96 = .ok (.aload_n 0, 1) := by decide +kernel
theorem dX5_makeDuties_97 : decode cX5_makeDuties 97 = .ok (.iload 5, 2) := by decide +kernel
theorem dX5_makeDuties_99 : decode cX5_makeDuties 99 = .ok (.aload_n 0, 1) := by decide +kernel
theorem dX5_makeDuties_100 : decode cX5_makeDuties 100 = .ok (.getfield 16, 3) := by decide +kernel
theorem dX5_makeDuties_103 : decode cX5_makeDuties 103 = .ok (.iload 6, 2) := by decide +kernel
theorem dX5_makeDuties_105 : decode cX5_makeDuties 105 = .ok (.iaload, 1) := by decide +kernel
theorem dX5_makeDuties_106 : decode cX5_makeDuties 106 = .ok (.iload 7, 2) := by decide +kernel
theorem dX5_makeDuties_108 : decode cX5_makeDuties 108 = .ok (.invokevirtual 148, 3) := by decide +kernel
theorem dX5_makeDuties_111 : decode cX5_makeDuties 111 = .ok (.istore 5, 2) := by decide +kernel
theorem dX5_makeDuties_113 : decode cX5_makeDuties 113 = .ok (.aload_n 0, 1) := by decide +kernel
theorem dX5_makeDuties_114 : decode cX5_makeDuties 114 = .ok (.iload 5, 2) := by decide +kernel
theorem dX5_makeDuties_116 : decode cX5_makeDuties 116 = .ok (.aload_n 0, 1) := by decide +kernel
theorem dX5_makeDuties_117 : decode cX5_makeDuties 117 = .ok (.getfield 13, 3) := by decide +kernel
theorem dX5_makeDuties_120 : decode cX5_makeDuties 120 = .ok (.iload 6, 2) := by decide +kernel
theorem dX5_makeDuties_122 : decode cX5_makeDuties 122 = .ok (.iaload, 1) := by decide +kernel
theorem dX5_makeDuties_123 : decode cX5_makeDuties 123 = .ok (.aload_n 0, 1) := by decide +kernel
theorem dX5_makeDuties_124 : decode cX5_makeDuties 124 = .ok (.aload_n 0, 1) := by decide +kernel
theorem dX5_makeDuties_125 : decode cX5_makeDuties 125 = .ok (.getfield 16, 3) := by decide +kernel
theorem dX5_makeDuties_128 : decode cX5_makeDuties 128 = .ok (.iload 6, 2) := by decide +kernel
theorem dX5_makeDuties_130 : decode cX5_makeDuties 130 = .ok (.iaload, 1) := by decide +kernel
theorem dX5_makeDuties_131 : decode cX5_makeDuties 131 = .ok (.iload 7, 2) := by decide +kernel
theorem dX5_makeDuties_133 : decode cX5_makeDuties 133 = .ok (.invokevirtual 142, 3) := by decide +kernel
theorem dX5_makeDuties_136 : decode cX5_makeDuties 136 = .ok (.invokevirtual 148, 3) := by decide +kernel
theorem dX5_makeDuties_139 : decode cX5_makeDuties 139 = .ok (.istore 5, 2) := by decide +kernel
theorem dX5_makeDuties_141 : decode cX5_makeDuties 141 = .ok (.goto 124, 3) := by decide +kernel
theorem dX5_makeDuties_144 : decode cX5_makeDuties 144 = .ok (.aload_n 0, 1) := by decide +kernel
theorem dX5_makeDuties_145 : decode cX5_makeDuties 145 = .ok (.getfield 7, 3) := by decide +kernel
theorem dX5_makeDuties_148 : decode cX5_makeDuties 148 = .ok (.iload 6, 2) := by decide +kernel
theorem dX5_makeDuties_150 : decode cX5_makeDuties 150 = .ok (.iaload, 1) := by decide +kernel
theorem dX5_makeDuties_151 : decode cX5_makeDuties 151 = .ok (.bipush 14, 2) := by decide +kernel
theorem dX5_makeDuties_153 : decode cX5_makeDuties 153 = .ok (.if_icmp .ne 40, 3) := by decide +kernel
theorem dX5_makeDuties_156 : decode cX5_makeDuties 156 = .ok (.aload_n 0, 1) := by decide +kernel
theorem dX5_makeDuties_157 : decode cX5_makeDuties 157 = .ok (.iload 5, 2) := by decide +kernel
theorem dX5_makeDuties_159 : decode cX5_makeDuties 159 = .ok (.aload_n 0, 1) := by decide +kernel
theorem dX5_makeDuties_160 : decode cX5_makeDuties 160 = .ok (.getfield 19, 3) := by decide +kernel
theorem dX5_makeDuties_163 : decode cX5_makeDuties 163 = .ok (.iload 6, 2) := by decide +kernel
theorem dX5_makeDuties_165 : decode cX5_makeDuties 165 = .ok (.iaload, 1) := by decide +kernel
theorem dX5_makeDuties_166 : decode cX5_makeDuties 166 = .ok (.iload 7, 2) := by decide +kernel
theorem dX5_makeDuties_168 : decode cX5_makeDuties 168 = .ok (.invokevirtual 148, 3) := by decide +kernel
theorem dX5_makeDuties_171 : decode cX5_makeDuties 171 = .ok (.istore 5, 2) := by decide +kernel
theorem dX5_makeDuties_173 : decode cX5_makeDuties 173 = .ok (.aload_n 0, 1) := by decide +kernel
theorem dX5_makeDuties_174 : decode cX5_makeDuties 174 = .ok (.iload 5, 2) := by decide +kernel
theorem dX5_makeDuties_176 : decode cX5_makeDuties 176 = .ok (.aload_n 0, 1) := by decide +kernel
theorem dX5_makeDuties_177 : decode cX5_makeDuties 177 = .ok (.getfield 16, 3) := by decide +kernel
theorem dX5_makeDuties_180 : decode cX5_makeDuties 180 = .ok (.iload 6, 2) := by decide +kernel
theorem dX5_makeDuties_182 : decode cX5_makeDuties 182 = .ok (.iaload, 1) := by decide +kernel
theorem dX5_makeDuties_183 : decode cX5_makeDuties 183 = .ok (.iload 7, 2) := by decide +kernel
theorem dX5_makeDuties_185 : decode cX5_makeDuties 185 = .ok (.invokevirtual 148, 3) := by decide +kernel
theorem dX5_makeDuties_188 : decode cX5_makeDuties 188 = .ok (.istore 5, 2) := by decide +kernel
theorem dX5_makeDuties_190 : decode cX5_makeDuties 190 = .ok (.goto 75, 3) := by decide +kernel
theorem dX5_makeDuties_193 : decode cX5_makeDuties 193 = .ok (.aload_n 0, 1) := by decide +kernel
theorem dX5_makeDuties_194 : decode cX5_makeDuties 194 = .ok (.getfield 7, 3) := by decide +kernel
theorem dX5_makeDuties_197 : decode cX5_makeDuties 197 = .ok (.iload 6, 2) := by decide +kernel
theorem dX5_makeDuties_199 : decode cX5_makeDuties 199 = .ok (.iaload, 1) := by decide +kernel
theorem dX5_makeDuties_200 : decode cX5_makeDuties 200 = .ok (.bipush 15, 2) := by decide +kernel
theorem dX5_makeDuties_202 : decode cX5_makeDuties 202 = .ok (.if_icmp .ne 63, 3) := by decide +kernel
theorem dX5_makeDuties_205 : decode cX5_makeDuties 205 = .ok (.aload_n 0, 1) := by decide +kernel
theorem dX5_makeDuties_206 : decode cX5_makeDuties 206 = .ok (.iconst (-1), 1) := by decide +kernel
theorem dX5_makeDuties_207 : decode cX5_makeDuties 207 = .ok (.aload_n 0, 1) := by decide +kernel
theorem dX5_makeDuties_208 : decode cX5_makeDuties 208 = .ok (.getfield 16, 3) := by decide +kernel
theorem dX5_makeDuties_211 : decode cX5_makeDuties 211 = .ok (.iload 6, 2) := by decide +kernel
theorem dX5_makeDuties_213 : decode cX5_makeDuties 213 = .ok (.iaload, 1) := by decide +kernel
theorem dX5_makeDuties_214 : decode cX5_makeDuties 214 = .ok (.invokevirtual 142, 3) := by decide +kernel
theorem dX5_makeDuties_217 : decode cX5_makeDuties 217 = .ok (.istore 8, 2) := by decide +kernel
theorem dX5_makeDuties_219 : decode cX5_makeDuties 219 = .ok (.aload_n 0, 1) := by decide +kernel
theorem dX5_makeDuties_220 : decode cX5_makeDuties 220 = .ok (.iconst 1, 1) := by decide +kernel
theorem dX5_makeDuties_221 : decode cX5_makeDuties 221 = .ok (.iload 6, 2) := by decide +kernel
theorem dX5_makeDuties_223 : decode cX5_makeDuties 223 = .ok (.aload_n 0, 1) := by decide +kernel
theorem dX5_makeDuties_224 : decode cX5_makeDuties 224 = .ok (.aload_n 0, 1) := by decide +kernel
theorem dX5_makeDuties_225 : decode cX5_makeDuties 225 = .ok (.getfield 19, 3) := by decide +kernel
theorem dX5_makeDuties_228 : decode cX5_makeDuties 228 = .ok (.iload 6, 2) := by decide +kernel
theorem dX5_makeDuties_230 : decode cX5_makeDuties 230 = .ok (.iaload, 1) := by decide +kernel
theorem dX5_makeDuties_231 : decode cX5_makeDuties 231 = .ok (.iload 8, 2) := by decide +kernel
theorem dX5_makeDuties_233 : decode cX5_makeDuties 233 = .ok (.invokevirtual 142, 3) := by decide +kernel
theorem dX5_makeDuties_236 : decode cX5_makeDuties 236 = .ok (.invokevirtual 144, 3) := by decide +kernel
theorem dX5_makeDuties_239 : decode cX5_makeDuties 239 = .ok (.aload_n 0, 1) := by decide +kernel
theorem dX5_makeDuties_240 : decode cX5_makeDuties 240 = .ok (.iconst 2, 1) := by decide +kernel
theorem dX5_makeDuties_241 : decode cX5_makeDuties 241 = .ok (.iload 6, 2) := by decide +kernel
theorem dX5_makeDuties_243 : decode cX5_makeDuties 243 = .ok (.iload 7, 2) := by decide +kernel
theorem dX5_makeDuties_245 : decode cX5_makeDuties 245 = .ok (.invokevirtual 144, 3) := by decide +kernel
theorem dX5_makeDuties_248 : decode cX5_makeDuties 248 = .ok (.aload_n 0, 1) := by decide +kernel
theorem dX5_makeDuties_249 : decode cX5_makeDuties 249 = .ok (.iload 5, 2) := by decide +kernel
theorem dX5_makeDuties_251 : decode cX5_makeDuties 251 = .ok (.aload_n 0, 1) := by decide +kernel
theorem dX5_makeDuties_252 : decode cX5_makeDuties 252 = .ok (.getfield 19, 3) := by decide +kernel
theorem dX5_makeDuties_255 : decode cX5_makeDuties 255 = .ok (.iload 6, 2) := by decide +kernel
theorem dX5_makeDuties_257 : decode cX5_makeDuties 257 = .ok (.iaload, 1) := by decide +kernel
theorem dX5_makeDuties_258 : decode cX5_makeDuties 258 = .ok (.iload 8, 2) := by decide +kernel
theorem dX5_makeDuties_260 : decode cX5_makeDuties 260 = .ok (.invokevirtual 148, 3) := by decide +kernel
theorem dX5_makeDuties_263 : decode cX5_makeDuties 263 = .ok (.istore 5, 2) := by decide +kernel
theorem dX5_makeDuties_265 : decode cX5_makeDuties 265 = .ok (.goto (-216), 3) := by decide +kernel
theorem dX5_makeDuties_268 : decode cX5_makeDuties 268 = .ok (.return_, 1) := by decide +kernel
theorem dX5_open_0 : decode cX5_open 0 = .ok (.aload_n 0, 1) := by decide +kernel
theorem dX5_open_1 : decode cX5_open 1 = .ok (.getfield 62, 3) := by decide +kernel
theorem dX5_open_4 : decode cX5_open 4 = .ok (.iload_n 1, 1) := by decide +kernel
theorem dX5_open_5 : decode cX5_open 5 = .ok (.iload_n 2, 1) := by decide +kernel
theorem dX5_open_6 : decode cX5_open 6 = .ok (.iastore, 1) := by decide +kernel
theorem dX5_open_7 : decode cX5_open 7 = .ok (.aload_n 0, 1) := by decide +kernel
theorem dX5_open_8 : decode cX5_open 8 = .ok (.getfield 65, 3) := by decide +kernel
theorem dX5_open_11 : decode cX5_open 11 = .ok (.iload_n 1, 1) := by decide +kernel
theorem dX5_open_12 : decode cX5_open 12 = .ok (.iload_n 3, 1) := by decide +kernel
theorem dX5_open_13 : decode cX5_open 13 = .ok (.iastore, 1) := by decide +kernel
theorem dX5_open_14 : decode cX5_open 14 = .ok (.iload_n 1, 1) := by decide +kernel
theorem dX5_open_15 : decode cX5_open 15 = .ok (.iconst 1, 1) := by decide +kernel
theorem dX5_open_16 : decode cX5_open 16 = .ok (.iadd, 1) := by decide +kernel
theorem dX5_open_17 : decode cX5_open 17 = .ok (.ireturn, 1) := by decide +kernel
theorem dX5_promise_0 : decode cX5_promise 0 = .ok (.aload_n 0, 1) := by decide +kernel
theorem dX5_promise_1 : decode cX5_promise 1 = .ok (.iconst 0, 1) := by decide +kernel
theorem dX5_promise_2 : decode cX5_promise 2 = .ok (.putfield 78, 3) := by decide +kernel
theorem dX5_promise_5 : decode cX5_promise 5 = .ok (.aload_n 0, 1) := by decide +kernel
theorem dX5_promise_6 : decode cX5_promise 6 = .ok (.iload_n 1, 1) := by decide +kernel
theorem dX5_promise_7 : decode cX5_promise 7 = .ok (.invokevirtual 96, 3) := by decide +kernel
theorem dX5_promise_10 : decode cX5_promise 10 = .ok (.ifCond .eq 19, 3) := by decide +kernel
theorem dX5_promise_13 : decode cX5_promise 13 = .ok (.aload_n 0, 1) := by decide +kernel
theorem dX5_promise_14 : decode cX5_promise 14 = .ok (.iload_n 2, 1) := by decide +kernel
theorem dX5_promise_15 : decode cX5_promise 15 = .ok (.invokevirtual 99, 3) := by decide +kernel
theorem dX5_promise_18 : decode cX5_promise 18 = .ok (.ifCond .eq 11, 3) := by decide +kernel
theorem dX5_promise_21 : decode cX5_promise 21 = .ok (.aload_n 0, 1) := by decide +kernel
theorem dX5_promise_22 : decode cX5_promise 22 = .ok (.iload_n 3, 1) := by decide +kernel
theorem dX5_promise_23 : decode cX5_promise 23 = .ok (.invokevirtual 96, 3) := by decide +kernel
theorem dX5_promise_26 : decode cX5_promise 26 = .ok (.ifCond .ne 9, 3) := by decide +kernel
theorem dX5_promise_29 : decode cX5_promise 29 = .ok (.aload_n 0, 1) := by decide +kernel
theorem dX5_promise_30 : decode cX5_promise 30 = .ok (.iconst 1, 1) := by decide +kernel
theorem dX5_promise_31 : decode cX5_promise 31 = .ok (.invokevirtual 106, 3) := by decide +kernel
theorem dX5_promise_34 : decode cX5_promise 34 = .ok (.ireturn, 1) := by decide +kernel
theorem dX5_promise_35 : decode cX5_promise 35 = .ok (.aload_n 0, 1) := by decide +kernel
theorem dX5_promise_36 : decode cX5_promise 36 = .ok (.iload_n 1, 1) := by decide +kernel
theorem dX5_promise_37 : decode cX5_promise 37 = .ok (.iload_n 2, 1) := by decide +kernel
theorem dX5_promise_38 : decode cX5_promise 38 = .ok (.iload_n 3, 1) := by decide +kernel
theorem dX5_promise_39 : decode cX5_promise 39 = .ok (.invokevirtual 152, 3) := by decide +kernel
theorem dX5_promise_42 : decode cX5_promise 42 = .ok (.aload_n 0, 1) := by decide +kernel
theorem dX5_promise_43 : decode cX5_promise 43 = .ok (.getfield 139, 3) := by decide +kernel
theorem dX5_promise_46 : decode cX5_promise 46 = .ok (.bipush 16, 2) := by decide +kernel
theorem dX5_promise_48 : decode cX5_promise 48 = .ok (.if_icmp .le 9, 3) := by decide +kernel
theorem dX5_promise_51 : decode cX5_promise 51 = .ok (.aload_n 0, 1) := by decide +kernel
theorem dX5_promise_52 : decode cX5_promise 52 = .ok (.iconst 2, 1) := by decide +kernel
theorem dX5_promise_53 : decode cX5_promise 53 = .ok (.invokevirtual 106, 3) := by decide +kernel
theorem dX5_promise_56 : decode cX5_promise 56 = .ok (.ireturn, 1) := by decide +kernel
theorem dX5_promise_57 : decode cX5_promise 57 = .ok (.aload_n 0, 1) := by decide +kernel
theorem dX5_promise_58 : decode cX5_promise 58 = .ok (.aload_n 0, 1) := by decide +kernel
theorem dX5_promise_59 : decode cX5_promise 59 = .ok (.getfield 139, 3) := by decide +kernel
theorem dX5_promise_62 : decode cX5_promise 62 = .ok (.putfield 155, 3) := by decide +kernel
theorem dX5_promise_65 : decode cX5_promise 65 = .ok (.aload_n 0, 1) := by decide +kernel
theorem dX5_promise_66 : decode cX5_promise 66 = .ok (.aload_n 0, 1) := by decide +kernel
theorem dX5_promise_67 : decode cX5_promise 67 = .ok (.getfield 136, 3) := by decide +kernel
theorem dX5_promise_70 : decode cX5_promise 70 = .ok (.putfield 158, 3) := by decide +kernel
theorem dX5_promise_73 : decode cX5_promise 73 = .ok (.iconst 0, 1) := by decide +kernel
theorem dX5_promise_74 : decode cX5_promise 74 = .ok (.istore 4, 2) := by decide +kernel
theorem dX5_promise_76 : decode cX5_promise 76 = .ok (.iload 4, 2) := by decide +kernel
theorem dX5_promise_78 : decode cX5_promise 78 = .ok (.aload_n 0, 1) := by decide +kernel
theorem dX5_promise_79 : decode cX5_promise 79 = .ok (.getfield 155, 3) := by decide +kernel
theorem dX5_promise_82 : decode cX5_promise 82 = .ok (.if_icmp .ge 59, 3) := by decide +kernel
theorem dX5_promise_85 : decode cX5_promise 85 = .ok (.aload_n 0, 1) := by decide +kernel
theorem dX5_promise_86 : decode cX5_promise 86 = .ok (.getfield 38, 3) := by decide +kernel
theorem dX5_promise_89 : decode cX5_promise 89 = .ok (.iload 4, 2) := by decide +kernel
theorem dX5_promise_91 : decode cX5_promise 91 = .ok (.aload_n 0, 1) := by decide +kernel
theorem dX5_promise_92 : decode cX5_promise 92 = .ok (.getfield 47, 3) := by decide +kernel
theorem dX5_promise_95 : decode cX5_promise 95 = .ok (.iload 4, 2) := by decide +kernel
theorem dX5_promise_97 : decode cX5_promise 97 = .ok (.iaload, 1) := by decide +kernel
theorem dX5_promise_98 : decode cX5_promise 98 = .ok (.iastore, 1) := by decide +kernel
theorem dX5_promise_99 : decode cX5_promise 99 = .ok (.aload_n 0, 1) := by decide +kernel
theorem dX5_promise_100 : decode cX5_promise 100 = .ok (.getfield 41, 3) := by decide +kernel
theorem dX5_promise_103 : decode cX5_promise 103 = .ok (.iload 4, 2) := by decide +kernel
theorem dX5_promise_105 : decode cX5_promise 105 = .ok (.aload_n 0, 1) := by decide +kernel
theorem dX5_promise_106 : decode cX5_promise 106 = .ok (.getfield 50, 3) := by decide +kernel
theorem dX5_promise_109 : decode cX5_promise 109 = .ok (.iload 4, 2) := by decide +kernel
theorem dX5_promise_111 : decode cX5_promise 111 = .ok (.iaload, 1) := by decide +kernel
theorem dX5_promise_112 : decode cX5_promise 112 = .ok (.iastore, 1) := by decide +kernel
theorem dX5_promise_113 : decode cX5_promise 113 = .ok (.aload_n 0, 1) := by decide +kernel
theorem dX5_promise_114 : decode cX5_promise 114 = .ok (.getfield 44, 3) := by decide +kernel
theorem dX5_promise_117 : decode cX5_promise 117 = .ok (.iload 4, 2) := by decide +kernel
theorem dX5_promise_119 : decode cX5_promise 119 = .ok (.aload_n 0, 1) := by decide +kernel
theorem dX5_promise_120 : decode cX5_promise 120 = .ok (.getfield 53, 3) := by decide +kernel
theorem dX5_promise_123 : decode cX5_promise 123 = .ok (.iload 4, 2) := by decide +kernel
theorem dX5_promise_125 : decode cX5_promise 125 = .ok (.iaload, 1) := by decide +kernel
theorem dX5_promise_126 : decode cX5_promise 126 = .ok (.iastore, 1) := by decide +kernel
theorem dX5_promise_127 : decode cX5_promise 127 = .ok (.aload_n 0, 1) := by decide +kernel
theorem dX5_promise_128 : decode cX5_promise 128 = .ok (.getfield 68, 3) := by decide +kernel
theorem dX5_promise_131 : decode cX5_promise 131 = .ok (.iload 4, 2) := by decide +kernel
theorem dX5_promise_133 : decode cX5_promise 133 = .ok (.iconst 0, 1) := by decide +kernel
theorem dX5_promise_134 : decode cX5_promise 134 = .ok (.bastore, 1) := by decide +kernel
theorem dX5_promise_135 : decode cX5_promise 135 = .ok (.iinc 4 1, 3) := by decide +kernel
theorem dX5_promise_138 : decode cX5_promise 138 = .ok (.goto (-62), 3) := by decide +kernel
theorem dX5_promise_141 : decode cX5_promise 141 = .ok (.iconst 0, 1) := by decide +kernel
theorem dX5_promise_142 : decode cX5_promise 142 = .ok (.istore 4, 2) := by decide +kernel
theorem dX5_promise_144 : decode cX5_promise 144 = .ok (.iload 4, 2) := by decide +kernel
theorem dX5_promise_146 : decode cX5_promise 146 = .ok (.aload_n 0, 1) := by decide +kernel
theorem dX5_promise_147 : decode cX5_promise 147 = .ok (.getfield 158, 3) := by decide +kernel
theorem dX5_promise_150 : decode cX5_promise 150 = .ok (.if_icmp .ge 37, 3) := by decide +kernel
theorem dX5_promise_153 : decode cX5_promise 153 = .ok (.aload_n 0, 1) := by decide +kernel
theorem dX5_promise_154 : decode cX5_promise 154 = .ok (.getfield 32, 3) := by decide +kernel
theorem dX5_promise_157 : decode cX5_promise 157 = .ok (.iload 4, 2) := by decide +kernel
theorem dX5_promise_159 : decode cX5_promise 159 = .ok (.aload_n 0, 1) := by decide +kernel
theorem dX5_promise_160 : decode cX5_promise 160 = .ok (.getfield 56, 3) := by decide +kernel
theorem dX5_promise_163 : decode cX5_promise 163 = .ok (.iload 4, 2) := by decide +kernel
theorem dX5_promise_165 : decode cX5_promise 165 = .ok (.iaload, 1) := by decide +kernel
theorem dX5_promise_166 : decode cX5_promise 166 = .ok (.iastore, 1) := by decide +kernel
theorem dX5_promise_167 : decode cX5_promise 167 = .ok (.aload_n 0, 1) := by decide +kernel
theorem dX5_promise_168 : decode cX5_promise 168 = .ok (.getfield 35, 3) := by decide +kernel
theorem dX5_promise_171 : decode cX5_promise 171 = .ok (.iload 4, 2) := by decide +kernel
theorem dX5_promise_173 : decode cX5_promise 173 = .ok (.aload_n 0, 1) := by decide +kernel
theorem dX5_promise_174 : decode cX5_promise 174 = .ok (.getfield 59, 3) := by decide +kernel
theorem dX5_promise_177 : decode cX5_promise 177 = .ok (.iload 4, 2) := by decide +kernel
theorem dX5_promise_179 : decode cX5_promise 179 = .ok (.iaload, 1) := by decide +kernel
theorem dX5_promise_180 : decode cX5_promise 180 = .ok (.iastore, 1) := by decide +kernel
theorem dX5_promise_181 : decode cX5_promise 181 = .ok (.iinc 4 1, 3) := by decide +kernel
theorem dX5_promise_184 : decode cX5_promise 184 = .ok (.goto (-40), 3) := by decide +kernel
theorem dX5_promise_187 : decode cX5_promise 187 = .ok (.aload_n 0, 1) := by decide +kernel
theorem dX5_promise_188 : decode cX5_promise 188 = .ok (.getfield 155, 3) := by decide +kernel
theorem dX5_promise_191 : decode cX5_promise 191 = .ok (.ireturn, 1) := by decide +kernel
theorem dX5_reaches_0 : decode cX5_reaches 0 = .ok (.iload_n 2, 1) := by decide +kernel
theorem dX5_reaches_1 : decode cX5_reaches 1 = .ok (.istore_n 3, 1) := by decide +kernel
theorem dX5_reaches_2 : decode cX5_reaches 2 = .ok (.iload_n 1, 1) := by decide +kernel
theorem dX5_reaches_3 : decode cX5_reaches 3 = .ok (.istore 4, 2) := by decide +kernel
theorem dX5_reaches_5 : decode cX5_reaches 5 = .ok (.aload_n 0, 1) := by decide +kernel
theorem dX5_reaches_6 : decode cX5_reaches 6 = .ok (.getfield 32, 3) := by decide +kernel
theorem dX5_reaches_9 : decode cX5_reaches 9 = .ok (.iload 4, 2) := by decide +kernel
theorem dX5_reaches_11 : decode cX5_reaches 11 = .ok (.iaload, 1) := by decide +kernel
theorem dX5_reaches_12 : decode cX5_reaches 12 = .ok (.ifCond .lt 201, 3) := by decide +kernel
theorem dX5_reaches_15 : decode cX5_reaches 15 = .ok (.iconst 1, 1) := by decide +kernel
theorem dX5_reaches_16 : decode cX5_reaches 16 = .ok (.istore 5, 2) := by decide +kernel
theorem dX5_reaches_18 : decode cX5_reaches 18 = .ok (.aload_n 0, 1) := by decide +kernel
theorem dX5_reaches_19 : decode cX5_reaches 19 = .ok (.getfield 75, 3) := by decide +kernel
theorem dX5_reaches_22 : decode cX5_reaches 22 = .ok (.iconst 0, 1) := by decide +kernel
theorem dX5_reaches_23 : decode cX5_reaches 23 = .ok (.aload_n 0, 1) := by decide +kernel
theorem dX5_reaches_24 : decode cX5_reaches 24 = .ok (.getfield 32, 3) := by decide +kernel
theorem dX5_reaches_27 : decode cX5_reaches 27 = .ok (.iload 4, 2) := by decide +kernel
theorem dX5_reaches_29 : decode cX5_reaches 29 = .ok (.iaload, 1) := by decide +kernel
theorem dX5_reaches_30 : decode cX5_reaches 30 = .ok (.iastore, 1) := by decide +kernel
theorem dX5_reaches_31 : decode cX5_reaches 31 = .ok (.iload 5, 2) := by decide +kernel
theorem dX5_reaches_33 : decode cX5_reaches 33 = .ok (.ifCond .le 168, 3) := by decide +kernel
theorem dX5_reaches_36 : decode cX5_reaches 36 = .ok (.iinc 5 (-1), 3) := by decide +kernel
theorem dX5_reaches_39 : decode cX5_reaches 39 = .ok (.aload_n 0, 1) := by decide +kernel
theorem dX5_reaches_40 : decode cX5_reaches 40 = .ok (.getfield 75, 3) := by decide +kernel
theorem dX5_reaches_43 : decode cX5_reaches 43 = .ok (.iload 5, 2) := by decide +kernel
theorem dX5_reaches_45 : decode cX5_reaches 45 = .ok (.iaload, 1) := by decide +kernel
theorem dX5_reaches_46 : decode cX5_reaches 46 = .ok (.istore 6, 2) := by decide +kernel
theorem dX5_reaches_48 : decode cX5_reaches 48 = .ok (.aload_n 0, 1) := by decide +kernel
theorem dX5_reaches_49 : decode cX5_reaches 49 = .ok (.getfield 7, 3) := by decide +kernel
theorem dX5_reaches_52 : decode cX5_reaches 52 = .ok (.iload 6, 2) := by decide +kernel
theorem dX5_reaches_54 : decode cX5_reaches 54 = .ok (.iaload, 1) := by decide +kernel
theorem dX5_reaches_55 : decode cX5_reaches 55 = .ok (.bipush 15, 2) := by decide +kernel
theorem dX5_reaches_57 : decode cX5_reaches 57 = .ok (.if_icmp .ne 16, 3) := by decide +kernel
theorem dX5_reaches_60 : decode cX5_reaches 60 = .ok (.aload_n 0, 1) := by decide +kernel
theorem dX5_reaches_61 : decode cX5_reaches 61 = .ok (.aload_n 0, 1) := by decide +kernel
theorem dX5_reaches_62 : decode cX5_reaches 62 = .ok (.getfield 16, 3) := by decide +kernel
theorem dX5_reaches_65 : decode cX5_reaches 65 = .ok (.iload 6, 2) := by decide +kernel
theorem dX5_reaches_67 : decode cX5_reaches 67 = .ok (.iaload, 1) := by decide +kernel
theorem dX5_reaches_68 : decode cX5_reaches 68 = .ok (.iload_n 3, 1) := by decide +kernel
theorem dX5_reaches_69 : decode cX5_reaches 69 = .ok (.invokevirtual 129, 3) := by decide +kernel
theorem dX5_reaches_72 : decode cX5_reaches 72 = .ok (.ireturn, 1) := by decide +kernel
theorem dX5_reaches_73 : decode cX5_reaches 73 = .ok (.aload_n 0, 1) := by decide +kernel
theorem dX5_reaches_74 : decode cX5_reaches 74 = .ok (.getfield 7, 3) := by decide +kernel
theorem dX5_reaches_77 : decode cX5_reaches 77 = .ok (.iload 6, 2) := by decide +kernel
theorem dX5_reaches_79 : decode cX5_reaches 79 = .ok (.iaload, 1) := by decide +kernel
theorem dX5_reaches_80 : decode cX5_reaches 80 = .ok (.bipush 12, 2) := by decide +kernel
theorem dX5_reaches_82 : decode cX5_reaches 82 = .ok (.if_icmp .ne 14, 3) := by decide +kernel
theorem dX5_reaches_85 : decode cX5_reaches 85 = .ok (.aload_n 0, 1) := by decide +kernel
theorem dX5_reaches_86 : decode cX5_reaches 86 = .ok (.iload 6, 2) := by decide +kernel
theorem dX5_reaches_88 : decode cX5_reaches 88 = .ok (.iload_n 3, 1) := by decide +kernel
theorem dX5_reaches_89 : decode cX5_reaches 89 = .ok (.invokevirtual 133, 3) := by decide +kernel
theorem dX5_reaches_92 : decode cX5_reaches 92 = .ok (.istore_n 3, 1) := by decide +kernel
theorem dX5_reaches_93 : decode cX5_reaches 93 = .ok (.goto 105, 3) := by decide +kernel
theorem dX5_reaches_96 : decode cX5_reaches 96 = .ok (.aload_n 0, 1) := by decide +kernel
theorem dX5_reaches_97 : decode cX5_reaches 97 = .ok (.getfield 7, 3) := by decide +kernel
theorem dX5_reaches_100 : decode cX5_reaches 100 = .ok (.iload 6, 2) := by decide +kernel
theorem dX5_reaches_102 : decode cX5_reaches 102 = .ok (.iaload, 1) := by decide +kernel
theorem dX5_reaches_103 : decode cX5_reaches 103 = .ok (.bipush 14, 2) := by decide +kernel
theorem dX5_reaches_105 : decode cX5_reaches 105 = .ok (.if_icmp .ne 48, 3) := by decide +kernel
theorem dX5_reaches_108 : decode cX5_reaches 108 = .ok (.aload_n 0, 1) := by decide +kernel
theorem dX5_reaches_109 : decode cX5_reaches 109 = .ok (.getfield 75, 3) := by decide +kernel
theorem dX5_reaches_112 : decode cX5_reaches 112 = .ok (.iload 5, 2) := by decide +kernel
theorem dX5_reaches_114 : decode cX5_reaches 114 = .ok (.aload_n 0, 1) := by decide +kernel
theorem dX5_reaches_115 : decode cX5_reaches 115 = .ok (.aload_n 0, 1) := by decide +kernel
theorem dX5_reaches_116 : decode cX5_reaches 116 = .ok (.getfield 13, 3) := by decide +kernel
theorem dX5_reaches_119 : decode cX5_reaches 119 = .ok (.iload 6, 2) := by decide +kernel
theorem dX5_reaches_121 : decode cX5_reaches 121 = .ok (.iaload, 1) := by decide +kernel
theorem dX5_reaches_122 : decode cX5_reaches 122 = .ok (.iload_n 3, 1) := by decide +kernel
theorem dX5_reaches_123 : decode cX5_reaches 123 = .ok (.invokevirtual 129, 3) := by decide +kernel
theorem dX5_reaches_126 : decode cX5_reaches 126 = .ok (.ifCond .eq 13, 3) := by decide +kernel
theorem dX5_reaches_129 : decode cX5_reaches 129 = .ok (.aload_n 0, 1) := by decide +kernel
theorem dX5_reaches_130 : decode cX5_reaches 130 = .ok (.getfield 16, 3) := by decide +kernel
theorem dX5_reaches_133 : decode cX5_reaches 133 = .ok (.iload 6, 2) := by decide +kernel
theorem dX5_reaches_135 : decode cX5_reaches 135 = .ok (.iaload, 1) := by decide +kernel
theorem dX5_reaches_136 : decode cX5_reaches 136 = .ok (.goto 10, 3) := by decide +kernel
theorem dX5_reaches_139 : decode cX5_reaches 139 = .ok (.aload_n 0, 1) := by decide +kernel
theorem dX5_reaches_140 : decode cX5_reaches 140 = .ok (.getfield 19, 3) := by decide +kernel
theorem dX5_reaches_143 : decode cX5_reaches 143 = .ok (.iload 6, 2) := by decide +kernel
theorem dX5_reaches_145 : decode cX5_reaches 145 = .ok (.iaload, 1) := by decide +kernel
theorem dX5_reaches_146 : decode cX5_reaches 146 = .ok (.iastore, 1) := by decide +kernel
theorem dX5_reaches_147 : decode cX5_reaches 147 = .ok (.iinc 5 1, 3) := by decide +kernel
theorem dX5_reaches_150 : decode cX5_reaches 150 = .ok (.goto 48, 3) := by decide +kernel
theorem dX5_reaches_153 : decode cX5_reaches 153 = .ok (.aload_n 0, 1) := by decide +kernel
theorem dX5_reaches_154 : decode cX5_reaches 154 = .ok (.getfield 7, 3) := by decide +kernel
theorem dX5_reaches_157 : decode cX5_reaches 157 = .ok (.iload 6, 2) := by decide +kernel
theorem dX5_reaches_159 : decode cX5_reaches 159 = .ok (.iaload, 1) := by decide +kernel
theorem dX5_reaches_160 : decode cX5_reaches 160 = .ok (.bipush 13, 2) := by decide +kernel
theorem dX5_reaches_162 : decode cX5_reaches 162 = .ok (.if_icmp .ne 36, 3) := by decide +kernel
theorem dX5_reaches_165 : decode cX5_reaches 165 = .ok (.aload_n 0, 1) := by decide +kernel
theorem dX5_reaches_166 : decode cX5_reaches 166 = .ok (.getfield 75, 3) := by decide +kernel
theorem dX5_reaches_169 : decode cX5_reaches 169 = .ok (.iload 5, 2) := by decide +kernel
theorem dX5_reaches_171 : decode cX5_reaches 171 = .ok (.aload_n 0, 1) := by decide +kernel
theorem dX5_reaches_172 : decode cX5_reaches 172 = .ok (.getfield 16, 3) := by decide +kernel
theorem dX5_reaches_175 : decode cX5_reaches 175 = .ok (.iload 6, 2) := by decide +kernel
theorem dX5_reaches_177 : decode cX5_reaches 177 = .ok (.iaload, 1) := by decide +kernel
theorem dX5_reaches_178 : decode cX5_reaches 178 = .ok (.iastore, 1) := by decide +kernel
theorem dX5_reaches_179 : decode cX5_reaches 179 = .ok (.aload_n 0, 1) := by decide +kernel
theorem dX5_reaches_180 : decode cX5_reaches 180 = .ok (.getfield 75, 3) := by decide +kernel
theorem dX5_reaches_183 : decode cX5_reaches 183 = .ok (.iload 5, 2) := by decide +kernel
theorem dX5_reaches_185 : decode cX5_reaches 185 = .ok (.iconst 1, 1) := by decide +kernel
theorem dX5_reaches_186 : decode cX5_reaches 186 = .ok (.iadd, 1) := by decide +kernel
theorem dX5_reaches_187 : decode cX5_reaches 187 = .ok (.aload_n 0, 1) := by decide +kernel
theorem dX5_reaches_188 : decode cX5_reaches 188 = .ok (.getfield 13, 3) := by decide +kernel
theorem dX5_reaches_191 : decode cX5_reaches 191 = .ok (.iload 6, 2) := by decide +kernel
theorem dX5_reaches_193 : decode cX5_reaches 193 = .ok (.iaload, 1) := by decide +kernel
theorem dX5_reaches_194 : decode cX5_reaches 194 = .ok (.iastore, 1) := by decide +kernel
theorem dX5_reaches_195 : decode cX5_reaches 195 = .ok (.iinc 5 2, 3) := by decide +kernel
theorem dX5_reaches_198 : decode cX5_reaches 198 = .ok (.goto (-167), 3) := by decide +kernel
theorem dX5_reaches_201 : decode cX5_reaches 201 = .ok (.aload_n 0, 1) := by decide +kernel
theorem dX5_reaches_202 : decode cX5_reaches 202 = .ok (.getfield 35, 3) := by decide +kernel
theorem dX5_reaches_205 : decode cX5_reaches 205 = .ok (.iload 4, 2) := by decide +kernel
theorem dX5_reaches_207 : decode cX5_reaches 207 = .ok (.iaload, 1) := by decide +kernel
theorem dX5_reaches_208 : decode cX5_reaches 208 = .ok (.istore 4, 2) := by decide +kernel
theorem dX5_reaches_210 : decode cX5_reaches 210 = .ok (.goto (-205), 3) := by decide +kernel
theorem dX5_reaches_213 : decode cX5_reaches 213 = .ok (.aload_n 0, 1) := by decide +kernel
theorem dX5_reaches_214 : decode cX5_reaches 214 = .ok (.aload_n 0, 1) := by decide +kernel
theorem dX5_reaches_215 : decode cX5_reaches 215 = .ok (.getfield 35, 3) := by decide +kernel
theorem dX5_reaches_218 : decode cX5_reaches 218 = .ok (.iload 4, 2) := by decide +kernel
theorem dX5_reaches_220 : decode cX5_reaches 220 = .ok (.iaload, 1) := by decide +kernel
theorem dX5_reaches_221 : decode cX5_reaches 221 = .ok (.iload_n 3, 1) := by decide +kernel
theorem dX5_reaches_222 : decode cX5_reaches 222 = .ok (.invokevirtual 129, 3) := by decide +kernel
theorem dX5_reaches_225 : decode cX5_reaches 225 = .ok (.ireturn, 1) := by decide +kernel
theorem dX5_keeps_0 : decode cX5_keeps 0 = .ok (.aload_n 0, 1) := by decide +kernel
theorem dX5_keeps_1 : decode cX5_keeps 1 = .ok (.getfield 41, 3) := by decide +kernel
theorem dX5_keeps_4 : decode cX5_keeps 4 = .ok (.iload_n 1, 1) := by decide +kernel
theorem dX5_keeps_5 : decode cX5_keeps 5 = .ok (.iaload, 1) := by decide +kernel
theorem dX5_keeps_6 : decode cX5_keeps 6 = .ok (.istore_n 3, 1) := by decide +kernel
theorem dX5_keeps_7 : decode cX5_keeps 7 = .ok (.aload_n 0, 1) := by decide +kernel
theorem dX5_keeps_8 : decode cX5_keeps 8 = .ok (.getfield 38, 3) := by decide +kernel
theorem dX5_keeps_11 : decode cX5_keeps 11 = .ok (.iload_n 1, 1) := by decide +kernel
theorem dX5_keeps_12 : decode cX5_keeps 12 = .ok (.iaload, 1) := by decide +kernel
theorem dX5_keeps_13 : decode cX5_keeps 13 = .ok (.ifCond .ne 12, 3) := by decide +kernel
theorem dX5_keeps_16 : decode cX5_keeps 16 = .ok (.aload_n 0, 1) := by decide +kernel
theorem dX5_keeps_17 : decode cX5_keeps 17 = .ok (.iload_n 3, 1) := by decide +kernel
theorem dX5_keeps_18 : decode cX5_keeps 18 = .ok (.iload_n 2, 1) := by decide +kernel
theorem dX5_keeps_19 : decode cX5_keeps 19 = .ok (.invokevirtual 129, 3) := by decide +kernel
theorem dX5_keeps_22 : decode cX5_keeps 22 = .ok (.goto 51, 3) := by decide +kernel
theorem dX5_keeps_25 : decode cX5_keeps 25 = .ok (.aload_n 0, 1) := by decide +kernel
theorem dX5_keeps_26 : decode cX5_keeps 26 = .ok (.aload_n 0, 1) := by decide +kernel
theorem dX5_keeps_27 : decode cX5_keeps 27 = .ok (.getfield 16, 3) := by decide +kernel
theorem dX5_keeps_30 : decode cX5_keeps 30 = .ok (.iload_n 3, 1) := by decide +kernel
theorem dX5_keeps_31 : decode cX5_keeps 31 = .ok (.iaload, 1) := by decide +kernel
theorem dX5_keeps_32 : decode cX5_keeps 32 = .ok (.iload_n 2, 1) := by decide +kernel
theorem dX5_keeps_33 : decode cX5_keeps 33 = .ok (.invokevirtual 129, 3) := by decide +kernel
theorem dX5_keeps_36 : decode cX5_keeps 36 = .ok (.ifCond .eq 36, 3) := by decide +kernel
theorem dX5_keeps_39 : decode cX5_keeps 39 = .ok (.aload_n 0, 1) := by decide +kernel
theorem dX5_keeps_40 : decode cX5_keeps 40 = .ok (.aload_n 0, 1) := by decide +kernel
theorem dX5_keeps_41 : decode cX5_keeps 41 = .ok (.getfield 13, 3) := by decide +kernel
theorem dX5_keeps_44 : decode cX5_keeps 44 = .ok (.iload_n 3, 1) := by decide +kernel
theorem dX5_keeps_45 : decode cX5_keeps 45 = .ok (.iaload, 1) := by decide +kernel
theorem dX5_keeps_46 : decode cX5_keeps 46 = .ok (.iload_n 2, 1) := by decide +kernel
theorem dX5_keeps_47 : decode cX5_keeps 47 = .ok (.invokevirtual 129, 3) := by decide +kernel
theorem dX5_keeps_50 : decode cX5_keeps 50 = .ok (.aload_n 0, 1) := by decide +kernel
theorem dX5_keeps_51 : decode cX5_keeps 51 = .ok (.getfield 38, 3) := by decide +kernel
theorem dX5_keeps_54 : decode cX5_keeps 54 = .ok (.iload_n 1, 1) := by decide +kernel
theorem dX5_keeps_55 : decode cX5_keeps 55 = .ok (.iaload, 1) := by decide +kernel
theorem dX5_keeps_56 : decode cX5_keeps 56 = .ok (.iconst 1, 1) := by decide +kernel
theorem dX5_keeps_57 : decode cX5_keeps 57 = .ok (.if_icmp .ne 7, 3) := by decide +kernel
theorem dX5_keeps_60 : decode cX5_keeps 60 = .ok (.iconst 1, 1) := by decide +kernel
theorem dX5_keeps_61 : decode cX5_keeps 61 = .ok (.goto 4, 3) := by decide +kernel
theorem dX5_keeps_64 : decode cX5_keeps 64 = .ok (.iconst 0, 1) := by decide +kernel
theorem dX5_keeps_65 : decode cX5_keeps 65 = .ok (.if_icmp .ne 7, 3) := by decide +kernel
theorem dX5_keeps_68 : decode cX5_keeps 68 = .ok (.iconst 1, 1) := by decide +kernel
theorem dX5_keeps_69 : decode cX5_keeps 69 = .ok (.goto 4, 3) := by decide +kernel
theorem dX5_keeps_72 : decode cX5_keeps 72 = .ok (.iconst 0, 1) := by decide +kernel
theorem dX5_keeps_73 : decode cX5_keeps 73 = .ok (.istore 4, 2) := by decide +kernel
theorem dX5_keeps_75 : decode cX5_keeps 75 = .ok (.iload 4, 2) := by decide +kernel
theorem dX5_keeps_77 : decode cX5_keeps 77 = .ok (.ifCond .eq 17, 3) := by decide +kernel
theorem dX5_keeps_80 : decode cX5_keeps 80 = .ok (.aload_n 0, 1) := by decide +kernel
theorem dX5_keeps_81 : decode cX5_keeps 81 = .ok (.aload_n 0, 1) := by decide +kernel
theorem dX5_keeps_82 : decode cX5_keeps 82 = .ok (.getfield 44, 3) := by decide +kernel
theorem dX5_keeps_85 : decode cX5_keeps 85 = .ok (.iload_n 1, 1) := by decide +kernel
theorem dX5_keeps_86 : decode cX5_keeps 86 = .ok (.iaload, 1) := by decide +kernel
theorem dX5_keeps_87 : decode cX5_keeps 87 = .ok (.iload_n 2, 1) := by decide +kernel
theorem dX5_keeps_88 : decode cX5_keeps 88 = .ok (.invokevirtual 161, 3) := by decide +kernel
theorem dX5_keeps_91 : decode cX5_keeps 91 = .ok (.ifCond .eq 7, 3) := by decide +kernel
theorem dX5_keeps_94 : decode cX5_keeps 94 = .ok (.iconst 1, 1) := by decide +kernel
theorem dX5_keeps_95 : decode cX5_keeps 95 = .ok (.goto 4, 3) := by decide +kernel
theorem dX5_keeps_98 : decode cX5_keeps 98 = .ok (.iconst 0, 1) := by decide +kernel
theorem dX5_keeps_99 : decode cX5_keeps 99 = .ok (.ireturn, 1) := by decide +kernel
theorem dX5_look_0 : decode cX5_look 0 = .ok (.aload_n 0, 1) := by decide +kernel
theorem dX5_look_1 : decode cX5_look 1 = .ok (.getfield 68, 3) := by decide +kernel
theorem dX5_look_4 : decode cX5_look 4 = .ok (.iload_n 1, 1) := by decide +kernel
theorem dX5_look_5 : decode cX5_look 5 = .ok (.baload, 1) := by decide +kernel
theorem dX5_look_6 : decode cX5_look 6 = .ok (.ifCond .eq 4, 3) := by decide +kernel
theorem dX5_look_9 : decode cX5_look 9 = .ok (.return_, 1) := by decide +kernel
theorem dX5_look_10 : decode cX5_look 10 = .ok (.aload_n 0, 1) := by decide +kernel
theorem dX5_look_11 : decode cX5_look 11 = .ok (.getfield 68, 3) := by decide +kernel
theorem dX5_look_14 : decode cX5_look 14 = .ok (.iload_n 1, 1) := by decide +kernel
theorem dX5_look_15 : decode cX5_look 15 = .ok (.iconst 1, 1) := by decide +kernel
theorem dX5_look_16 : decode cX5_look 16 = .ok (.bastore, 1) := by decide +kernel
theorem dX5_look_17 : decode cX5_look 17 = .ok (.iconst 0, 1) := by decide +kernel
theorem dX5_look_18 : decode cX5_look 18 = .ok (.istore_n 2, 1) := by decide +kernel
theorem dX5_look_19 : decode cX5_look 19 = .ok (.iload_n 2, 1) := by decide +kernel
theorem dX5_look_20 : decode cX5_look 20 = .ok (.sipush 128, 3) := by decide +kernel
theorem dX5_look_23 : decode cX5_look 23 = .ok (.if_icmp .ge 66, 3) := by decide +kernel
theorem dX5_look_26 : decode cX5_look 26 = .ok (.iconst 0, 1) := by decide +kernel
theorem dX5_look_27 : decode cX5_look 27 = .ok (.istore_n 3, 1) := by decide +kernel
theorem dX5_look_28 : decode cX5_look 28 = .ok (.iconst 0, 1) := by decide +kernel
theorem dX5_look_29 : decode cX5_look 29 = .ok (.istore 4, 2) := by decide +kernel
theorem dX5_look_31 : decode cX5_look 31 = .ok (.iload 4, 2) := by decide +kernel
theorem dX5_look_33 : decode cX5_look 33 = .ok (.bipush 32, 2) := by decide +kernel
theorem dX5_look_35 : decode cX5_look 35 = .ok (.if_icmp .ge 35, 3) := by decide +kernel
theorem dX5_look_38 : decode cX5_look 38 = .ok (.aload_n 0, 1) := by decide +kernel
theorem dX5_look_39 : decode cX5_look 39 = .ok (.iload_n 1, 1) := by decide +kernel
theorem dX5_look_40 : decode cX5_look 40 = .ok (.bipush 32, 2) := by decide +kernel
theorem dX5_look_42 : decode cX5_look 42 = .ok (.iload_n 2, 1) := by decide +kernel
theorem dX5_look_43 : decode cX5_look 43 = .ok (.imul, 1) := by decide +kernel
theorem dX5_look_44 : decode cX5_look 44 = .ok (.iload 4, 2) := by decide +kernel
theorem dX5_look_46 : decode cX5_look 46 = .ok (.iadd, 1) := by decide +kernel
theorem dX5_look_47 : decode cX5_look 47 = .ok (.invokevirtual 164, 3) := by decide +kernel
theorem dX5_look_50 : decode cX5_look 50 = .ok (.ifCond .eq 7, 3) := by decide +kernel
theorem dX5_look_53 : decode cX5_look 53 = .ok (.iload_n 3, 1) := by decide +kernel
theorem dX5_look_54 : decode cX5_look 54 = .ok (.goto 9, 3) := by decide +kernel
theorem dX5_look_57 : decode cX5_look 57 = .ok (.iload_n 3, 1) := by decide +kernel
theorem dX5_look_58 : decode cX5_look 58 = .ok (.iconst 1, 1) := by decide +kernel
theorem dX5_look_59 : decode cX5_look 59 = .ok (.iload 4, 2) := by decide +kernel
theorem dX5_look_61 : decode cX5_look 61 = .ok (.ishl, 1) := by decide +kernel
theorem dX5_look_62 : decode cX5_look 62 = .ok (.ior, 1) := by decide +kernel
theorem dX5_look_63 : decode cX5_look 63 = .ok (.istore_n 3, 1) := by decide +kernel
theorem dX5_look_64 : decode cX5_look 64 = .ok (.iinc 4 1, 3) := by decide +kernel
theorem dX5_look_67 : decode cX5_look 67 = .ok (.goto (-36), 3) := by decide +kernel
theorem dX5_look_70 : decode cX5_look 70 = .ok (.aload_n 0, 1) := by decide +kernel
theorem dX5_look_71 : decode cX5_look 71 = .ok (.getfield 72, 3) := by decide +kernel
theorem dX5_look_74 : decode cX5_look 74 = .ok (.sipush 128, 3) := by decide +kernel
theorem dX5_look_77 : decode cX5_look 77 = .ok (.iload_n 1, 1) := by decide +kernel
theorem dX5_look_78 : decode cX5_look 78 = .ok (.imul, 1) := by decide +kernel
theorem dX5_look_79 : decode cX5_look 79 = .ok (.iload_n 2, 1) := by decide +kernel
theorem dX5_look_80 : decode cX5_look 80 = .ok (.iadd, 1) := by decide +kernel
theorem dX5_look_81 : decode cX5_look 81 = .ok (.iload_n 3, 1) := by decide +kernel
theorem dX5_look_82 : decode cX5_look 82 = .ok (.iastore, 1) := by decide +kernel
theorem dX5_look_83 : decode cX5_look 83 = .ok (.iinc 2 1, 3) := by decide +kernel
theorem dX5_look_86 : decode cX5_look 86 = .ok (.goto (-67), 3) := by decide +kernel
theorem dX5_look_89 : decode cX5_look 89 = .ok (.return_, 1) := by decide +kernel
theorem dX5_isBad_0 : decode cX5_isBad 0 = .ok (.aload_n 0, 1) := by decide +kernel
theorem dX5_isBad_1 : decode cX5_isBad 1 = .ok (.getfield 72, 3) := by decide +kernel
theorem dX5_isBad_4 : decode cX5_isBad 4 = .ok (.sipush 128, 3) := by decide +kernel
theorem dX5_isBad_7 : decode cX5_isBad 7 = .ok (.iload_n 1, 1) := by decide +kernel
theorem dX5_isBad_8 : decode cX5_isBad 8 = .ok (.imul, 1) := by decide +kernel
theorem dX5_isBad_9 : decode cX5_isBad 9 = .ok (.iload_n 2, 1) := by decide +kernel
theorem dX5_isBad_10 : decode cX5_isBad 10 = .ok (.bipush 32, 2) := by decide +kernel
theorem dX5_isBad_12 : decode cX5_isBad 12 = .ok (.idiv, 1) := by decide +kernel
theorem dX5_isBad_13 : decode cX5_isBad 13 = .ok (.iadd, 1) := by decide +kernel
theorem dX5_isBad_14 : decode cX5_isBad 14 = .ok (.iaload, 1) := by decide +kernel
theorem dX5_isBad_15 : decode cX5_isBad 15 = .ok (.iload_n 2, 1) := by decide +kernel
theorem dX5_isBad_16 : decode cX5_isBad 16 = .ok (.bipush 32, 2) := by decide +kernel
theorem dX5_isBad_18 : decode cX5_isBad 18 = .ok (.irem, 1) := by decide +kernel
theorem dX5_isBad_19 : decode cX5_isBad 19 = .ok (.ishr, 1) := by decide +kernel
theorem dX5_isBad_20 : decode cX5_isBad 20 = .ok (.iconst 1, 1) := by decide +kernel
theorem dX5_isBad_21 : decode cX5_isBad 21 = .ok (.iand, 1) := by decide +kernel
theorem dX5_isBad_22 : decode cX5_isBad 22 = .ok (.iconst 1, 1) := by decide +kernel
theorem dX5_isBad_23 : decode cX5_isBad 23 = .ok (.if_icmp .ne 7, 3) := by decide +kernel
theorem dX5_isBad_26 : decode cX5_isBad 26 = .ok (.iconst 1, 1) := by decide +kernel
theorem dX5_isBad_27 : decode cX5_isBad 27 = .ok (.goto 4, 3) := by decide +kernel
theorem dX5_isBad_30 : decode cX5_isBad 30 = .ok (.iconst 0, 1) := by decide +kernel
theorem dX5_isBad_31 : decode cX5_isBad 31 = .ok (.ireturn, 1) := by decide +kernel
theorem dX5_countBad_0 : decode cX5_countBad 0 = .ok (.aload_n 0, 1) := by decide +kernel
end
section
theorem dX5_countBad_1 : decode cX5_countBad 1 = .ok (.iload_n 1, 1) := by decide +kernel
theorem dX5_countBad_2 : decode cX5_countBad 2 = .ok (.invokevirtual 167, 3) := by decide +kernel
theorem dX5_countBad_5 : decode cX5_countBad 5 = .ok (.iconst 0, 1) := by decide +kernel
theorem dX5_countBad_6 : decode cX5_countBad 6 = .ok (.istore 4, 2) := by decide +kernel
theorem dX5_countBad_8 : decode cX5_countBad 8 = .ok (.iload_n 2, 1) := by decide +kernel
theorem dX5_countBad_9 : decode cX5_countBad 9 = .ok (.istore 5, 2) := by decide +kernel
theorem dX5_countBad_11 : decode cX5_countBad 11 = .ok (.iload 5, 2) := by decide +kernel
theorem dX5_countBad_13 : decode cX5_countBad 13 = .ok (.iload_n 3, 1) := by decide +kernel
theorem dX5_countBad_14 : decode cX5_countBad 14 = .ok (.if_icmp .gt 30, 3) := by decide +kernel
theorem dX5_countBad_17 : decode cX5_countBad 17 = .ok (.aload_n 0, 1) := by decide +kernel
theorem dX5_countBad_18 : decode cX5_countBad 18 = .ok (.iload_n 1, 1) := by decide +kernel
theorem dX5_countBad_19 : decode cX5_countBad 19 = .ok (.iload 5, 2) := by decide +kernel
theorem dX5_countBad_21 : decode cX5_countBad 21 = .ok (.invokevirtual 171, 3) := by decide +kernel
theorem dX5_countBad_24 : decode cX5_countBad 24 = .ok (.ifCond .eq 10, 3) := by decide +kernel
theorem dX5_countBad_27 : decode cX5_countBad 27 = .ok (.iload 4, 2) := by decide +kernel
theorem dX5_countBad_29 : decode cX5_countBad 29 = .ok (.iconst 1, 1) := by decide +kernel
theorem dX5_countBad_30 : decode cX5_countBad 30 = .ok (.iadd, 1) := by decide +kernel
theorem dX5_countBad_31 : decode cX5_countBad 31 = .ok (.goto 5, 3) := by decide +kernel
theorem dX5_countBad_34 : decode cX5_countBad 34 = .ok (.iload 4, 2) := by decide +kernel
theorem dX5_countBad_36 : decode cX5_countBad 36 = .ok (.istore 4, 2) := by decide +kernel
theorem dX5_countBad_38 : decode cX5_countBad 38 = .ok (.iinc 5 1, 3) := by decide +kernel
theorem dX5_countBad_41 : decode cX5_countBad 41 = .ok (.goto (-30), 3) := by decide +kernel
theorem dX5_countBad_44 : decode cX5_countBad 44 = .ok (.iload 4, 2) := by decide +kernel
theorem dX5_countBad_46 : decode cX5_countBad 46 = .ok (.ireturn, 1) := by decide +kernel
theorem dX5_kept_0 : decode cX5_kept 0 = .ok (.aload_n 0, 1) := by decide +kernel
theorem dX5_kept_1 : decode cX5_kept 1 = .ok (.iconst 0, 1) := by decide +kernel
theorem dX5_kept_2 : decode cX5_kept 2 = .ok (.putfield 78, 3) := by decide +kernel
theorem dX5_kept_5 : decode cX5_kept 5 = .ok (.iload_n 2, 1) := by decide +kernel
theorem dX5_kept_6 : decode cX5_kept 6 = .ok (.iconst 0, 1) := by decide +kernel
theorem dX5_kept_7 : decode cX5_kept 7 = .ok (.sipush 4095, 3) := by decide +kernel
theorem dX5_kept_10 : decode cX5_kept 10 = .ok (.invokestatic 85, 3) := by decide +kernel
theorem dX5_kept_13 : decode cX5_kept 13 = .ok (.ifCond .ne 17, 3) := by decide +kernel
theorem dX5_kept_16 : decode cX5_kept 16 = .ok (.aload_n 0, 1) := by decide +kernel
theorem dX5_kept_17 : decode cX5_kept 17 = .ok (.iconst 1, 1) := by decide +kernel
theorem dX5_kept_18 : decode cX5_kept 18 = .ok (.invokevirtual 106, 3) := by decide +kernel
theorem dX5_kept_21 : decode cX5_kept 21 = .ok (.ifCond .le 7, 3) := by decide +kernel
theorem dX5_kept_24 : decode cX5_kept 24 = .ok (.iconst 1, 1) := by decide +kernel
theorem dX5_kept_25 : decode cX5_kept 25 = .ok (.goto 4, 3) := by decide +kernel
theorem dX5_kept_28 : decode cX5_kept 28 = .ok (.iconst 0, 1) := by decide +kernel
theorem dX5_kept_29 : decode cX5_kept 29 = .ok (.ireturn, 1) := by decide +kernel
theorem dX5_kept_30 : decode cX5_kept 30 = .ok (.iload_n 1, 1) := by decide +kernel
theorem dX5_kept_31 : decode cX5_kept 31 = .ok (.iconst 0, 1) := by decide +kernel
theorem dX5_kept_32 : decode cX5_kept 32 = .ok (.aload_n 0, 1) := by decide +kernel
theorem dX5_kept_33 : decode cX5_kept 33 = .ok (.getfield 155, 3) := by decide +kernel
theorem dX5_kept_36 : decode cX5_kept 36 = .ok (.iconst 1, 1) := by decide +kernel
theorem dX5_kept_37 : decode cX5_kept 37 = .ok (.isub, 1) := by decide +kernel
theorem dX5_kept_38 : decode cX5_kept 38 = .ok (.invokestatic 85, 3) := by decide +kernel
theorem dX5_kept_41 : decode cX5_kept 41 = .ok (.ifCond .ne 17, 3) := by decide +kernel
theorem dX5_kept_44 : decode cX5_kept 44 = .ok (.aload_n 0, 1) := by decide +kernel
theorem dX5_kept_45 : decode cX5_kept 45 = .ok (.iconst 2, 1) := by decide +kernel
theorem dX5_kept_46 : decode cX5_kept 46 = .ok (.invokevirtual 106, 3) := by decide +kernel
theorem dX5_kept_49 : decode cX5_kept 49 = .ok (.ifCond .le 7, 3) := by decide +kernel
theorem dX5_kept_52 : decode cX5_kept 52 = .ok (.iconst 1, 1) := by decide +kernel
theorem dX5_kept_53 : decode cX5_kept 53 = .ok (.goto 4, 3) := by decide +kernel
theorem dX5_kept_56 : decode cX5_kept 56 = .ok (.iconst 0, 1) := by decide +kernel
theorem dX5_kept_57 : decode cX5_kept 57 = .ok (.ireturn, 1) := by decide +kernel
theorem dX5_kept_58 : decode cX5_kept 58 = .ok (.aload_n 0, 1) := by decide +kernel
theorem dX5_kept_59 : decode cX5_kept 59 = .ok (.iload_n 1, 1) := by decide +kernel
theorem dX5_kept_60 : decode cX5_kept 60 = .ok (.iload_n 2, 1) := by decide +kernel
theorem dX5_kept_61 : decode cX5_kept 61 = .ok (.invokevirtual 164, 3) := by decide +kernel
theorem dX5_kept_64 : decode cX5_kept 64 = .ok (.ireturn, 1) := by decide +kernel
theorem dX5_decide_0 : decode cX5_decide 0 = .ok (.aload_n 0, 1) := by decide +kernel
theorem dX5_decide_1 : decode cX5_decide 1 = .ok (.iconst 0, 1) := by decide +kernel
theorem dX5_decide_2 : decode cX5_decide 2 = .ok (.putfield 78, 3) := by decide +kernel
theorem dX5_decide_5 : decode cX5_decide 5 = .ok (.iload_n 1, 1) := by decide +kernel
theorem dX5_decide_6 : decode cX5_decide 6 = .ok (.iconst 0, 1) := by decide +kernel
theorem dX5_decide_7 : decode cX5_decide 7 = .ok (.aload_n 0, 1) := by decide +kernel
theorem dX5_decide_8 : decode cX5_decide 8 = .ok (.getfield 155, 3) := by decide +kernel
theorem dX5_decide_11 : decode cX5_decide 11 = .ok (.iconst 1, 1) := by decide +kernel
theorem dX5_decide_12 : decode cX5_decide 12 = .ok (.isub, 1) := by decide +kernel
theorem dX5_decide_13 : decode cX5_decide 13 = .ok (.invokestatic 85, 3) := by decide +kernel
theorem dX5_decide_16 : decode cX5_decide 16 = .ok (.ifCond .ne 9, 3) := by decide +kernel
theorem dX5_decide_19 : decode cX5_decide 19 = .ok (.aload_n 0, 1) := by decide +kernel
theorem dX5_decide_20 : decode cX5_decide 20 = .ok (.iconst 1, 1) := by decide +kernel
theorem dX5_decide_21 : decode cX5_decide 21 = .ok (.invokevirtual 106, 3) := by decide +kernel
theorem dX5_decide_24 : decode cX5_decide 24 = .ok (.ireturn, 1) := by decide +kernel
theorem dX5_decide_25 : decode cX5_decide 25 = .ok (.aload_n 0, 1) := by decide +kernel
theorem dX5_decide_26 : decode cX5_decide 26 = .ok (.iload_n 1, 1) := by decide +kernel
theorem dX5_decide_27 : decode cX5_decide 27 = .ok (.invokevirtual 167, 3) := by decide +kernel
theorem dX5_decide_30 : decode cX5_decide 30 = .ok (.iconst 0, 1) := by decide +kernel
theorem dX5_decide_31 : decode cX5_decide 31 = .ok (.istore_n 2, 1) := by decide +kernel
theorem dX5_decide_32 : decode cX5_decide 32 = .ok (.iload_n 2, 1) := by decide +kernel
theorem dX5_decide_33 : decode cX5_decide 33 = .ok (.sipush 4096, 3) := by decide +kernel
theorem dX5_decide_36 : decode cX5_decide 36 = .ok (.if_icmp .ge 18, 3) := by decide +kernel
theorem dX5_decide_39 : decode cX5_decide 39 = .ok (.aload_n 0, 1) := by decide +kernel
theorem dX5_decide_40 : decode cX5_decide 40 = .ok (.iload_n 1, 1) := by decide +kernel
theorem dX5_decide_41 : decode cX5_decide 41 = .ok (.iload_n 2, 1) := by decide +kernel
theorem dX5_decide_42 : decode cX5_decide 42 = .ok (.invokevirtual 171, 3) := by decide +kernel
theorem dX5_decide_45 : decode cX5_decide 45 = .ok (.ifCond .ne 9, 3) := by decide +kernel
theorem dX5_decide_48 : decode cX5_decide 48 = .ok (.iinc 2 1, 3) := by decide +kernel
theorem dX5_decide_51 : decode cX5_decide 51 = .ok (.goto (-19), 3) := by decide +kernel
theorem dX5_decide_54 : decode cX5_decide 54 = .ok (.iload_n 2, 1) := by decide +kernel
theorem dX5_decide_55 : decode cX5_decide 55 = .ok (.sipush 4096, 3) := by decide +kernel
theorem dX5_decide_58 : decode cX5_decide 58 = .ok (.if_icmp .ne 7, 3) := by decide +kernel
theorem dX5_decide_61 : decode cX5_decide 61 = .ok (.iconst (-1), 1) := by decide +kernel
theorem dX5_decide_62 : decode cX5_decide 62 = .ok (.goto 4, 3) := by decide +kernel
theorem dX5_decide_65 : decode cX5_decide 65 = .ok (.iload_n 2, 1) := by decide +kernel
theorem dX5_decide_66 : decode cX5_decide 66 = .ok (.ireturn, 1) := by decide +kernel
theorem dX5_broken_0 : decode cX5_broken 0 = .ok (.aload_n 0, 1) := by decide +kernel
theorem dX5_broken_1 : decode cX5_broken 1 = .ok (.iconst 0, 1) := by decide +kernel
theorem dX5_broken_2 : decode cX5_broken 2 = .ok (.putfield 78, 3) := by decide +kernel
theorem dX5_broken_5 : decode cX5_broken 5 = .ok (.iload_n 2, 1) := by decide +kernel
theorem dX5_broken_6 : decode cX5_broken 6 = .ok (.ifCond .lt 15, 3) := by decide +kernel
theorem dX5_broken_9 : decode cX5_broken 9 = .ok (.iload_n 2, 1) := by decide +kernel
theorem dX5_broken_10 : decode cX5_broken 10 = .ok (.iload_n 3, 1) := by decide +kernel
theorem dX5_broken_11 : decode cX5_broken 11 = .ok (.if_icmp .gt 10, 3) := by decide +kernel
theorem dX5_broken_14 : decode cX5_broken 14 = .ok (.iload_n 3, 1) := by decide +kernel
theorem dX5_broken_15 : decode cX5_broken 15 = .ok (.sipush 4095, 3) := by decide +kernel
theorem dX5_broken_18 : decode cX5_broken 18 = .ok (.if_icmp .le 9, 3) := by decide +kernel
theorem dX5_broken_21 : decode cX5_broken 21 = .ok (.aload_n 0, 1) := by decide +kernel
theorem dX5_broken_22 : decode cX5_broken 22 = .ok (.iconst 1, 1) := by decide +kernel
theorem dX5_broken_23 : decode cX5_broken 23 = .ok (.invokevirtual 106, 3) := by decide +kernel
theorem dX5_broken_26 : decode cX5_broken 26 = .ok (.ireturn, 1) := by decide +kernel
theorem dX5_broken_27 : decode cX5_broken 27 = .ok (.iload_n 1, 1) := by decide +kernel
theorem dX5_broken_28 : decode cX5_broken 28 = .ok (.iconst 0, 1) := by decide +kernel
theorem dX5_broken_29 : decode cX5_broken 29 = .ok (.aload_n 0, 1) := by decide +kernel
theorem dX5_broken_30 : decode cX5_broken 30 = .ok (.getfield 155, 3) := by decide +kernel
theorem dX5_broken_33 : decode cX5_broken 33 = .ok (.iconst 1, 1) := by decide +kernel
theorem dX5_broken_34 : decode cX5_broken 34 = .ok (.isub, 1) := by decide +kernel
theorem dX5_broken_35 : decode cX5_broken 35 = .ok (.invokestatic 85, 3) := by decide +kernel
theorem dX5_broken_38 : decode cX5_broken 38 = .ok (.ifCond .ne 9, 3) := by decide +kernel
theorem dX5_broken_41 : decode cX5_broken 41 = .ok (.aload_n 0, 1) := by decide +kernel
theorem dX5_broken_42 : decode cX5_broken 42 = .ok (.iconst 2, 1) := by decide +kernel
theorem dX5_broken_43 : decode cX5_broken 43 = .ok (.invokevirtual 106, 3) := by decide +kernel
theorem dX5_broken_46 : decode cX5_broken 46 = .ok (.ireturn, 1) := by decide +kernel
theorem dX5_broken_47 : decode cX5_broken 47 = .ok (.aload_n 0, 1) := by decide +kernel
theorem dX5_broken_48 : decode cX5_broken 48 = .ok (.iload_n 1, 1) := by decide +kernel
theorem dX5_broken_49 : decode cX5_broken 49 = .ok (.iload_n 2, 1) := by decide +kernel
theorem dX5_broken_50 : decode cX5_broken 50 = .ok (.iload_n 3, 1) := by decide +kernel
theorem dX5_broken_51 : decode cX5_broken 51 = .ok (.invokevirtual 174, 3) := by decide +kernel
theorem dX5_broken_54 : decode cX5_broken 54 = .ok (.ireturn, 1) := by decide +kernel
theorem dX5_part_0 : decode cX5_part 0 = .ok (.aload_n 0, 1) := by decide +kernel
theorem dX5_part_1 : decode cX5_part 1 = .ok (.iconst 0, 1) := by decide +kernel
theorem dX5_part_2 : decode cX5_part 2 = .ok (.putfield 78, 3) := by decide +kernel
theorem dX5_part_5 : decode cX5_part 5 = .ok (.aload_n 0, 1) := by decide +kernel
theorem dX5_part_6 : decode cX5_part 6 = .ok (.getfield 155, 3) := by decide +kernel
theorem dX5_part_9 : decode cX5_part 9 = .ok (.ifCond .ne 10, 3) := by decide +kernel
theorem dX5_part_12 : decode cX5_part 12 = .ok (.aload_n 0, 1) := by decide +kernel
theorem dX5_part_13 : decode cX5_part 13 = .ok (.iconst 1, 1) := by decide +kernel
theorem dX5_part_14 : decode cX5_part 14 = .ok (.invokevirtual 106, 3) := by decide +kernel
theorem dX5_part_17 : decode cX5_part 17 = .ok (.i2d, 1) := by decide +kernel
theorem dX5_part_18 : decode cX5_part 18 = .ok (.dreturn, 1) := by decide +kernel
theorem dX5_part_19 : decode cX5_part 19 = .ok (.iconst 0, 1) := by decide +kernel
theorem dX5_part_20 : decode cX5_part 20 = .ok (.istore_n 1, 1) := by decide +kernel
theorem dX5_part_21 : decode cX5_part 21 = .ok (.iconst 0, 1) := by decide +kernel
theorem dX5_part_22 : decode cX5_part 22 = .ok (.istore_n 2, 1) := by decide +kernel
theorem dX5_part_23 : decode cX5_part 23 = .ok (.iload_n 2, 1) := by decide +kernel
theorem dX5_part_24 : decode cX5_part 24 = .ok (.aload_n 0, 1) := by decide +kernel
theorem dX5_part_25 : decode cX5_part 25 = .ok (.getfield 155, 3) := by decide +kernel
theorem dX5_part_28 : decode cX5_part 28 = .ok (.if_icmp .ge 25, 3) := by decide +kernel
theorem dX5_part_31 : decode cX5_part 31 = .ok (.iload_n 1, 1) := by decide +kernel
theorem dX5_part_32 : decode cX5_part 32 = .ok (.sipush 4096, 3) := by decide +kernel
theorem dX5_part_35 : decode cX5_part 35 = .ok (.aload_n 0, 1) := by decide +kernel
theorem dX5_part_36 : decode cX5_part 36 = .ok (.iload_n 2, 1) := by decide +kernel
theorem dX5_part_37 : decode cX5_part 37 = .ok (.iconst 0, 1) := by decide +kernel
theorem dX5_part_38 : decode cX5_part 38 = .ok (.sipush 4095, 3) := by decide +kernel
theorem dX5_part_41 : decode cX5_part 41 = .ok (.invokevirtual 174, 3) := by decide +kernel
theorem dX5_part_44 : decode cX5_part 44 = .ok (.isub, 1) := by decide +kernel
theorem dX5_part_45 : decode cX5_part 45 = .ok (.iadd, 1) := by decide +kernel
theorem dX5_part_46 : decode cX5_part 46 = .ok (.istore_n 1, 1) := by decide +kernel
theorem dX5_part_47 : decode cX5_part 47 = .ok (.iinc 2 1, 3) := by decide +kernel
theorem dX5_part_50 : decode cX5_part 50 = .ok (.goto (-27), 3) := by decide +kernel
theorem dX5_part_53 : decode cX5_part 53 = .ok (.iload_n 1, 1) := by decide +kernel
theorem dX5_part_54 : decode cX5_part 54 = .ok (.i2d, 1) := by decide +kernel
theorem dX5_part_55 : decode cX5_part 55 = .ok (.sipush 4096, 3) := by decide +kernel
theorem dX5_part_58 : decode cX5_part 58 = .ok (.aload_n 0, 1) := by decide +kernel
theorem dX5_part_59 : decode cX5_part 59 = .ok (.getfield 155, 3) := by decide +kernel
theorem dX5_part_62 : decode cX5_part 62 = .ok (.imul, 1) := by decide +kernel
theorem dX5_part_63 : decode cX5_part 63 = .ok (.i2d, 1) := by decide +kernel
theorem dX5_part_64 : decode cX5_part 64 = .ok (.ddiv, 1) := by decide +kernel
theorem dX5_part_65 : decode cX5_part 65 = .ok (.dreturn, 1) := by decide +kernel
theorem dX5_count_0 : decode cX5_count 0 = .ok (.aload_n 0, 1) := by decide +kernel
theorem dX5_count_1 : decode cX5_count 1 = .ok (.iconst 0, 1) := by decide +kernel
theorem dX5_count_2 : decode cX5_count 2 = .ok (.putfield 78, 3) := by decide +kernel
theorem dX5_count_5 : decode cX5_count 5 = .ok (.iload_n 1, 1) := by decide +kernel
theorem dX5_count_6 : decode cX5_count 6 = .ok (.iconst 0, 1) := by decide +kernel
theorem dX5_count_7 : decode cX5_count 7 = .ok (.iconst 2, 1) := by decide +kernel
theorem dX5_count_8 : decode cX5_count 8 = .ok (.invokestatic 85, 3) := by decide +kernel
theorem dX5_count_11 : decode cX5_count 11 = .ok (.ifCond .ne 9, 3) := by decide +kernel
theorem dX5_count_14 : decode cX5_count 14 = .ok (.aload_n 0, 1) := by decide +kernel
theorem dX5_count_15 : decode cX5_count 15 = .ok (.iconst 1, 1) := by decide +kernel
theorem dX5_count_16 : decode cX5_count 16 = .ok (.invokevirtual 106, 3) := by decide +kernel
theorem dX5_count_19 : decode cX5_count 19 = .ok (.ireturn, 1) := by decide +kernel
theorem dX5_count_20 : decode cX5_count 20 = .ok (.iconst 0, 1) := by decide +kernel
theorem dX5_count_21 : decode cX5_count 21 = .ok (.istore_n 2, 1) := by decide +kernel
theorem dX5_count_22 : decode cX5_count 22 = .ok (.iconst 0, 1) := by decide +kernel
theorem dX5_count_23 : decode cX5_count 23 = .ok (.istore_n 3, 1) := by decide +kernel
theorem dX5_count_24 : decode cX5_count 24 = .ok (.iload_n 3, 1) := by decide +kernel
theorem dX5_count_25 : decode cX5_count 25 = .ok (.aload_n 0, 1) := by decide +kernel
theorem dX5_count_26 : decode cX5_count 26 = .ok (.getfield 155, 3) := by decide +kernel
theorem dX5_count_29 : decode cX5_count 29 = .ok (.if_icmp .ge 34, 3) := by decide +kernel
theorem dX5_count_32 : decode cX5_count 32 = .ok (.iload_n 1, 1) := by decide +kernel
theorem dX5_count_33 : decode cX5_count 33 = .ok (.iconst 2, 1) := by decide +kernel
theorem dX5_count_34 : decode cX5_count 34 = .ok (.if_icmp .ne 29, 3) := by decide +kernel
theorem dX5_count_37 : decode cX5_count 37 = .ok (.aload_n 0, 1) := by decide +kernel
theorem dX5_count_38 : decode cX5_count 38 = .ok (.iload_n 3, 1) := by decide +kernel
theorem dX5_count_39 : decode cX5_count 39 = .ok (.iconst 0, 1) := by decide +kernel
theorem dX5_count_40 : decode cX5_count 40 = .ok (.sipush 4095, 3) := by decide +kernel
theorem dX5_count_43 : decode cX5_count 43 = .ok (.invokevirtual 174, 3) := by decide +kernel
theorem dX5_count_46 : decode cX5_count 46 = .ok (.ifCond .ne 9, 3) := by decide +kernel
theorem dX5_count_49 : decode cX5_count 49 = .ok (.iload_n 2, 1) := by decide +kernel
theorem dX5_count_50 : decode cX5_count 50 = .ok (.iconst 1, 1) := by decide +kernel
theorem dX5_count_51 : decode cX5_count 51 = .ok (.iadd, 1) := by decide +kernel
theorem dX5_count_52 : decode cX5_count 52 = .ok (.goto 4, 3) := by decide +kernel
theorem dX5_count_55 : decode cX5_count 55 = .ok (.iload_n 2, 1) := by decide +kernel
theorem dX5_count_56 : decode cX5_count 56 = .ok (.istore_n 2, 1) := by decide +kernel
theorem dX5_count_57 : decode cX5_count 57 = .ok (.iinc 3 1, 3) := by decide +kernel
theorem dX5_count_60 : decode cX5_count 60 = .ok (.goto (-36), 3) := by decide +kernel
theorem dX5_count_63 : decode cX5_count 63 = .ok (.iload_n 1, 1) := by decide +kernel
theorem dX5_count_64 : decode cX5_count 64 = .ok (.ifCond .ne 10, 3) := by decide +kernel
theorem dX5_count_67 : decode cX5_count 67 = .ok (.aload_n 0, 1) := by decide +kernel
theorem dX5_count_68 : decode cX5_count 68 = .ok (.getfield 82, 3) := by decide +kernel
theorem dX5_count_71 : decode cX5_count 71 = .ok (.goto 16, 3) := by decide +kernel
theorem dX5_count_74 : decode cX5_count 74 = .ok (.iload_n 1, 1) := by decide +kernel
theorem dX5_count_75 : decode cX5_count 75 = .ok (.iconst 1, 1) := by decide +kernel
theorem dX5_count_76 : decode cX5_count 76 = .ok (.if_icmp .ne 10, 3) := by decide +kernel
theorem dX5_count_79 : decode cX5_count 79 = .ok (.aload_n 0, 1) := by decide +kernel
theorem dX5_count_80 : decode cX5_count 80 = .ok (.getfield 155, 3) := by decide +kernel
theorem dX5_count_83 : decode cX5_count 83 = .ok (.goto 4, 3) := by decide +kernel
theorem dX5_count_86 : decode cX5_count 86 = .ok (.iload_n 2, 1) := by decide +kernel
theorem dX5_count_87 : decode cX5_count 87 = .ok (.ireturn, 1) := by decide +kernel
theorem dJ9_max_7cf53_0 : decode cJ9_max_7cf53 0 = .ok (.iload_n 0, 1) := by decide +kernel
theorem dJ9_max_7cf53_1 : decode cJ9_max_7cf53 1 = .ok (.iload_n 1, 1) := by decide +kernel
theorem dJ9_max_7cf53_2 : decode cJ9_max_7cf53 2 = .ok (.if_icmp .lt 7, 3) := by decide +kernel
theorem dJ9_max_7cf53_5 : decode cJ9_max_7cf53 5 = .ok (.iload_n 0, 1) := by decide +kernel
theorem dJ9_max_7cf53_6 : decode cJ9_max_7cf53 6 = .ok (.goto 4, 3) := by decide +kernel
theorem dJ9_max_7cf53_9 : decode cJ9_max_7cf53 9 = .ok (.iload_n 1, 1) := by decide +kernel
theorem dJ9_max_7cf53_10 : decode cJ9_max_7cf53 10 = .ok (.ireturn, 1) := by decide +kernel
theorem dL_make_0 : decode cL_make 0 = .ok (.aload 5, 2) := by decide +kernel
theorem dL_make_2 : decode cL_make 2 = .ok (.iconst 0, 1) := by decide +kernel
theorem dL_make_3 : decode cL_make 3 = .ok (.aload_n 0, 1) := by decide +kernel
theorem dL_make_4 : decode cL_make 4 = .ok (.iload_n 1, 1) := by decide +kernel
theorem dL_make_5 : decode cL_make 5 = .ok (.iload_n 2, 1) := by decide +kernel
theorem dL_make_6 : decode cL_make 6 = .ok (.iload_n 3, 1) := by decide +kernel
theorem dL_make_7 : decode cL_make 7 = .ok (.iload 4, 2) := by decide +kernel
theorem dL_make_9 : decode cL_make 9 = .ok (.invokevirtual 7, 3) := by decide +kernel
theorem dL_make_12 : decode cL_make 12 = .ok (.i2l, 1) := by decide +kernel
theorem dL_make_13 : decode cL_make 13 = .ok (.lastore, 1) := by decide +kernel
theorem dL_make_14 : decode cL_make 14 = .ok (.goto 11, 3) := by decide +kernel
theorem dL_make_17 : decode cL_make 17 = .ok (.astore 6, 2) := by decide +kernel
theorem dL_make_19 : decode cL_make 19 = .ok (.iconst 1, 1) := by decide +kernel
theorem dL_make_20 : decode cL_make 20 = .ok (.ireturn, 1) := by decide +kernel
theorem dL_make_21 : decode cL_make 21 = .ok (.astore 6, 2) := by decide +kernel
theorem dL_make_23 : decode cL_make 23 = .ok (.iconst 2, 1) := by decide +kernel
theorem dL_make_24 : decode cL_make 24 = .ok (.ireturn, 1) := by decide +kernel
theorem dL_make_25 : decode cL_make 25 = .ok (.iconst 0, 1) := by decide +kernel
theorem dL_make_26 : decode cL_make 26 = .ok (.ireturn, 1) := by decide +kernel
theorem dL_value_0 : decode cL_value 0 = .ok (.aload_n 3, 1) := by decide +kernel
theorem dL_value_1 : decode cL_value 1 = .ok (.iconst 0, 1) := by decide +kernel
theorem dL_value_2 : decode cL_value 2 = .ok (.aload_n 0, 1) := by decide +kernel
theorem dL_value_3 : decode cL_value 3 = .ok (.iload_n 1, 1) := by decide +kernel
theorem dL_value_4 : decode cL_value 4 = .ok (.iload_n 2, 1) := by decide +kernel
theorem dL_value_5 : decode cL_value 5 = .ok (.invokevirtual 17, 3) := by decide +kernel
theorem dL_value_8 : decode cL_value 8 = .ok (.i2l, 1) := by decide +kernel
theorem dL_value_9 : decode cL_value 9 = .ok (.lastore, 1) := by decide +kernel
theorem dL_value_10 : decode cL_value 10 = .ok (.goto 7, 3) := by decide +kernel
theorem dL_value_13 : decode cL_value 13 = .ok (.astore 4, 2) := by decide +kernel
theorem dL_value_15 : decode cL_value 15 = .ok (.iconst 1, 1) := by decide +kernel
theorem dL_value_16 : decode cL_value 16 = .ok (.ireturn, 1) := by decide +kernel
theorem dL_value_17 : decode cL_value 17 = .ok (.iconst 0, 1) := by decide +kernel
theorem dL_value_18 : decode cL_value 18 = .ok (.ireturn, 1) := by decide +kernel
theorem dL_holds_0 : decode cL_holds 0 = .ok (.aload_n 3, 1) := by decide +kernel
theorem dL_holds_1 : decode cL_holds 1 = .ok (.iconst 0, 1) := by decide +kernel
theorem dL_holds_2 : decode cL_holds 2 = .ok (.aload_n 0, 1) := by decide +kernel
theorem dL_holds_3 : decode cL_holds 3 = .ok (.iload_n 1, 1) := by decide +kernel
theorem dL_holds_4 : decode cL_holds 4 = .ok (.iload_n 2, 1) := by decide +kernel
theorem dL_holds_5 : decode cL_holds 5 = .ok (.invokevirtual 21, 3) := by decide +kernel
theorem dL_holds_8 : decode cL_holds 8 = .ok (.ifCond .eq 7, 3) := by decide +kernel
theorem dL_holds_11 : decode cL_holds 11 = .ok (.lconst 1, 1) := by decide +kernel
theorem dL_holds_12 : decode cL_holds 12 = .ok (.goto 4, 3) := by decide +kernel
theorem dL_holds_15 : decode cL_holds 15 = .ok (.lconst 0, 1) := by decide +kernel
theorem dL_holds_16 : decode cL_holds 16 = .ok (.lastore, 1) := by decide +kernel
theorem dL_holds_17 : decode cL_holds 17 = .ok (.goto 7, 3) := by decide +kernel
theorem dL_holds_20 : decode cL_holds 20 = .ok (.astore 4, 2) := by decide +kernel
theorem dL_holds_22 : decode cL_holds 22 = .ok (.iconst 1, 1) := by decide +kernel
theorem dL_holds_23 : decode cL_holds 23 = .ok (.ireturn, 1) := by decide +kernel
theorem dL_holds_24 : decode cL_holds 24 = .ok (.iconst 0, 1) := by decide +kernel
theorem dL_holds_25 : decode cL_holds 25 = .ok (.ireturn, 1) := by decide +kernel
theorem dL_run_0 : decode cL_run 0 = .ok (.aload 4, 2) := by decide +kernel
theorem dL_run_2 : decode cL_run 2 = .ok (.iconst 0, 1) := by decide +kernel
theorem dL_run_3 : decode cL_run 3 = .ok (.aload_n 0, 1) := by decide +kernel
theorem dL_run_4 : decode cL_run 4 = .ok (.iload_n 1, 1) := by decide +kernel
theorem dL_run_5 : decode cL_run 5 = .ok (.iload_n 2, 1) := by decide +kernel
theorem dL_run_6 : decode cL_run 6 = .ok (.iload_n 3, 1) := by decide +kernel
theorem dL_run_7 : decode cL_run 7 = .ok (.invokevirtual 25, 3) := by decide +kernel
theorem dL_run_10 : decode cL_run 10 = .ok (.i2l, 1) := by decide +kernel
theorem dL_run_11 : decode cL_run 11 = .ok (.lastore, 1) := by decide +kernel
theorem dL_run_12 : decode cL_run 12 = .ok (.goto 11, 3) := by decide +kernel
theorem dL_run_15 : decode cL_run 15 = .ok (.astore 5, 2) := by decide +kernel
theorem dL_run_17 : decode cL_run 17 = .ok (.iconst 1, 1) := by decide +kernel
theorem dL_run_18 : decode cL_run 18 = .ok (.ireturn, 1) := by decide +kernel
theorem dL_run_19 : decode cL_run 19 = .ok (.astore 5, 2) := by decide +kernel
theorem dL_run_21 : decode cL_run 21 = .ok (.iconst 2, 1) := by decide +kernel
theorem dL_run_22 : decode cL_run 22 = .ok (.ireturn, 1) := by decide +kernel
theorem dL_run_23 : decode cL_run 23 = .ok (.iconst 0, 1) := by decide +kernel
theorem dL_run_24 : decode cL_run 24 = .ok (.ireturn, 1) := by decide +kernel
theorem dL_promise_0 : decode cL_promise 0 = .ok (.aload 4, 2) := by decide +kernel
theorem dL_promise_2 : decode cL_promise 2 = .ok (.iconst 0, 1) := by decide +kernel
theorem dL_promise_3 : decode cL_promise 3 = .ok (.aload_n 0, 1) := by decide +kernel
theorem dL_promise_4 : decode cL_promise 4 = .ok (.iload_n 1, 1) := by decide +kernel
theorem dL_promise_5 : decode cL_promise 5 = .ok (.iload_n 2, 1) := by decide +kernel
theorem dL_promise_6 : decode cL_promise 6 = .ok (.iload_n 3, 1) := by decide +kernel
theorem dL_promise_7 : decode cL_promise 7 = .ok (.invokevirtual 29, 3) := by decide +kernel
theorem dL_promise_10 : decode cL_promise 10 = .ok (.i2l, 1) := by decide +kernel
theorem dL_promise_11 : decode cL_promise 11 = .ok (.lastore, 1) := by decide +kernel
theorem dL_promise_12 : decode cL_promise 12 = .ok (.goto 11, 3) := by decide +kernel
theorem dL_promise_15 : decode cL_promise 15 = .ok (.astore 5, 2) := by decide +kernel
theorem dL_promise_17 : decode cL_promise 17 = .ok (.iconst 1, 1) := by decide +kernel
theorem dL_promise_18 : decode cL_promise 18 = .ok (.ireturn, 1) := by decide +kernel
theorem dL_promise_19 : decode cL_promise 19 = .ok (.astore 5, 2) := by decide +kernel
theorem dL_promise_21 : decode cL_promise 21 = .ok (.iconst 2, 1) := by decide +kernel
theorem dL_promise_22 : decode cL_promise 22 = .ok (.ireturn, 1) := by decide +kernel
theorem dL_promise_23 : decode cL_promise 23 = .ok (.iconst 0, 1) := by decide +kernel
theorem dL_promise_24 : decode cL_promise 24 = .ok (.ireturn, 1) := by decide +kernel
theorem dL_kept_0 : decode cL_kept 0 = .ok (.aload_n 3, 1) := by decide +kernel
theorem dL_kept_1 : decode cL_kept 1 = .ok (.iconst 0, 1) := by decide +kernel
theorem dL_kept_2 : decode cL_kept 2 = .ok (.aload_n 0, 1) := by decide +kernel
theorem dL_kept_3 : decode cL_kept 3 = .ok (.iload_n 1, 1) := by decide +kernel
theorem dL_kept_4 : decode cL_kept 4 = .ok (.iload_n 2, 1) := by decide +kernel
theorem dL_kept_5 : decode cL_kept 5 = .ok (.invokevirtual 32, 3) := by decide +kernel
theorem dL_kept_8 : decode cL_kept 8 = .ok (.ifCond .eq 7, 3) := by decide +kernel
theorem dL_kept_11 : decode cL_kept 11 = .ok (.lconst 1, 1) := by decide +kernel
theorem dL_kept_12 : decode cL_kept 12 = .ok (.goto 4, 3) := by decide +kernel
theorem dL_kept_15 : decode cL_kept 15 = .ok (.lconst 0, 1) := by decide +kernel
theorem dL_kept_16 : decode cL_kept 16 = .ok (.lastore, 1) := by decide +kernel
theorem dL_kept_17 : decode cL_kept 17 = .ok (.goto 11, 3) := by decide +kernel
theorem dL_kept_20 : decode cL_kept 20 = .ok (.astore 4, 2) := by decide +kernel
theorem dL_kept_22 : decode cL_kept 22 = .ok (.iconst 1, 1) := by decide +kernel
theorem dL_kept_23 : decode cL_kept 23 = .ok (.ireturn, 1) := by decide +kernel
theorem dL_kept_24 : decode cL_kept 24 = .ok (.astore 4, 2) := by decide +kernel
theorem dL_kept_26 : decode cL_kept 26 = .ok (.iconst 2, 1) := by decide +kernel
theorem dL_kept_27 : decode cL_kept 27 = .ok (.ireturn, 1) := by decide +kernel
theorem dL_kept_28 : decode cL_kept 28 = .ok (.iconst 0, 1) := by decide +kernel
theorem dL_kept_29 : decode cL_kept 29 = .ok (.ireturn, 1) := by decide +kernel
theorem dL_decide_0 : decode cL_decide 0 = .ok (.aload_n 2, 1) := by decide +kernel
theorem dL_decide_1 : decode cL_decide 1 = .ok (.iconst 0, 1) := by decide +kernel
theorem dL_decide_2 : decode cL_decide 2 = .ok (.aload_n 0, 1) := by decide +kernel
theorem dL_decide_3 : decode cL_decide 3 = .ok (.iload_n 1, 1) := by decide +kernel
theorem dL_decide_4 : decode cL_decide 4 = .ok (.invokevirtual 35, 3) := by decide +kernel
theorem dL_decide_7 : decode cL_decide 7 = .ok (.i2l, 1) := by decide +kernel
theorem dL_decide_8 : decode cL_decide 8 = .ok (.lastore, 1) := by decide +kernel
theorem dL_decide_9 : decode cL_decide 9 = .ok (.goto 6, 3) := by decide +kernel
theorem dL_decide_12 : decode cL_decide 12 = .ok (.astore_n 3, 1) := by decide +kernel
theorem dL_decide_13 : decode cL_decide 13 = .ok (.iconst 1, 1) := by decide +kernel
theorem dL_decide_14 : decode cL_decide 14 = .ok (.ireturn, 1) := by decide +kernel
theorem dL_decide_15 : decode cL_decide 15 = .ok (.iconst 0, 1) := by decide +kernel
theorem dL_decide_16 : decode cL_decide 16 = .ok (.ireturn, 1) := by decide +kernel
theorem dL_broken_0 : decode cL_broken 0 = .ok (.aload 4, 2) := by decide +kernel
theorem dL_broken_2 : decode cL_broken 2 = .ok (.iconst 0, 1) := by decide +kernel
theorem dL_broken_3 : decode cL_broken 3 = .ok (.aload_n 0, 1) := by decide +kernel
theorem dL_broken_4 : decode cL_broken 4 = .ok (.iload_n 1, 1) := by decide +kernel
theorem dL_broken_5 : decode cL_broken 5 = .ok (.iload_n 2, 1) := by decide +kernel
theorem dL_broken_6 : decode cL_broken 6 = .ok (.iload_n 3, 1) := by decide +kernel
theorem dL_broken_7 : decode cL_broken 7 = .ok (.invokevirtual 39, 3) := by decide +kernel
theorem dL_broken_10 : decode cL_broken 10 = .ok (.i2l, 1) := by decide +kernel
theorem dL_broken_11 : decode cL_broken 11 = .ok (.lastore, 1) := by decide +kernel
theorem dL_broken_12 : decode cL_broken 12 = .ok (.goto 11, 3) := by decide +kernel
theorem dL_broken_15 : decode cL_broken 15 = .ok (.astore 5, 2) := by decide +kernel
theorem dL_broken_17 : decode cL_broken 17 = .ok (.iconst 1, 1) := by decide +kernel
theorem dL_broken_18 : decode cL_broken 18 = .ok (.ireturn, 1) := by decide +kernel
theorem dL_broken_19 : decode cL_broken 19 = .ok (.astore 5, 2) := by decide +kernel
theorem dL_broken_21 : decode cL_broken 21 = .ok (.iconst 2, 1) := by decide +kernel
theorem dL_broken_22 : decode cL_broken 22 = .ok (.ireturn, 1) := by decide +kernel
theorem dL_broken_23 : decode cL_broken 23 = .ok (.iconst 0, 1) := by decide +kernel
theorem dL_broken_24 : decode cL_broken 24 = .ok (.ireturn, 1) := by decide +kernel
theorem dL_part_0 : decode cL_part 0 = .ok (.aload_n 1, 1) := by decide +kernel
theorem dL_part_1 : decode cL_part 1 = .ok (.iconst 0, 1) := by decide +kernel
theorem dL_part_2 : decode cL_part 2 = .ok (.aload_n 0, 1) := by decide +kernel
theorem dL_part_3 : decode cL_part 3 = .ok (.invokevirtual 42, 3) := by decide +kernel
theorem dL_part_6 : decode cL_part 6 = .ok (.dastore, 1) := by decide +kernel
theorem dL_part_7 : decode cL_part 7 = .ok (.goto 6, 3) := by decide +kernel
theorem dL_part_10 : decode cL_part 10 = .ok (.astore_n 2, 1) := by decide +kernel
theorem dL_part_11 : decode cL_part 11 = .ok (.iconst 1, 1) := by decide +kernel
theorem dL_part_12 : decode cL_part 12 = .ok (.ireturn, 1) := by decide +kernel
theorem dL_part_13 : decode cL_part 13 = .ok (.iconst 0, 1) := by decide +kernel
theorem dL_part_14 : decode cL_part 14 = .ok (.ireturn, 1) := by decide +kernel
theorem dL_count_0 : decode cL_count 0 = .ok (.aload_n 2, 1) := by decide +kernel
theorem dL_count_1 : decode cL_count 1 = .ok (.iconst 0, 1) := by decide +kernel
theorem dL_count_2 : decode cL_count 2 = .ok (.aload_n 0, 1) := by decide +kernel
theorem dL_count_3 : decode cL_count 3 = .ok (.iload_n 1, 1) := by decide +kernel
theorem dL_count_4 : decode cL_count 4 = .ok (.invokevirtual 46, 3) := by decide +kernel
theorem dL_count_7 : decode cL_count 7 = .ok (.i2l, 1) := by decide +kernel
theorem dL_count_8 : decode cL_count 8 = .ok (.lastore, 1) := by decide +kernel
theorem dL_count_9 : decode cL_count 9 = .ok (.goto 6, 3) := by decide +kernel
theorem dL_count_12 : decode cL_count 12 = .ok (.astore_n 3, 1) := by decide +kernel
theorem dL_count_13 : decode cL_count 13 = .ok (.iconst 1, 1) := by decide +kernel
theorem dL_count_14 : decode cL_count 14 = .ok (.ireturn, 1) := by decide +kernel
theorem dL_count_15 : decode cL_count 15 = .ok (.iconst 0, 1) := by decide +kernel
theorem dL_count_16 : decode cL_count 16 = .ok (.ireturn, 1) := by decide +kernel
theorem dL_law_0 : decode cL_law 0 = .ok (.new 8, 3) := by decide +kernel
theorem dL_law_3 : decode cL_law 3 = .ok (.dup, 1) := by decide +kernel
theorem dL_law_4 : decode cL_law 4 = .ok (.invokespecial 49, 3) := by decide +kernel
theorem dL_law_7 : decode cL_law 7 = .ok (.astore_n 1, 1) := by decide +kernel
theorem dL_law_8 : decode cL_law 8 = .ok (.new 50, 3) := by decide +kernel
theorem dL_law_11 : decode cL_law 11 = .ok (.dup, 1) := by decide +kernel
theorem dL_law_12 : decode cL_law 12 = .ok (.invokespecial 52, 3) := by decide +kernel
theorem dL_law_15 : decode cL_law 15 = .ok (.astore_n 2, 1) := by decide +kernel
theorem dL_law_16 : decode cL_law 16 = .ok (.iconst 1, 1) := by decide +kernel
theorem dL_law_17 : decode cL_law 17 = .ok (.newarray .long, 2) := by decide +kernel
theorem dL_law_19 : decode cL_law 19 = .ok (.astore_n 3, 1) := by decide +kernel
theorem dL_law_20 : decode cL_law 20 = .ok (.iconst 1, 1) := by decide +kernel
theorem dL_law_21 : decode cL_law 21 = .ok (.newarray .double, 2) := by decide +kernel
theorem dL_law_23 : decode cL_law 23 = .ok (.astore 4, 2) := by decide +kernel
theorem dL_law_25 : decode cL_law 25 = .ok (.iconst 0, 1) := by decide +kernel
theorem dL_law_26 : decode cL_law 26 = .ok (.istore 5, 2) := by decide +kernel
theorem dL_law_28 : decode cL_law 28 = .ok (.iload 5, 2) := by decide +kernel
theorem dL_law_30 : decode cL_law 30 = .ok (.aload_n 0, 1) := by decide +kernel
theorem dL_law_31 : decode cL_law 31 = .ok (.arraylength, 1) := by decide +kernel
theorem dL_law_32 : decode cL_law 32 = .ok (.iconst 5, 1) := by decide +kernel
theorem dL_law_33 : decode cL_law 33 = .ok (.isub, 1) := by decide +kernel
theorem dL_law_34 : decode cL_law 34 = .ok (.if_icmp .gt 799, 3) := by decide +kernel
theorem dL_law_37 : decode cL_law 37 = .ok (.aload_n 0, 1) := by decide +kernel
theorem dL_law_38 : decode cL_law 38 = .ok (.iload 5, 2) := by decide +kernel
theorem dL_law_40 : decode cL_law 40 = .ok (.iaload, 1) := by decide +kernel
theorem dL_law_41 : decode cL_law 41 = .ok (.bipush 15, 2) := by decide +kernel
theorem dL_law_43 : decode cL_law 43 = .ok (.iand, 1) := by decide +kernel
theorem dL_law_44 : decode cL_law 44 = .ok (.tableswitch 783 0 9 #[56, 148, 216, 291, 371, 451, 526, 582, 662, 727], 56) := by decide +kernel
theorem dL_law_100 : decode cL_law 100 = .ok (.aload_n 1, 1) := by decide +kernel
theorem dL_law_101 : decode cL_law 101 = .ok (.aload_n 0, 1) := by decide +kernel
theorem dL_law_102 : decode cL_law 102 = .ok (.iload 5, 2) := by decide +kernel
theorem dL_law_104 : decode cL_law 104 = .ok (.iconst 1, 1) := by decide +kernel
theorem dL_law_105 : decode cL_law 105 = .ok (.iadd, 1) := by decide +kernel
theorem dL_law_106 : decode cL_law 106 = .ok (.iaload, 1) := by decide +kernel
theorem dL_law_107 : decode cL_law 107 = .ok (.aload_n 0, 1) := by decide +kernel
theorem dL_law_108 : decode cL_law 108 = .ok (.iload 5, 2) := by decide +kernel
theorem dL_law_110 : decode cL_law 110 = .ok (.iconst 2, 1) := by decide +kernel
theorem dL_law_111 : decode cL_law 111 = .ok (.iadd, 1) := by decide +kernel
theorem dL_law_112 : decode cL_law 112 = .ok (.iaload, 1) := by decide +kernel
theorem dL_law_113 : decode cL_law 113 = .ok (.aload_n 0, 1) := by decide +kernel
theorem dL_law_114 : decode cL_law 114 = .ok (.iload 5, 2) := by decide +kernel
theorem dL_law_116 : decode cL_law 116 = .ok (.iconst 3, 1) := by decide +kernel
theorem dL_law_117 : decode cL_law 117 = .ok (.iadd, 1) := by decide +kernel
theorem dL_law_118 : decode cL_law 118 = .ok (.iaload, 1) := by decide +kernel
theorem dL_law_119 : decode cL_law 119 = .ok (.aload_n 0, 1) := by decide +kernel
theorem dL_law_120 : decode cL_law 120 = .ok (.iload 5, 2) := by decide +kernel
theorem dL_law_122 : decode cL_law 122 = .ok (.iconst 4, 1) := by decide +kernel
theorem dL_law_123 : decode cL_law 123 = .ok (.iadd, 1) := by decide +kernel
theorem dL_law_124 : decode cL_law 124 = .ok (.iaload, 1) := by decide +kernel
theorem dL_law_125 : decode cL_law 125 = .ok (.aload_n 3, 1) := by decide +kernel
theorem dL_law_126 : decode cL_law 126 = .ok (.invokestatic 53, 3) := by decide +kernel
theorem dL_law_129 : decode cL_law 129 = .ok (.istore 6, 2) := by decide +kernel
theorem dL_law_131 : decode cL_law 131 = .ok (.aload_n 2, 1) := by decide +kernel
theorem dL_law_132 : decode cL_law 132 = .ok (.aload_n 0, 1) := by decide +kernel
theorem dL_law_133 : decode cL_law 133 = .ok (.iload 5, 2) := by decide +kernel
theorem dL_law_135 : decode cL_law 135 = .ok (.iconst 1, 1) := by decide +kernel
theorem dL_law_136 : decode cL_law 136 = .ok (.iadd, 1) := by decide +kernel
theorem dL_law_137 : decode cL_law 137 = .ok (.iaload, 1) := by decide +kernel
theorem dL_law_138 : decode cL_law 138 = .ok (.aload_n 0, 1) := by decide +kernel
theorem dL_law_139 : decode cL_law 139 = .ok (.iload 5, 2) := by decide +kernel
theorem dL_law_141 : decode cL_law 141 = .ok (.iconst 2, 1) := by decide +kernel
theorem dL_law_142 : decode cL_law 142 = .ok (.iadd, 1) := by decide +kernel
theorem dL_law_143 : decode cL_law 143 = .ok (.iaload, 1) := by decide +kernel
theorem dL_law_144 : decode cL_law 144 = .ok (.aload_n 0, 1) := by decide +kernel
theorem dL_law_145 : decode cL_law 145 = .ok (.iload 5, 2) := by decide +kernel
theorem dL_law_147 : decode cL_law 147 = .ok (.iconst 3, 1) := by decide +kernel
theorem dL_law_148 : decode cL_law 148 = .ok (.iadd, 1) := by decide +kernel
theorem dL_law_149 : decode cL_law 149 = .ok (.iaload, 1) := by decide +kernel
theorem dL_law_150 : decode cL_law 150 = .ok (.aload_n 0, 1) := by decide +kernel
theorem dL_law_151 : decode cL_law 151 = .ok (.iload 5, 2) := by decide +kernel
theorem dL_law_153 : decode cL_law 153 = .ok (.iconst 4, 1) := by decide +kernel
theorem dL_law_154 : decode cL_law 154 = .ok (.iadd, 1) := by decide +kernel
theorem dL_law_155 : decode cL_law 155 = .ok (.iaload, 1) := by decide +kernel
theorem dL_law_156 : decode cL_law 156 = .ok (.invokevirtual 58, 3) := by decide +kernel
theorem dL_law_159 : decode cL_law 159 = .ok (.istore 7, 2) := by decide +kernel
theorem dL_law_161 : decode cL_law 161 = .ok (.aload_n 2, 1) := by decide +kernel
theorem dL_law_162 : decode cL_law 162 = .ok (.invokevirtual 59, 3) := by decide +kernel
theorem dL_law_165 : decode cL_law 165 = .ok (.iload 6, 2) := by decide +kernel
theorem dL_law_167 : decode cL_law 167 = .ok (.if_icmp .eq 5, 3) := by decide +kernel
theorem dL_law_170 : decode cL_law 170 = .ok (.iconst 0, 1) := by decide +kernel
theorem dL_law_171 : decode cL_law 171 = .ok (.ireturn, 1) := by decide +kernel
theorem dL_law_172 : decode cL_law 172 = .ok (.iload 6, 2) := by decide +kernel
theorem dL_law_174 : decode cL_law 174 = .ok (.ifCond .ne 15, 3) := by decide +kernel
theorem dL_law_177 : decode cL_law 177 = .ok (.aload_n 3, 1) := by decide +kernel
theorem dL_law_178 : decode cL_law 178 = .ok (.iconst 0, 1) := by decide +kernel
theorem dL_law_179 : decode cL_law 179 = .ok (.laload, 1) := by decide +kernel
theorem dL_law_180 : decode cL_law 180 = .ok (.iload 7, 2) := by decide +kernel
theorem dL_law_182 : decode cL_law 182 = .ok (.i2l, 1) := by decide +kernel
theorem dL_law_183 : decode cL_law 183 = .ok (.lcmp, 1) := by decide +kernel
theorem dL_law_184 : decode cL_law 184 = .ok (.ifCond .eq 5, 3) := by decide +kernel
theorem dL_law_187 : decode cL_law 187 = .ok (.iconst 0, 1) := by decide +kernel
theorem dL_law_188 : decode cL_law 188 = .ok (.ireturn, 1) := by decide +kernel
theorem dL_law_189 : decode cL_law 189 = .ok (.goto 638, 3) := by decide +kernel
theorem dL_law_192 : decode cL_law 192 = .ok (.aload_n 1, 1) := by decide +kernel
theorem dL_law_193 : decode cL_law 193 = .ok (.aload_n 0, 1) := by decide +kernel
theorem dL_law_194 : decode cL_law 194 = .ok (.iload 5, 2) := by decide +kernel
theorem dL_law_196 : decode cL_law 196 = .ok (.iconst 1, 1) := by decide +kernel
theorem dL_law_197 : decode cL_law 197 = .ok (.iadd, 1) := by decide +kernel
theorem dL_law_198 : decode cL_law 198 = .ok (.iaload, 1) := by decide +kernel
theorem dL_law_199 : decode cL_law 199 = .ok (.aload_n 0, 1) := by decide +kernel
theorem dL_law_200 : decode cL_law 200 = .ok (.iload 5, 2) := by decide +kernel
theorem dL_law_202 : decode cL_law 202 = .ok (.iconst 2, 1) := by decide +kernel
theorem dL_law_203 : decode cL_law 203 = .ok (.iadd, 1) := by decide +kernel
theorem dL_law_204 : decode cL_law 204 = .ok (.iaload, 1) := by decide +kernel
theorem dL_law_205 : decode cL_law 205 = .ok (.aload_n 3, 1) := by decide +kernel
theorem dL_law_206 : decode cL_law 206 = .ok (.invokestatic 63, 3) := by decide +kernel
theorem dL_law_209 : decode cL_law 209 = .ok (.istore 6, 2) := by decide +kernel
theorem dL_law_211 : decode cL_law 211 = .ok (.aload_n 2, 1) := by decide +kernel
theorem dL_law_212 : decode cL_law 212 = .ok (.aload_n 0, 1) := by decide +kernel
theorem dL_law_213 : decode cL_law 213 = .ok (.iload 5, 2) := by decide +kernel
theorem dL_law_215 : decode cL_law 215 = .ok (.iconst 1, 1) := by decide +kernel
theorem dL_law_216 : decode cL_law 216 = .ok (.iadd, 1) := by decide +kernel
theorem dL_law_217 : decode cL_law 217 = .ok (.iaload, 1) := by decide +kernel
theorem dL_law_218 : decode cL_law 218 = .ok (.aload_n 0, 1) := by decide +kernel
theorem dL_law_219 : decode cL_law 219 = .ok (.iload 5, 2) := by decide +kernel
theorem dL_law_221 : decode cL_law 221 = .ok (.iconst 2, 1) := by decide +kernel
theorem dL_law_222 : decode cL_law 222 = .ok (.iadd, 1) := by decide +kernel
theorem dL_law_223 : decode cL_law 223 = .ok (.iaload, 1) := by decide +kernel
theorem dL_law_224 : decode cL_law 224 = .ok (.invokevirtual 66, 3) := by decide +kernel
theorem dL_law_227 : decode cL_law 227 = .ok (.istore 7, 2) := by decide +kernel
theorem dL_law_229 : decode cL_law 229 = .ok (.aload_n 2, 1) := by decide +kernel
theorem dL_law_230 : decode cL_law 230 = .ok (.invokevirtual 59, 3) := by decide +kernel
theorem dL_law_233 : decode cL_law 233 = .ok (.iload 6, 2) := by decide +kernel
theorem dL_law_235 : decode cL_law 235 = .ok (.if_icmp .eq 5, 3) := by decide +kernel
theorem dL_law_238 : decode cL_law 238 = .ok (.iconst 0, 1) := by decide +kernel
theorem dL_law_239 : decode cL_law 239 = .ok (.ireturn, 1) := by decide +kernel
theorem dL_law_240 : decode cL_law 240 = .ok (.iload 6, 2) := by decide +kernel
theorem dL_law_242 : decode cL_law 242 = .ok (.ifCond .ne 15, 3) := by decide +kernel
theorem dL_law_245 : decode cL_law 245 = .ok (.aload_n 3, 1) := by decide +kernel
theorem dL_law_246 : decode cL_law 246 = .ok (.iconst 0, 1) := by decide +kernel
theorem dL_law_247 : decode cL_law 247 = .ok (.laload, 1) := by decide +kernel
theorem dL_law_248 : decode cL_law 248 = .ok (.iload 7, 2) := by decide +kernel
theorem dL_law_250 : decode cL_law 250 = .ok (.i2l, 1) := by decide +kernel
theorem dL_law_251 : decode cL_law 251 = .ok (.lcmp, 1) := by decide +kernel
theorem dL_law_252 : decode cL_law 252 = .ok (.ifCond .eq 5, 3) := by decide +kernel
theorem dL_law_255 : decode cL_law 255 = .ok (.iconst 0, 1) := by decide +kernel
theorem dL_law_256 : decode cL_law 256 = .ok (.ireturn, 1) := by decide +kernel
theorem dL_law_257 : decode cL_law 257 = .ok (.goto 570, 3) := by decide +kernel
theorem dL_law_260 : decode cL_law 260 = .ok (.aload_n 1, 1) := by decide +kernel
theorem dL_law_261 : decode cL_law 261 = .ok (.aload_n 0, 1) := by decide +kernel
theorem dL_law_262 : decode cL_law 262 = .ok (.iload 5, 2) := by decide +kernel
theorem dL_law_264 : decode cL_law 264 = .ok (.iconst 1, 1) := by decide +kernel
theorem dL_law_265 : decode cL_law 265 = .ok (.iadd, 1) := by decide +kernel
theorem dL_law_266 : decode cL_law 266 = .ok (.iaload, 1) := by decide +kernel
theorem dL_law_267 : decode cL_law 267 = .ok (.aload_n 0, 1) := by decide +kernel
theorem dL_law_268 : decode cL_law 268 = .ok (.iload 5, 2) := by decide +kernel
theorem dL_law_270 : decode cL_law 270 = .ok (.iconst 2, 1) := by decide +kernel
theorem dL_law_271 : decode cL_law 271 = .ok (.iadd, 1) := by decide +kernel
theorem dL_law_272 : decode cL_law 272 = .ok (.iaload, 1) := by decide +kernel
theorem dL_law_273 : decode cL_law 273 = .ok (.aload_n 3, 1) := by decide +kernel
theorem dL_law_274 : decode cL_law 274 = .ok (.invokestatic 67, 3) := by decide +kernel
theorem dL_law_277 : decode cL_law 277 = .ok (.istore 6, 2) := by decide +kernel
theorem dL_law_279 : decode cL_law 279 = .ok (.aload_n 2, 1) := by decide +kernel
theorem dL_law_280 : decode cL_law 280 = .ok (.aload_n 0, 1) := by decide +kernel
theorem dL_law_281 : decode cL_law 281 = .ok (.iload 5, 2) := by decide +kernel
theorem dL_law_283 : decode cL_law 283 = .ok (.iconst 1, 1) := by decide +kernel
theorem dL_law_284 : decode cL_law 284 = .ok (.iadd, 1) := by decide +kernel
theorem dL_law_285 : decode cL_law 285 = .ok (.iaload, 1) := by decide +kernel
theorem dL_law_286 : decode cL_law 286 = .ok (.aload_n 0, 1) := by decide +kernel
theorem dL_law_287 : decode cL_law 287 = .ok (.iload 5, 2) := by decide +kernel
theorem dL_law_289 : decode cL_law 289 = .ok (.iconst 2, 1) := by decide +kernel
theorem dL_law_290 : decode cL_law 290 = .ok (.iadd, 1) := by decide +kernel
theorem dL_law_291 : decode cL_law 291 = .ok (.iaload, 1) := by decide +kernel
theorem dL_law_292 : decode cL_law 292 = .ok (.invokevirtual 69, 3) := by decide +kernel
theorem dL_law_295 : decode cL_law 295 = .ok (.istore 7, 2) := by decide +kernel
theorem dL_law_297 : decode cL_law 297 = .ok (.aload_n 2, 1) := by decide +kernel
theorem dL_law_298 : decode cL_law 298 = .ok (.invokevirtual 59, 3) := by decide +kernel
theorem dL_law_301 : decode cL_law 301 = .ok (.iload 6, 2) := by decide +kernel
theorem dL_law_303 : decode cL_law 303 = .ok (.if_icmp .eq 5, 3) := by decide +kernel
theorem dL_law_306 : decode cL_law 306 = .ok (.iconst 0, 1) := by decide +kernel
theorem dL_law_307 : decode cL_law 307 = .ok (.ireturn, 1) := by decide +kernel
theorem dL_law_308 : decode cL_law 308 = .ok (.iload 6, 2) := by decide +kernel
theorem dL_law_310 : decode cL_law 310 = .ok (.ifCond .ne 22, 3) := by decide +kernel
theorem dL_law_313 : decode cL_law 313 = .ok (.aload_n 3, 1) := by decide +kernel
theorem dL_law_314 : decode cL_law 314 = .ok (.iconst 0, 1) := by decide +kernel
theorem dL_law_315 : decode cL_law 315 = .ok (.laload, 1) := by decide +kernel
theorem dL_law_316 : decode cL_law 316 = .ok (.iload 7, 2) := by decide +kernel
theorem dL_law_318 : decode cL_law 318 = .ok (.ifCond .eq 7, 3) := by decide +kernel
theorem dL_law_321 : decode cL_law 321 = .ok (.lconst 1, 1) := by decide +kernel
theorem dL_law_322 : decode cL_law 322 = .ok (.goto 4, 3) := by decide +kernel
theorem dL_law_325 : decode cL_law 325 = .ok (.lconst 0, 1) := by decide +kernel
theorem dL_law_326 : decode cL_law 326 = .ok (.lcmp, 1) := by decide +kernel
theorem dL_law_327 : decode cL_law 327 = .ok (.ifCond .eq 5, 3) := by decide +kernel
theorem dL_law_330 : decode cL_law 330 = .ok (.iconst 0, 1) := by decide +kernel
theorem dL_law_331 : decode cL_law 331 = .ok (.ireturn, 1) := by decide +kernel
theorem dL_law_332 : decode cL_law 332 = .ok (.goto 495, 3) := by decide +kernel
theorem dL_law_335 : decode cL_law 335 = .ok (.aload_n 1, 1) := by decide +kernel
theorem dL_law_336 : decode cL_law 336 = .ok (.aload_n 0, 1) := by decide +kernel
theorem dL_law_337 : decode cL_law 337 = .ok (.iload 5, 2) := by decide +kernel
theorem dL_law_339 : decode cL_law 339 = .ok (.iconst 1, 1) := by decide +kernel
theorem dL_law_340 : decode cL_law 340 = .ok (.iadd, 1) := by decide +kernel
theorem dL_law_341 : decode cL_law 341 = .ok (.iaload, 1) := by decide +kernel
theorem dL_law_342 : decode cL_law 342 = .ok (.aload_n 0, 1) := by decide +kernel
theorem dL_law_343 : decode cL_law 343 = .ok (.iload 5, 2) := by decide +kernel
theorem dL_law_345 : decode cL_law 345 = .ok (.iconst 2, 1) := by decide +kernel
theorem dL_law_346 : decode cL_law 346 = .ok (.iadd, 1) := by decide +kernel
theorem dL_law_347 : decode cL_law 347 = .ok (.iaload, 1) := by decide +kernel
theorem dL_law_348 : decode cL_law 348 = .ok (.aload_n 0, 1) := by decide +kernel
theorem dL_law_349 : decode cL_law 349 = .ok (.iload 5, 2) := by decide +kernel
theorem dL_law_351 : decode cL_law 351 = .ok (.iconst 3, 1) := by decide +kernel
theorem dL_law_352 : decode cL_law 352 = .ok (.iadd, 1) := by decide +kernel
theorem dL_law_353 : decode cL_law 353 = .ok (.iaload, 1) := by decide +kernel
theorem dL_law_354 : decode cL_law 354 = .ok (.aload_n 3, 1) := by decide +kernel
theorem dL_law_355 : decode cL_law 355 = .ok (.invokestatic 70, 3) := by decide +kernel
theorem dL_law_358 : decode cL_law 358 = .ok (.istore 6, 2) := by decide +kernel
theorem dL_law_360 : decode cL_law 360 = .ok (.aload_n 2, 1) := by decide +kernel
theorem dL_law_361 : decode cL_law 361 = .ok (.aload_n 0, 1) := by decide +kernel
theorem dL_law_362 : decode cL_law 362 = .ok (.iload 5, 2) := by decide +kernel
theorem dL_law_364 : decode cL_law 364 = .ok (.iconst 1, 1) := by decide +kernel
theorem dL_law_365 : decode cL_law 365 = .ok (.iadd, 1) := by decide +kernel
theorem dL_law_366 : decode cL_law 366 = .ok (.iaload, 1) := by decide +kernel
theorem dL_law_367 : decode cL_law 367 = .ok (.aload_n 0, 1) := by decide +kernel
theorem dL_law_368 : decode cL_law 368 = .ok (.iload 5, 2) := by decide +kernel
theorem dL_law_370 : decode cL_law 370 = .ok (.iconst 2, 1) := by decide +kernel
theorem dL_law_371 : decode cL_law 371 = .ok (.iadd, 1) := by decide +kernel
theorem dL_law_372 : decode cL_law 372 = .ok (.iaload, 1) := by decide +kernel
theorem dL_law_373 : decode cL_law 373 = .ok (.aload_n 0, 1) := by decide +kernel
theorem dL_law_374 : decode cL_law 374 = .ok (.iload 5, 2) := by decide +kernel
theorem dL_law_376 : decode cL_law 376 = .ok (.iconst 3, 1) := by decide +kernel
theorem dL_law_377 : decode cL_law 377 = .ok (.iadd, 1) := by decide +kernel
theorem dL_law_378 : decode cL_law 378 = .ok (.iaload, 1) := by decide +kernel
theorem dL_law_379 : decode cL_law 379 = .ok (.invokevirtual 73, 3) := by decide +kernel
theorem dL_law_382 : decode cL_law 382 = .ok (.istore 7, 2) := by decide +kernel
theorem dL_law_384 : decode cL_law 384 = .ok (.aload_n 2, 1) := by decide +kernel
theorem dL_law_385 : decode cL_law 385 = .ok (.invokevirtual 59, 3) := by decide +kernel
theorem dL_law_388 : decode cL_law 388 = .ok (.iload 6, 2) := by decide +kernel
theorem dL_law_390 : decode cL_law 390 = .ok (.if_icmp .eq 5, 3) := by decide +kernel
theorem dL_law_393 : decode cL_law 393 = .ok (.iconst 0, 1) := by decide +kernel
theorem dL_law_394 : decode cL_law 394 = .ok (.ireturn, 1) := by decide +kernel
theorem dL_law_395 : decode cL_law 395 = .ok (.iload 6, 2) := by decide +kernel
theorem dL_law_397 : decode cL_law 397 = .ok (.ifCond .ne 15, 3) := by decide +kernel
theorem dL_law_400 : decode cL_law 400 = .ok (.aload_n 3, 1) := by decide +kernel
theorem dL_law_401 : decode cL_law 401 = .ok (.iconst 0, 1) := by decide +kernel
theorem dL_law_402 : decode cL_law 402 = .ok (.laload, 1) := by decide +kernel
theorem dL_law_403 : decode cL_law 403 = .ok (.iload 7, 2) := by decide +kernel
theorem dL_law_405 : decode cL_law 405 = .ok (.i2l, 1) := by decide +kernel
theorem dL_law_406 : decode cL_law 406 = .ok (.lcmp, 1) := by decide +kernel
theorem dL_law_407 : decode cL_law 407 = .ok (.ifCond .eq 5, 3) := by decide +kernel
theorem dL_law_410 : decode cL_law 410 = .ok (.iconst 0, 1) := by decide +kernel
theorem dL_law_411 : decode cL_law 411 = .ok (.ireturn, 1) := by decide +kernel
theorem dL_law_412 : decode cL_law 412 = .ok (.goto 415, 3) := by decide +kernel
theorem dL_law_415 : decode cL_law 415 = .ok (.aload_n 1, 1) := by decide +kernel
theorem dL_law_416 : decode cL_law 416 = .ok (.aload_n 0, 1) := by decide +kernel
theorem dL_law_417 : decode cL_law 417 = .ok (.iload 5, 2) := by decide +kernel
theorem dL_law_419 : decode cL_law 419 = .ok (.iconst 1, 1) := by decide +kernel
theorem dL_law_420 : decode cL_law 420 = .ok (.iadd, 1) := by decide +kernel
theorem dL_law_421 : decode cL_law 421 = .ok (.iaload, 1) := by decide +kernel
theorem dL_law_422 : decode cL_law 422 = .ok (.aload_n 0, 1) := by decide +kernel
theorem dL_law_423 : decode cL_law 423 = .ok (.iload 5, 2) := by decide +kernel
theorem dL_law_425 : decode cL_law 425 = .ok (.iconst 2, 1) := by decide +kernel
theorem dL_law_426 : decode cL_law 426 = .ok (.iadd, 1) := by decide +kernel
theorem dL_law_427 : decode cL_law 427 = .ok (.iaload, 1) := by decide +kernel
theorem dL_law_428 : decode cL_law 428 = .ok (.aload_n 0, 1) := by decide +kernel
theorem dL_law_429 : decode cL_law 429 = .ok (.iload 5, 2) := by decide +kernel
theorem dL_law_431 : decode cL_law 431 = .ok (.iconst 3, 1) := by decide +kernel
theorem dL_law_432 : decode cL_law 432 = .ok (.iadd, 1) := by decide +kernel
theorem dL_law_433 : decode cL_law 433 = .ok (.iaload, 1) := by decide +kernel
theorem dL_law_434 : decode cL_law 434 = .ok (.aload_n 3, 1) := by decide +kernel
theorem dL_law_435 : decode cL_law 435 = .ok (.invokestatic 74, 3) := by decide +kernel
theorem dL_law_438 : decode cL_law 438 = .ok (.istore 6, 2) := by decide +kernel
theorem dL_law_440 : decode cL_law 440 = .ok (.aload_n 2, 1) := by decide +kernel
theorem dL_law_441 : decode cL_law 441 = .ok (.aload_n 0, 1) := by decide +kernel
theorem dL_law_442 : decode cL_law 442 = .ok (.iload 5, 2) := by decide +kernel
theorem dL_law_444 : decode cL_law 444 = .ok (.iconst 1, 1) := by decide +kernel
theorem dL_law_445 : decode cL_law 445 = .ok (.iadd, 1) := by decide +kernel
theorem dL_law_446 : decode cL_law 446 = .ok (.iaload, 1) := by decide +kernel
theorem dL_law_447 : decode cL_law 447 = .ok (.aload_n 0, 1) := by decide +kernel
theorem dL_law_448 : decode cL_law 448 = .ok (.iload 5, 2) := by decide +kernel
theorem dL_law_450 : decode cL_law 450 = .ok (.iconst 2, 1) := by decide +kernel
theorem dL_law_451 : decode cL_law 451 = .ok (.iadd, 1) := by decide +kernel
theorem dL_law_452 : decode cL_law 452 = .ok (.iaload, 1) := by decide +kernel
theorem dL_law_453 : decode cL_law 453 = .ok (.aload_n 0, 1) := by decide +kernel
theorem dL_law_454 : decode cL_law 454 = .ok (.iload 5, 2) := by decide +kernel
theorem dL_law_456 : decode cL_law 456 = .ok (.iconst 3, 1) := by decide +kernel
theorem dL_law_457 : decode cL_law 457 = .ok (.iadd, 1) := by decide +kernel
theorem dL_law_458 : decode cL_law 458 = .ok (.iaload, 1) := by decide +kernel
theorem dL_law_459 : decode cL_law 459 = .ok (.invokevirtual 76, 3) := by decide +kernel
theorem dL_law_462 : decode cL_law 462 = .ok (.istore 7, 2) := by decide +kernel
theorem dL_law_464 : decode cL_law 464 = .ok (.aload_n 2, 1) := by decide +kernel
theorem dL_law_465 : decode cL_law 465 = .ok (.invokevirtual 59, 3) := by decide +kernel
theorem dL_law_468 : decode cL_law 468 = .ok (.iload 6, 2) := by decide +kernel
theorem dL_law_470 : decode cL_law 470 = .ok (.if_icmp .eq 5, 3) := by decide +kernel
theorem dL_law_473 : decode cL_law 473 = .ok (.iconst 0, 1) := by decide +kernel
theorem dL_law_474 : decode cL_law 474 = .ok (.ireturn, 1) := by decide +kernel
theorem dL_law_475 : decode cL_law 475 = .ok (.iload 6, 2) := by decide +kernel
theorem dL_law_477 : decode cL_law 477 = .ok (.ifCond .ne 15, 3) := by decide +kernel
theorem dL_law_480 : decode cL_law 480 = .ok (.aload_n 3, 1) := by decide +kernel
theorem dL_law_481 : decode cL_law 481 = .ok (.iconst 0, 1) := by decide +kernel
theorem dL_law_482 : decode cL_law 482 = .ok (.laload, 1) := by decide +kernel
theorem dL_law_483 : decode cL_law 483 = .ok (.iload 7, 2) := by decide +kernel
theorem dL_law_485 : decode cL_law 485 = .ok (.i2l, 1) := by decide +kernel
theorem dL_law_486 : decode cL_law 486 = .ok (.lcmp, 1) := by decide +kernel
theorem dL_law_487 : decode cL_law 487 = .ok (.ifCond .eq 5, 3) := by decide +kernel
theorem dL_law_490 : decode cL_law 490 = .ok (.iconst 0, 1) := by decide +kernel
theorem dL_law_491 : decode cL_law 491 = .ok (.ireturn, 1) := by decide +kernel
theorem dL_law_492 : decode cL_law 492 = .ok (.goto 335, 3) := by decide +kernel
theorem dL_law_495 : decode cL_law 495 = .ok (.aload_n 1, 1) := by decide +kernel
theorem dL_law_496 : decode cL_law 496 = .ok (.aload_n 0, 1) := by decide +kernel
theorem dL_law_497 : decode cL_law 497 = .ok (.iload 5, 2) := by decide +kernel
theorem dL_law_499 : decode cL_law 499 = .ok (.iconst 1, 1) := by decide +kernel
theorem dL_law_500 : decode cL_law 500 = .ok (.iadd, 1) := by decide +kernel
theorem dL_law_501 : decode cL_law 501 = .ok (.iaload, 1) := by decide +kernel
theorem dL_law_502 : decode cL_law 502 = .ok (.aload_n 0, 1) := by decide +kernel
theorem dL_law_503 : decode cL_law 503 = .ok (.iload 5, 2) := by decide +kernel
theorem dL_law_505 : decode cL_law 505 = .ok (.iconst 2, 1) := by decide +kernel
theorem dL_law_506 : decode cL_law 506 = .ok (.iadd, 1) := by decide +kernel
theorem dL_law_507 : decode cL_law 507 = .ok (.iaload, 1) := by decide +kernel
theorem dL_law_508 : decode cL_law 508 = .ok (.aload_n 3, 1) := by decide +kernel
theorem dL_law_509 : decode cL_law 509 = .ok (.invokestatic 77, 3) := by decide +kernel
theorem dL_law_512 : decode cL_law 512 = .ok (.istore 6, 2) := by decide +kernel
theorem dL_law_514 : decode cL_law 514 = .ok (.aload_n 2, 1) := by decide +kernel
theorem dL_law_515 : decode cL_law 515 = .ok (.aload_n 0, 1) := by decide +kernel
theorem dL_law_516 : decode cL_law 516 = .ok (.iload 5, 2) := by decide +kernel
theorem dL_law_518 : decode cL_law 518 = .ok (.iconst 1, 1) := by decide +kernel
theorem dL_law_519 : decode cL_law 519 = .ok (.iadd, 1) := by decide +kernel
theorem dL_law_520 : decode cL_law 520 = .ok (.iaload, 1) := by decide +kernel
theorem dL_law_521 : decode cL_law 521 = .ok (.aload_n 0, 1) := by decide +kernel
theorem dL_law_522 : decode cL_law 522 = .ok (.iload 5, 2) := by decide +kernel
theorem dL_law_524 : decode cL_law 524 = .ok (.iconst 2, 1) := by decide +kernel
theorem dL_law_525 : decode cL_law 525 = .ok (.iadd, 1) := by decide +kernel
theorem dL_law_526 : decode cL_law 526 = .ok (.iaload, 1) := by decide +kernel
theorem dL_law_527 : decode cL_law 527 = .ok (.invokevirtual 79, 3) := by decide +kernel
theorem dL_law_530 : decode cL_law 530 = .ok (.istore 7, 2) := by decide +kernel
theorem dL_law_532 : decode cL_law 532 = .ok (.aload_n 2, 1) := by decide +kernel
theorem dL_law_533 : decode cL_law 533 = .ok (.invokevirtual 59, 3) := by decide +kernel
theorem dL_law_536 : decode cL_law 536 = .ok (.iload 6, 2) := by decide +kernel
theorem dL_law_538 : decode cL_law 538 = .ok (.if_icmp .eq 5, 3) := by decide +kernel
theorem dL_law_541 : decode cL_law 541 = .ok (.iconst 0, 1) := by decide +kernel
theorem dL_law_542 : decode cL_law 542 = .ok (.ireturn, 1) := by decide +kernel
theorem dL_law_543 : decode cL_law 543 = .ok (.iload 6, 2) := by decide +kernel
theorem dL_law_545 : decode cL_law 545 = .ok (.ifCond .ne 22, 3) := by decide +kernel
theorem dL_law_548 : decode cL_law 548 = .ok (.aload_n 3, 1) := by decide +kernel
theorem dL_law_549 : decode cL_law 549 = .ok (.iconst 0, 1) := by decide +kernel
theorem dL_law_550 : decode cL_law 550 = .ok (.laload, 1) := by decide +kernel
theorem dL_law_551 : decode cL_law 551 = .ok (.iload 7, 2) := by decide +kernel
theorem dL_law_553 : decode cL_law 553 = .ok (.ifCond .eq 7, 3) := by decide +kernel
theorem dL_law_556 : decode cL_law 556 = .ok (.lconst 1, 1) := by decide +kernel
theorem dL_law_557 : decode cL_law 557 = .ok (.goto 4, 3) := by decide +kernel
theorem dL_law_560 : decode cL_law 560 = .ok (.lconst 0, 1) := by decide +kernel
theorem dL_law_561 : decode cL_law 561 = .ok (.lcmp, 1) := by decide +kernel
theorem dL_law_562 : decode cL_law 562 = .ok (.ifCond .eq 5, 3) := by decide +kernel
theorem dL_law_565 : decode cL_law 565 = .ok (.iconst 0, 1) := by decide +kernel
theorem dL_law_566 : decode cL_law 566 = .ok (.ireturn, 1) := by decide +kernel
theorem dL_law_567 : decode cL_law 567 = .ok (.goto 260, 3) := by decide +kernel
theorem dL_law_570 : decode cL_law 570 = .ok (.aload_n 1, 1) := by decide +kernel
theorem dL_law_571 : decode cL_law 571 = .ok (.aload_n 0, 1) := by decide +kernel
theorem dL_law_572 : decode cL_law 572 = .ok (.iload 5, 2) := by decide +kernel
theorem dL_law_574 : decode cL_law 574 = .ok (.iconst 1, 1) := by decide +kernel
theorem dL_law_575 : decode cL_law 575 = .ok (.iadd, 1) := by decide +kernel
theorem dL_law_576 : decode cL_law 576 = .ok (.iaload, 1) := by decide +kernel
theorem dL_law_577 : decode cL_law 577 = .ok (.aload_n 3, 1) := by decide +kernel
theorem dL_law_578 : decode cL_law 578 = .ok (.invokestatic 80, 3) := by decide +kernel
theorem dL_law_581 : decode cL_law 581 = .ok (.istore 6, 2) := by decide +kernel
theorem dL_law_583 : decode cL_law 583 = .ok (.aload_n 2, 1) := by decide +kernel
theorem dL_law_584 : decode cL_law 584 = .ok (.aload_n 0, 1) := by decide +kernel
theorem dL_law_585 : decode cL_law 585 = .ok (.iload 5, 2) := by decide +kernel
theorem dL_law_587 : decode cL_law 587 = .ok (.iconst 1, 1) := by decide +kernel
theorem dL_law_588 : decode cL_law 588 = .ok (.iadd, 1) := by decide +kernel
theorem dL_law_589 : decode cL_law 589 = .ok (.iaload, 1) := by decide +kernel
theorem dL_law_590 : decode cL_law 590 = .ok (.invokevirtual 83, 3) := by decide +kernel
theorem dL_law_593 : decode cL_law 593 = .ok (.istore 7, 2) := by decide +kernel
theorem dL_law_595 : decode cL_law 595 = .ok (.aload_n 2, 1) := by decide +kernel
theorem dL_law_596 : decode cL_law 596 = .ok (.invokevirtual 59, 3) := by decide +kernel
theorem dL_law_599 : decode cL_law 599 = .ok (.iload 6, 2) := by decide +kernel
theorem dL_law_601 : decode cL_law 601 = .ok (.if_icmp .eq 5, 3) := by decide +kernel
theorem dL_law_604 : decode cL_law 604 = .ok (.iconst 0, 1) := by decide +kernel
theorem dL_law_605 : decode cL_law 605 = .ok (.ireturn, 1) := by decide +kernel
theorem dL_law_606 : decode cL_law 606 = .ok (.iload 6, 2) := by decide +kernel
theorem dL_law_608 : decode cL_law 608 = .ok (.ifCond .ne 15, 3) := by decide +kernel
theorem dL_law_611 : decode cL_law 611 = .ok (.aload_n 3, 1) := by decide +kernel
theorem dL_law_612 : decode cL_law 612 = .ok (.iconst 0, 1) := by decide +kernel
theorem dL_law_613 : decode cL_law 613 = .ok (.laload, 1) := by decide +kernel
theorem dL_law_614 : decode cL_law 614 = .ok (.iload 7, 2) := by decide +kernel
theorem dL_law_616 : decode cL_law 616 = .ok (.i2l, 1) := by decide +kernel
theorem dL_law_617 : decode cL_law 617 = .ok (.lcmp, 1) := by decide +kernel
theorem dL_law_618 : decode cL_law 618 = .ok (.ifCond .eq 5, 3) := by decide +kernel
theorem dL_law_621 : decode cL_law 621 = .ok (.iconst 0, 1) := by decide +kernel
theorem dL_law_622 : decode cL_law 622 = .ok (.ireturn, 1) := by decide +kernel
theorem dL_law_623 : decode cL_law 623 = .ok (.goto 204, 3) := by decide +kernel
theorem dL_law_626 : decode cL_law 626 = .ok (.aload_n 1, 1) := by decide +kernel
theorem dL_law_627 : decode cL_law 627 = .ok (.aload_n 0, 1) := by decide +kernel
theorem dL_law_628 : decode cL_law 628 = .ok (.iload 5, 2) := by decide +kernel
theorem dL_law_630 : decode cL_law 630 = .ok (.iconst 1, 1) := by decide +kernel
theorem dL_law_631 : decode cL_law 631 = .ok (.iadd, 1) := by decide +kernel
theorem dL_law_632 : decode cL_law 632 = .ok (.iaload, 1) := by decide +kernel
theorem dL_law_633 : decode cL_law 633 = .ok (.aload_n 0, 1) := by decide +kernel
theorem dL_law_634 : decode cL_law 634 = .ok (.iload 5, 2) := by decide +kernel
theorem dL_law_636 : decode cL_law 636 = .ok (.iconst 2, 1) := by decide +kernel
theorem dL_law_637 : decode cL_law 637 = .ok (.iadd, 1) := by decide +kernel
theorem dL_law_638 : decode cL_law 638 = .ok (.iaload, 1) := by decide +kernel
theorem dL_law_639 : decode cL_law 639 = .ok (.aload_n 0, 1) := by decide +kernel
theorem dL_law_640 : decode cL_law 640 = .ok (.iload 5, 2) := by decide +kernel
theorem dL_law_642 : decode cL_law 642 = .ok (.iconst 3, 1) := by decide +kernel
theorem dL_law_643 : decode cL_law 643 = .ok (.iadd, 1) := by decide +kernel
theorem dL_law_644 : decode cL_law 644 = .ok (.iaload, 1) := by decide +kernel
theorem dL_law_645 : decode cL_law 645 = .ok (.aload_n 3, 1) := by decide +kernel
theorem dL_law_646 : decode cL_law 646 = .ok (.invokestatic 84, 3) := by decide +kernel
theorem dL_law_649 : decode cL_law 649 = .ok (.istore 6, 2) := by decide +kernel
theorem dL_law_651 : decode cL_law 651 = .ok (.aload_n 2, 1) := by decide +kernel
theorem dL_law_652 : decode cL_law 652 = .ok (.aload_n 0, 1) := by decide +kernel
theorem dL_law_653 : decode cL_law 653 = .ok (.iload 5, 2) := by decide +kernel
theorem dL_law_655 : decode cL_law 655 = .ok (.iconst 1, 1) := by decide +kernel
theorem dL_law_656 : decode cL_law 656 = .ok (.iadd, 1) := by decide +kernel
theorem dL_law_657 : decode cL_law 657 = .ok (.iaload, 1) := by decide +kernel
theorem dL_law_658 : decode cL_law 658 = .ok (.aload_n 0, 1) := by decide +kernel
theorem dL_law_659 : decode cL_law 659 = .ok (.iload 5, 2) := by decide +kernel
theorem dL_law_661 : decode cL_law 661 = .ok (.iconst 2, 1) := by decide +kernel
theorem dL_law_662 : decode cL_law 662 = .ok (.iadd, 1) := by decide +kernel
theorem dL_law_663 : decode cL_law 663 = .ok (.iaload, 1) := by decide +kernel
theorem dL_law_664 : decode cL_law 664 = .ok (.aload_n 0, 1) := by decide +kernel
theorem dL_law_665 : decode cL_law 665 = .ok (.iload 5, 2) := by decide +kernel
theorem dL_law_667 : decode cL_law 667 = .ok (.iconst 3, 1) := by decide +kernel
theorem dL_law_668 : decode cL_law 668 = .ok (.iadd, 1) := by decide +kernel
theorem dL_law_669 : decode cL_law 669 = .ok (.iaload, 1) := by decide +kernel
theorem dL_law_670 : decode cL_law 670 = .ok (.invokevirtual 86, 3) := by decide +kernel
theorem dL_law_673 : decode cL_law 673 = .ok (.istore 7, 2) := by decide +kernel
theorem dL_law_675 : decode cL_law 675 = .ok (.aload_n 2, 1) := by decide +kernel
theorem dL_law_676 : decode cL_law 676 = .ok (.invokevirtual 59, 3) := by decide +kernel
theorem dL_law_679 : decode cL_law 679 = .ok (.iload 6, 2) := by decide +kernel
theorem dL_law_681 : decode cL_law 681 = .ok (.if_icmp .eq 5, 3) := by decide +kernel
theorem dL_law_684 : decode cL_law 684 = .ok (.iconst 0, 1) := by decide +kernel
theorem dL_law_685 : decode cL_law 685 = .ok (.ireturn, 1) := by decide +kernel
theorem dL_law_686 : decode cL_law 686 = .ok (.iload 6, 2) := by decide +kernel
theorem dL_law_688 : decode cL_law 688 = .ok (.ifCond .ne 15, 3) := by decide +kernel
theorem dL_law_691 : decode cL_law 691 = .ok (.aload_n 3, 1) := by decide +kernel
theorem dL_law_692 : decode cL_law 692 = .ok (.iconst 0, 1) := by decide +kernel
theorem dL_law_693 : decode cL_law 693 = .ok (.laload, 1) := by decide +kernel
theorem dL_law_694 : decode cL_law 694 = .ok (.iload 7, 2) := by decide +kernel
theorem dL_law_696 : decode cL_law 696 = .ok (.i2l, 1) := by decide +kernel
theorem dL_law_697 : decode cL_law 697 = .ok (.lcmp, 1) := by decide +kernel
theorem dL_law_698 : decode cL_law 698 = .ok (.ifCond .eq 5, 3) := by decide +kernel
theorem dL_law_701 : decode cL_law 701 = .ok (.iconst 0, 1) := by decide +kernel
theorem dL_law_702 : decode cL_law 702 = .ok (.ireturn, 1) := by decide +kernel
theorem dL_law_703 : decode cL_law 703 = .ok (.goto 124, 3) := by decide +kernel
theorem dL_law_706 : decode cL_law 706 = .ok (.aload_n 1, 1) := by decide +kernel
theorem dL_law_707 : decode cL_law 707 = .ok (.aload 4, 2) := by decide +kernel
theorem dL_law_709 : decode cL_law 709 = .ok (.invokestatic 87, 3) := by decide +kernel
theorem dL_law_712 : decode cL_law 712 = .ok (.istore 6, 2) := by decide +kernel
theorem dL_law_714 : decode cL_law 714 = .ok (.aload_n 2, 1) := by decide +kernel
theorem dL_law_715 : decode cL_law 715 = .ok (.invokevirtual 90, 3) := by decide +kernel
theorem dL_law_718 : decode cL_law 718 = .ok (.dstore 7, 2) := by decide +kernel
theorem dL_law_720 : decode cL_law 720 = .ok (.aload_n 2, 1) := by decide +kernel
theorem dL_law_721 : decode cL_law 721 = .ok (.invokevirtual 59, 3) := by decide +kernel
theorem dL_law_724 : decode cL_law 724 = .ok (.iload 6, 2) := by decide +kernel
theorem dL_law_726 : decode cL_law 726 = .ok (.if_icmp .eq 5, 3) := by decide +kernel
theorem dL_law_729 : decode cL_law 729 = .ok (.iconst 0, 1) := by decide +kernel
theorem dL_law_730 : decode cL_law 730 = .ok (.ireturn, 1) := by decide +kernel
theorem dL_law_731 : decode cL_law 731 = .ok (.iload 6, 2) := by decide +kernel
theorem dL_law_733 : decode cL_law 733 = .ok (.ifCond .ne 35, 3) := by decide +kernel
theorem dL_law_736 : decode cL_law 736 = .ok (.aload 4, 2) := by decide +kernel
theorem dL_law_738 : decode cL_law 738 = .ok (.iconst 0, 1) := by decide +kernel
theorem dL_law_739 : decode cL_law 739 = .ok (.daload, 1) := by decide +kernel
theorem dL_law_740 : decode cL_law 740 = .ok (.dload 7, 2) := by decide +kernel
theorem dL_law_742 : decode cL_law 742 = .ok (.dcmp .l, 1) := by decide +kernel
theorem dL_law_743 : decode cL_law 743 = .ok (.ifCond .eq 25, 3) := by decide +kernel
theorem dL_law_746 : decode cL_law 746 = .ok (.aload 4, 2) := by decide +kernel
theorem dL_law_748 : decode cL_law 748 = .ok (.iconst 0, 1) := by decide +kernel
theorem dL_law_749 : decode cL_law 749 = .ok (.daload, 1) := by decide +kernel
theorem dL_law_750 : decode cL_law 750 = .ok (.aload 4, 2) := by decide +kernel
theorem dL_law_752 : decode cL_law 752 = .ok (.iconst 0, 1) := by decide +kernel
theorem dL_law_753 : decode cL_law 753 = .ok (.daload, 1) := by decide +kernel
theorem dL_law_754 : decode cL_law 754 = .ok (.dcmp .l, 1) := by decide +kernel
theorem dL_law_755 : decode cL_law 755 = .ok (.ifCond .eq 11, 3) := by decide +kernel
theorem dL_law_758 : decode cL_law 758 = .ok (.dload 7, 2) := by decide +kernel
theorem dL_law_760 : decode cL_law 760 = .ok (.dload 7, 2) := by decide +kernel
theorem dL_law_762 : decode cL_law 762 = .ok (.dcmp .l, 1) := by decide +kernel
theorem dL_law_763 : decode cL_law 763 = .ok (.ifCond .ne 5, 3) := by decide +kernel
theorem dL_law_766 : decode cL_law 766 = .ok (.iconst 0, 1) := by decide +kernel
theorem dL_law_767 : decode cL_law 767 = .ok (.ireturn, 1) := by decide +kernel
theorem dL_law_768 : decode cL_law 768 = .ok (.goto 59, 3) := by decide +kernel
theorem dL_law_771 : decode cL_law 771 = .ok (.aload_n 1, 1) := by decide +kernel
theorem dL_law_772 : decode cL_law 772 = .ok (.aload_n 0, 1) := by decide +kernel
theorem dL_law_773 : decode cL_law 773 = .ok (.iload 5, 2) := by decide +kernel
theorem dL_law_775 : decode cL_law 775 = .ok (.iconst 1, 1) := by decide +kernel
theorem dL_law_776 : decode cL_law 776 = .ok (.iadd, 1) := by decide +kernel
theorem dL_law_777 : decode cL_law 777 = .ok (.iaload, 1) := by decide +kernel
theorem dL_law_778 : decode cL_law 778 = .ok (.aload_n 3, 1) := by decide +kernel
theorem dL_law_779 : decode cL_law 779 = .ok (.invokestatic 91, 3) := by decide +kernel
theorem dL_law_782 : decode cL_law 782 = .ok (.istore 6, 2) := by decide +kernel
theorem dL_law_784 : decode cL_law 784 = .ok (.aload_n 2, 1) := by decide +kernel
theorem dL_law_785 : decode cL_law 785 = .ok (.aload_n 0, 1) := by decide +kernel
theorem dL_law_786 : decode cL_law 786 = .ok (.iload 5, 2) := by decide +kernel
theorem dL_law_788 : decode cL_law 788 = .ok (.iconst 1, 1) := by decide +kernel
theorem dL_law_789 : decode cL_law 789 = .ok (.iadd, 1) := by decide +kernel
theorem dL_law_790 : decode cL_law 790 = .ok (.iaload, 1) := by decide +kernel
theorem dL_law_791 : decode cL_law 791 = .ok (.invokevirtual 93, 3) := by decide +kernel
theorem dL_law_794 : decode cL_law 794 = .ok (.istore 7, 2) := by decide +kernel
theorem dL_law_796 : decode cL_law 796 = .ok (.aload_n 2, 1) := by decide +kernel
theorem dL_law_797 : decode cL_law 797 = .ok (.invokevirtual 59, 3) := by decide +kernel
theorem dL_law_800 : decode cL_law 800 = .ok (.iload 6, 2) := by decide +kernel
theorem dL_law_802 : decode cL_law 802 = .ok (.if_icmp .eq 5, 3) := by decide +kernel
theorem dL_law_805 : decode cL_law 805 = .ok (.iconst 0, 1) := by decide +kernel
theorem dL_law_806 : decode cL_law 806 = .ok (.ireturn, 1) := by decide +kernel
theorem dL_law_807 : decode cL_law 807 = .ok (.iload 6, 2) := by decide +kernel
theorem dL_law_809 : decode cL_law 809 = .ok (.ifCond .ne 15, 3) := by decide +kernel
theorem dL_law_812 : decode cL_law 812 = .ok (.aload_n 3, 1) := by decide +kernel
theorem dL_law_813 : decode cL_law 813 = .ok (.iconst 0, 1) := by decide +kernel
theorem dL_law_814 : decode cL_law 814 = .ok (.laload, 1) := by decide +kernel
theorem dL_law_815 : decode cL_law 815 = .ok (.iload 7, 2) := by decide +kernel
theorem dL_law_817 : decode cL_law 817 = .ok (.i2l, 1) := by decide +kernel
theorem dL_law_818 : decode cL_law 818 = .ok (.lcmp, 1) := by decide +kernel
theorem dL_law_819 : decode cL_law 819 = .ok (.ifCond .eq 5, 3) := by decide +kernel
theorem dL_law_822 : decode cL_law 822 = .ok (.iconst 0, 1) := by decide +kernel
theorem dL_law_823 : decode cL_law 823 = .ok (.ireturn, 1) := by decide +kernel
theorem dL_law_824 : decode cL_law 824 = .ok (.goto 3, 3) := by decide +kernel
theorem dL_law_827 : decode cL_law 827 = .ok (.iinc 5 5, 3) := by decide +kernel
theorem dL_law_830 : decode cL_law 830 = .ok (.goto (-802), 3) := by decide +kernel
theorem dL_law_833 : decode cL_law 833 = .ok (.iconst 1, 1) := by decide +kernel
theorem dL_law_834 : decode cL_law 834 = .ok (.ireturn, 1) := by decide +kernel
end
section
/-! THE ABSTRACT MEMORY: ints, longs and doubles by group, index and place; the world's cells read off it -/
abbrev Mem : Type := (Nat → Nat → Nat → Int32) × (Nat → Nat → Int64) × (Nat → Nat → UInt64)
def rd (σ : Mem) (g i k : Nat) : Int32 := σ.1 g i k
def rl (σ : Mem) (g k : Nat) : Int64 := σ.2.1 g k
def rz (σ : Mem) (g k : Nat) : UInt64 := σ.2.2 g k
def wr (σ : Mem) (g i k : Nat) (v : Int32) : Mem := (fun g' i' k' => if g' = g ∧ i' = i ∧ k' = k then v else σ.1 g' i' k', σ.2)
def wrl (σ : Mem) (g k : Nat) (v : Int64) : Mem := (σ.1, fun g' k' => if g' = g ∧ k' = k then v else σ.2.1 g' k', σ.2.2)
def wrz (σ : Mem) (g k : Nat) (v : UInt64) : Mem := (σ.1, σ.2.1, fun g' k' => if g' = g ∧ k' = k then v else σ.2.2 g' k')
theorem rd_wr (σ : Mem) (g i k : Nat) (v : Int32) (g' i' k' : Nat) : rd (wr σ g i k v) g' i' k' = if g' = g ∧ i' = i ∧ k' = k then v else rd σ g' i' k' := rfl
theorem rl_wr (σ : Mem) (g i k : Nat) (v : Int32) (g' k' : Nat) : rl (wr σ g i k v) g' k' = rl σ g' k' := rfl
theorem rz_wr (σ : Mem) (g i k : Nat) (v : Int32) (g' k' : Nat) : rz (wr σ g i k v) g' k' = rz σ g' k' := rfl
theorem rd_wrl (σ : Mem) (g k : Nat) (v : Int64) (g' i' k' : Nat) : rd (wrl σ g k v) g' i' k' = rd σ g' i' k' := rfl
theorem rl_wrl (σ : Mem) (g k : Nat) (v : Int64) (g' k' : Nat) : rl (wrl σ g k v) g' k' = if g' = g ∧ k' = k then v else rl σ g' k' := rfl
theorem rz_wrl (σ : Mem) (g k : Nat) (v : Int64) (g' k' : Nat) : rz (wrl σ g k v) g' k' = rz σ g' k' := rfl
theorem rd_wrz (σ : Mem) (g k : Nat) (v : UInt64) (g' i' k' : Nat) : rd (wrz σ g k v) g' i' k' = rd σ g' i' k' := rfl
theorem rl_wrz (σ : Mem) (g k : Nat) (v : UInt64) (g' k' : Nat) : rl (wrz σ g k v) g' k' = rl σ g' k' := rfl
theorem rz_wrz (σ : Mem) (g k : Nat) (v : UInt64) (g' k' : Nat) : rz (wrz σ g k v) g' k' = if g' = g ∧ k' = k then v else rz σ g' k' := rfl
/-- abstract values: an int, a long, a double, a reference to a group's cell -/
abbrev AV : Type := Int32 ⊕ (Int64 ⊕ (UInt64 ⊕ (Nat × Nat)))
abbrev aI (x : Int32) : AV := Sum.inl x
abbrev aL (x : Int64) : AV := Sum.inr (Sum.inl x)
abbrev aD (x : UInt64) : AV := Sum.inr (Sum.inr (Sum.inl x))
abbrev aR (g i : Nat) : AV := Sum.inr (Sum.inr (Sum.inr (g, i)))
def conc (ad : Nat → Nat → Nat) : AV → Value
  | Sum.inl x => .int x
  | Sum.inr (Sum.inl x) => .long x
  | Sum.inr (Sum.inr (Sum.inl x)) => .double x
  | Sum.inr (Sum.inr (Sum.inr q)) => .ref (ad q.1 q.2)
/-- which index a field's reference goes to: a duty's path is its own -/
def tix (g' i : Nat) : Nat := cond (Nat.beq g' 37) i 0
def fcs (ad : Nat → Nat → Nat) (σ : Mem) (g i : Nat) : Nat → List (Option Nat) → List Value
  | _, [] => []
  | k, none :: r => .int (rd σ g i k) :: fcs ad σ g i (k + 1) r
  | k, some g' :: r => .ref (ad g' (tix g' i)) :: fcs ad σ g i (k + 1) r
theorem fcs_int {ad : Nat → Nat → Nat} {σ : Mem} {g i : Nat} : ∀ (fs : List (Option Nat)) (k j : Nat), fs[j]? = some none → (fcs ad σ g i k fs)[j]? = some (.int (rd σ g i (k + j)))
  | [], _, _, h => by simp at h
  | none :: _, k, 0, _ => by simp [fcs]
  | some _ :: _, _, 0, h => by simp at h
  | none :: r, k, j + 1, h => by
    have := fcs_int (ad := ad) (σ := σ) (g := g) (i := i) r (k + 1) j (by simpa using h)
    simp only [fcs, List.getElem?_cons_succ]; rw [this]; congr 3; omega
  | some _ :: r, k, j + 1, h => by
    have := fcs_int (ad := ad) (σ := σ) (g := g) (i := i) r (k + 1) j (by simpa using h)
    simp only [fcs, List.getElem?_cons_succ]; rw [this]; congr 3; omega
theorem fcs_ref {ad : Nat → Nat → Nat} {σ : Mem} {g i g' : Nat} : ∀ (fs : List (Option Nat)) (k j : Nat), fs[j]? = some (some g') → (fcs ad σ g i k fs)[j]? = some (.ref (ad g' (tix g' i)))
  | [], _, _, h => by simp at h
  | none :: _, k, 0, h => by simp at h
  | some _ :: _, _, 0, h => by simp at h; subst h; simp [fcs]
  | none :: r, k, j + 1, h => by
    have := fcs_ref (ad := ad) (σ := σ) (g := g) (i := i) r (k + 1) j (by simpa using h)
    simp only [fcs, List.getElem?_cons_succ]; exact this
  | some _ :: r, k, j + 1, h => by
    have := fcs_ref (ad := ad) (σ := σ) (g := g) (i := i) r (k + 1) j (by simpa using h)
    simp only [fcs, List.getElem?_cons_succ]; exact this
theorem fcs_len {ad : Nat → Nat → Nat} {σ : Mem} {g i : Nat} : ∀ (fs : List (Option Nat)) (k : Nat), (fcs ad σ g i k fs).length = fs.length
  | [], _ => rfl
  | none :: r, k => by simp [fcs, fcs_len r (k + 1)]
  | some _ :: r, k => by simp [fcs, fcs_len r (k + 1)]
theorem fcs_far {ad : Nat → Nat → Nat} {σ : Mem} {g i n : Nat} {v : Int32} : ∀ (fs : List (Option Nat)) (k : Nat), n < k → fcs ad (wr σ g i n v) g i k fs = fcs ad σ g i k fs
  | [], _, _ => rfl
  | none :: r, k, h => by
    simp only [fcs]
    rw [fcs_far r (k + 1) (by omega), rd_wr, if_neg (by omega)]
  | some _ :: r, k, h => by
    simp only [fcs]
    rw [fcs_far r (k + 1) (by omega)]
theorem fcs_set {ad : Nat → Nat → Nat} {σ : Mem} {g i : Nat} {v : Int32} : ∀ (fs : List (Option Nat)) (k j : Nat), fs[j]? = some none → (fcs ad σ g i k fs).set j (.int v) = fcs ad (wr σ g i (k + j) v) g i k fs
  | [], _, _, h => by simp at h
  | none :: r, k, 0, _ => by
    simp only [fcs, List.set_cons_zero, Nat.add_zero]
    rw [fcs_far r (k + 1) (by omega), rd_wr, if_pos ⟨rfl, rfl, rfl⟩]
  | some _ :: _, _, 0, h => by simp at h
  | none :: r, k, j + 1, h => by
    have := fcs_set (ad := ad) (σ := σ) (g := g) (i := i) (v := v) r (k + 1) j (by simpa using h)
    simp only [fcs, List.set_cons_succ]
    rw [this, rd_wr, if_neg (by omega), show k + 1 + j = k + (j + 1) by omega]
  | some _ :: r, k, j + 1, h => by
    have := fcs_set (ad := ad) (σ := σ) (g := g) (i := i) (v := v) r (k + 1) j (by simpa using h)
    simp only [fcs, List.set_cons_succ]
    rw [this, show k + 1 + j = k + (j + 1) by omega]
theorem fcs_ne {ad : Nat → Nat → Nat} {σ : Mem} {g i g2 i2 n : Nat} {v : Int32} (hne : ¬ (g = g2 ∧ i = i2)) : ∀ (fs : List (Option Nat)) (k : Nat), fcs ad (wr σ g2 i2 n v) g i k fs = fcs ad σ g i k fs
  | [], _ => rfl
  | none :: r, k => by
    simp only [fcs]
    rw [fcs_ne hne r (k + 1), rd_wr, if_neg (fun h => hne ⟨h.1, h.2.1⟩)]
  | some _ :: r, k => by
    simp only [fcs]
    rw [fcs_ne hne r (k + 1)]
theorem fcs_same {ad : Nat → Nat → Nat} {σ σ' : Mem} {g i : Nat} (h : ∀ k, rd σ' g i k = rd σ g i k) : ∀ (fs : List (Option Nat)) (k : Nat), fcs ad σ' g i k fs = fcs ad σ g i k fs
  | [], _ => rfl
  | none :: r, k => by simp only [fcs]; rw [fcs_same h r (k + 1), h]
  | some _ :: r, k => by simp only [fcs]; rw [fcs_same h r (k + 1)]
/-- shapes: an object (its class's number, its fields: an int, or a reference to a group), or an array (0 int, 1 long, 2 boolean, 3 double, 4 duties; its length) -/
abbrev SH : Type := (Nat × List (Option Nat)) ⊕ (Nat × Nat)
def acell (ad : Nat → Nat → Nat) (σ : Mem) (g i kd : Nat) : (Nat → Int32) ⊕ (Nat → Int64) ⊕ (Nat → UInt32) ⊕ (Nat → UInt64) ⊕ (Nat → Option Nat) :=
  match kd with
  | 0 => .inl (fun k => rd σ g i k)
  | 1 => .inr (.inl (fun k => rl σ g k))
  | 2 => .inl (fun k => rd σ g i k)
  | 3 => .inr (.inr (.inr (.inl (fun k => rz σ g k))))
  | _ => .inr (.inr (.inr (.inr (fun k => some (ad 36 k)))))
def cell1 (ad : Nat → Nat → Nat) (cA : Nat → ClassId) (σ : Mem) (q : Nat × Nat × SH) : Nat × va_E :=
  (ad q.1 q.2.1, match q.2.2 with
    | .inl o => .inr (o.1, fcs ad σ q.1 q.2.1 0 o.2)
    | .inr a => .inl (cA a.1, a.2, acell ad σ q.1 q.2.1 a.1))
def layS : List SH := [
  .inl (4, [some 1, some 7, some 8]),
  .inl (2, [some 2, some 3, some 4, some 5, some 6, none]),
  .inr (0, 60), .inr (0, 60), .inr (0, 60), .inr (0, 60), .inr (0, 60),
  .inl (3, [some 1, none, none]),
  .inl (0, [some 1, some 9, some 10, none]),
  .inr (4, 16), .inr (0, 6),
  .inl (5, [none, none, some 12, some 13, some 14, some 15, some 16, some 17, some 18, none, some 19, some 20, none, some 21, some 22, some 23, none, none, some 24, some 25, some 26, some 27, some 28, some 29, some 30, some 31, some 32, some 33]),
  .inr (0, 60), .inr (0, 60), .inr (0, 60), .inr (0, 60), .inr (0, 60), .inr (1, 60), .inr (0, 60),
  .inr (0, 400), .inr (0, 400), .inr (0, 20), .inr (0, 20), .inr (0, 20), .inr (0, 20), .inr (0, 20), .inr (0, 20), .inr (0, 400), .inr (0, 400), .inr (0, 100), .inr (0, 100), .inr (2, 16), .inr (0, 2048), .inr (0, 64),
  .inr (1, 1), .inr (3, 1),
  .inl (1, [none, none, none, some 37, none, none]),
  .inr (0, 6)]
def shp (g : Nat) : Option SH := layS[g]?
def numb : Nat → List SH → List (Nat × Nat × SH)
  | _, [] => []
  | g, sh :: r => (g, 0, sh) :: numb (g + 1) r
/-- the fixed cells, then the sixteen duties, then their paths -/
def lay : List (Nat × Nat × SH) := numb 0 (layS.take 36) ++ ((List.range 16).map (fun i => (36, i, .inl (1, [none, none, none, some 37, none, none])))) ++ ((List.range 16).map (fun i => (37, i, .inr (0, 6))))
def pos (g i : Nat) : Nat := if g < 36 then g else if g = 36 then 36 + i else 52 + i
def okT (g i : Nat) : Prop := (g < 36 ∧ i = 0) ∨ ((g = 36 ∨ g = 37) ∧ i < 16)
theorem lay_f : ∀ g, g < 36 → lay[g]? = (shp g).map (fun sh => (g, 0, sh))
  | 0, _ => rfl
  | 1, _ => rfl
  | 2, _ => rfl
  | 3, _ => rfl
  | 4, _ => rfl
  | 5, _ => rfl
  | 6, _ => rfl
  | 7, _ => rfl
  | 8, _ => rfl
  | 9, _ => rfl
  | 10, _ => rfl
  | 11, _ => rfl
  | 12, _ => rfl
  | 13, _ => rfl
  | 14, _ => rfl
  | 15, _ => rfl
  | 16, _ => rfl
  | 17, _ => rfl
  | 18, _ => rfl
  | 19, _ => rfl
  | 20, _ => rfl
  | 21, _ => rfl
  | 22, _ => rfl
  | 23, _ => rfl
  | 24, _ => rfl
  | 25, _ => rfl
  | 26, _ => rfl
  | 27, _ => rfl
  | 28, _ => rfl
  | 29, _ => rfl
  | 30, _ => rfl
  | 31, _ => rfl
  | 32, _ => rfl
  | 33, _ => rfl
  | 34, _ => rfl
  | 35, _ => rfl
  | n + 36, h => absurd h (by omega)
theorem lay_d : ∀ i, i < 16 → lay[36 + i]? = (shp 36).map (fun sh => (36, i, sh))
  | 0, _ => rfl
  | 1, _ => rfl
  | 2, _ => rfl
  | 3, _ => rfl
  | 4, _ => rfl
  | 5, _ => rfl
  | 6, _ => rfl
  | 7, _ => rfl
  | 8, _ => rfl
  | 9, _ => rfl
  | 10, _ => rfl
  | 11, _ => rfl
  | 12, _ => rfl
  | 13, _ => rfl
  | 14, _ => rfl
  | 15, _ => rfl
  | n + 16, h => absurd h (by omega)
theorem lay_p : ∀ i, i < 16 → lay[52 + i]? = (shp 37).map (fun sh => (37, i, sh))
  | 0, _ => rfl
  | 1, _ => rfl
  | 2, _ => rfl
  | 3, _ => rfl
  | 4, _ => rfl
  | 5, _ => rfl
  | 6, _ => rfl
  | 7, _ => rfl
  | 8, _ => rfl
  | 9, _ => rfl
  | 10, _ => rfl
  | 11, _ => rfl
  | 12, _ => rfl
  | 13, _ => rfl
  | 14, _ => rfl
  | 15, _ => rfl
  | n + 16, h => absurd h (by omega)
theorem lay_len : lay.length = 68 := by decide +kernel
theorem lay_inj : ∀ a, a < 68 → ∀ b, b < 68 → (lay[a]?).map (fun q => (q.1, q.2.1)) = (lay[b]?).map (fun q => (q.1, q.2.1)) → a = b := by decide +kernel
theorem lay_at {g i : Nat} {sh : SH} (h : okT g i) (hs : shp g = some sh) : lay[pos g i]? = some (g, i, sh) := by
  rcases h with ⟨h1, rfl⟩ | ⟨h1 | h1, h2⟩
  · rw [show pos g 0 = g by simp [pos, h1], lay_f g h1, hs]; rfl
  · subst h1; rw [show pos 36 i = 36 + i by simp [pos], lay_d i h2, hs]; rfl
  · subst h1; rw [show pos 37 i = 52 + i by simp [pos], lay_p i h2, hs]; rfl
def wld (ad : Nat → Nat → Nat) (cA : Nat → ClassId) (σ : Mem) : va_W := lay.map (cell1 ad cA σ)
theorem wld_at {ad : Nat → Nat → Nat} {cA : Nat → ClassId} {σ : Mem} {g i : Nat} {sh : SH} (h : okT g i) (hs : shp g = some sh) : (wld ad cA σ)[pos g i]? = some (cell1 ad cA σ (g, i, sh)) := by
  simp only [wld, List.getElem?_map, lay_at h hs]; rfl
theorem wld_set {ad : Nat → Nat → Nat} {cA : Nat → ClassId} {σ σ' : Mem} {g i : Nat} {sh : SH} {e : Nat × va_E} (h : okT g i) (hs : shp g = some sh) (he : cell1 ad cA σ' (g, i, sh) = e) (ho : ∀ q : Nat × Nat × SH, ¬ (q.1 = g ∧ q.2.1 = i) → cell1 ad cA σ' q = cell1 ad cA σ q) : (wld ad cA σ).set (pos g i) e = wld ad cA σ' := by
  have hp := lay_at h hs
  have hlt : pos g i < lay.length := (List.getElem?_eq_some_iff.mp hp).1
  apply List.ext_getElem?
  intro j
  by_cases hj : j = pos g i
  · subst hj
    rw [List.getElem?_set_self (by simpa [wld] using hlt)]
    simp only [wld, List.getElem?_map, hp, Option.map_some, he]
  · rw [List.getElem?_set_ne (Ne.symm hj)]
    simp only [wld, List.getElem?_map]
    cases hq : lay[j]? with
    | none => rfl
    | some q =>
      have hjl : j < lay.length := (List.getElem?_eq_some_iff.mp hq).1
      simp only [Option.map_some]
      rw [ho q]
      rintro ⟨h1, h2⟩
      refine hj (lay_inj j (by rw [← lay_len]; exact hjl) (pos g i) (by rw [← lay_len]; exact hlt) ?_)
      rw [hq, hp]
      simp [h1, h2]
theorem cell_wr_ne {ad : Nat → Nat → Nat} {cA : Nat → ClassId} {σ : Mem} {g i k : Nat} {v : Int32} (q : Nat × Nat × SH) (h : ¬ (q.1 = g ∧ q.2.1 = i)) : cell1 ad cA (wr σ g i k v) q = cell1 ad cA σ q := by
  obtain ⟨g', i', sh⟩ := q
  dsimp only at h
  cases sh with
  | inl o => simp only [cell1]; rw [fcs_ne h]
  | inr a =>
    obtain ⟨kd, n⟩ := a
    simp only [cell1]
    congr 4
    have hf : (fun k' => rd (wr σ g i k v) g' i' k') = (fun k' => rd σ g' i' k') := by
      funext k'; rw [rd_wr, if_neg (fun z => h ⟨z.1, z.2.1⟩)]
    unfold acell
    rw [hf]
    split <;> rfl
theorem wld_wr_f {ad : Nat → Nat → Nat} {cA : Nat → ClassId} {σ : Mem} {g i k ci : Nat} {fs : List (Option Nat)} {v : Int32} (h : okT g i) (hs : shp g = some (.inl (ci, fs))) (hk : fs[k]? = some none) : (wld ad cA σ).set (pos g i) (ad g i, .inr (ci, (fcs ad σ g i 0 fs).set k (.int v))) = wld ad cA (wr σ g i k v) := by
  refine wld_set h hs ?_ (fun q hq => cell_wr_ne q hq)
  simp only [cell1]
  rw [fcs_set fs 0 k hk, Nat.zero_add]
theorem wld_wr_a {ad : Nat → Nat → Nat} {cA : Nat → ClassId} {σ : Mem} {g i k n kd : Nat} {v : Int32} (h : okT g i) (hs : shp g = some (.inr (kd, n))) (hk : kd = 0 ∨ kd = 2) : (wld ad cA σ).set (pos g i) (ad g i, .inl (cA kd, n, .inl (upd (fun j => rd σ g i j) k v))) = wld ad cA (wr σ g i k v) := by
  refine wld_set h hs ?_ (fun q hq => cell_wr_ne q hq)
  have hf : (fun j => rd (wr σ g i k v) g i j) = upd (fun j => rd σ g i j) k v := by
    funext j
    rw [rd_wr]
    by_cases hj : j = k
    · subst hj; simp [upd]
    · simp [upd, hj]
  rcases hk with rfl | rfl <;> simp only [cell1, acell, hf]
theorem cell_wrl_ne {ad : Nat → Nat → Nat} {cA : Nat → ClassId} {σ : Mem} {g k : Nat} {v : Int64} (hg : g < 36) (q : Nat × Nat × SH) (hq : q ∈ lay) (h : ¬ (q.1 = g ∧ q.2.1 = 0)) : cell1 ad cA (wrl σ g k v) q = cell1 ad cA σ q := by
  obtain ⟨g', i', sh⟩ := q
  dsimp only at h
  cases sh with
  | inl o => simp only [cell1]; rw [fcs_same (σ := σ) (σ' := wrl σ g k v) (fun _ => rfl)]
  | inr a =>
    obtain ⟨kd, n⟩ := a
    have hne : ¬ g' = g := by
      intro e
      subst e
      have key : ∀ q ∈ lay, q.1 < 36 → q.2.1 = 0 := by decide +kernel
      exact h ⟨rfl, key _ hq hg⟩
    simp only [cell1]
    congr 4
    have hf : (fun k' => rl (wrl σ g k v) g' k') = (fun k' => rl σ g' k') := by
      funext k'; rw [rl_wrl, if_neg (fun z => hne z.1)]
    unfold acell
    rw [hf]
    split <;> rfl
theorem cell_wrz_ne {ad : Nat → Nat → Nat} {cA : Nat → ClassId} {σ : Mem} {g k : Nat} {v : UInt64} (hg : g < 36) (q : Nat × Nat × SH) (hq : q ∈ lay) (h : ¬ (q.1 = g ∧ q.2.1 = 0)) : cell1 ad cA (wrz σ g k v) q = cell1 ad cA σ q := by
  obtain ⟨g', i', sh⟩ := q
  dsimp only at h
  cases sh with
  | inl o => simp only [cell1]; rw [fcs_same (σ := σ) (σ' := wrz σ g k v) (fun _ => rfl)]
  | inr a =>
    obtain ⟨kd, n⟩ := a
    have hne : ¬ g' = g := by
      intro e
      subst e
      have key : ∀ q ∈ lay, q.1 < 36 → q.2.1 = 0 := by decide +kernel
      exact h ⟨rfl, key _ hq hg⟩
    simp only [cell1]
    congr 4
    have hf : (fun k' => rz (wrz σ g k v) g' k') = (fun k' => rz σ g' k') := by
      funext k'; rw [rz_wrz, if_neg (fun z => hne z.1)]
    unfold acell
    rw [hf]
    split <;> rfl
theorem wld_setL {ad : Nat → Nat → Nat} {cA : Nat → ClassId} {σ σ' : Mem} {g : Nat} {sh : SH} {e : Nat × va_E} (h : g < 36) (hs : shp g = some sh) (he : cell1 ad cA σ' (g, 0, sh) = e) (ho : ∀ q : Nat × Nat × SH, q ∈ lay → ¬ (q.1 = g ∧ q.2.1 = 0) → cell1 ad cA σ' q = cell1 ad cA σ q) : (wld ad cA σ).set (pos g 0) e = wld ad cA σ' := by
  have hp := lay_at (Or.inl ⟨h, rfl⟩) hs
  have hlt : pos g 0 < lay.length := (List.getElem?_eq_some_iff.mp hp).1
  apply List.ext_getElem?
  intro j
  by_cases hj : j = pos g 0
  · subst hj
    rw [List.getElem?_set_self (by simpa [wld] using hlt)]
    simp only [wld, List.getElem?_map, hp, Option.map_some, he]
  · rw [List.getElem?_set_ne (Ne.symm hj)]
    simp only [wld, List.getElem?_map]
    cases hq : lay[j]? with
    | none => rfl
    | some q =>
      have hjl : j < lay.length := (List.getElem?_eq_some_iff.mp hq).1
      simp only [Option.map_some]
      rw [ho q (List.mem_of_getElem? hq)]
      rintro ⟨h1, h2⟩
      refine hj (lay_inj j (by rw [← lay_len]; exact hjl) (pos g 0) (by rw [← lay_len]; exact hlt) ?_)
      rw [hq, hp]
      simp [h1, h2]
theorem wld_wrl {ad : Nat → Nat → Nat} {cA : Nat → ClassId} {σ : Mem} {g k n : Nat} {v : Int64} (h : g < 36) (hs : shp g = some (.inr (1, n))) : (wld ad cA σ).set (pos g 0) (ad g 0, .inl (cA 1, n, .inr (.inl (vp_updL (fun j => rl σ g j) k v)))) = wld ad cA (wrl σ g k v) := by
  refine wld_setL h hs ?_ (fun q hq hn => cell_wrl_ne h q hq hn)
  have hf : (fun j => rl (wrl σ g k v) g j) = vp_updL (fun j => rl σ g j) k v := by
    funext j
    rw [rl_wrl]
    by_cases hj : j = k
    · subst hj; simp [vp_updL]
    · simp [vp_updL, hj]
  simp only [cell1, acell, hf]
theorem wld_wrz {ad : Nat → Nat → Nat} {cA : Nat → ClassId} {σ : Mem} {g k n : Nat} {v : UInt64} (h : g < 36) (hs : shp g = some (.inr (3, n))) : (wld ad cA σ).set (pos g 0) (ad g 0, .inl (cA 3, n, .inr (.inr (.inr (.inl (vf_upd (fun j => rz σ g j) k v)))))) = wld ad cA (wrz σ g k v) := by
  refine wld_setL h hs ?_ (fun q hq hn => cell_wrz_ne h q hq hn)
  have hf : (fun j => rz (wrz σ g k v) g j) = vf_upd (fun j => rz σ g j) k v := by
    funext j
    rw [rz_wrz]
    by_cases hj : j = k
    · subst hj; simp [vf_upd]
    · simp [vf_upd, hj]
  simp only [cell1, acell, hf]
end
section
/-! THE JUDGEMENT K AND ITS ROWS -/
abbrev LV : Type := List (Option AV)
abbrev Kt : Type := Nat → LV → List AV → Mem → Prop
abbrev Tr : Type := LV → List AV → Mem → Kt → Prop
def lvl (ad : Nat → Nat → Nat) : Nat → LV → List (Nat × Value)
  | _, [] => []
  | n, none :: r => lvl ad (n + 1) r
  | n, some a :: r => (n, conc ad a) :: lvl ad (n + 1) r
theorem mem_lvl {ad : Nat → Nat → Nat} {q : Nat × Value} : ∀ (lv : LV) (n : Nat), q ∈ lvl ad n lv ↔ ∃ (j : Nat) (a : AV), lv[j]? = some (some a) ∧ q = (n + j, conc ad a)
  | [], n => by simp [lvl]
  | none :: r, n => by
    rw [lvl, mem_lvl r (n + 1)]
    constructor
    · rintro ⟨j, a, h1, h2⟩
      exact ⟨j + 1, a, by simpa using h1, by rw [h2]; congr 1; omega⟩
    · rintro ⟨j, a, h1, h2⟩
      cases j with
      | zero => simp at h1
      | succ j => exact ⟨j, a, by simpa using h1, by rw [h2]; congr 1; omega⟩
  | some b :: r, n => by
    rw [lvl, List.mem_cons, mem_lvl r (n + 1)]
    constructor
    · rintro (h | ⟨j, a, h1, h2⟩)
      · exact ⟨0, b, by simp, by simpa using h⟩
      · exact ⟨j + 1, a, by simpa using h1, by rw [h2]; congr 1; omega⟩
    · rintro ⟨j, a, h1, h2⟩
      cases j with
      | zero => simp at h1; subst h1; exact Or.inl (by simpa using h2)
      | succ j => exact Or.inr ⟨j, a, by simpa using h1, by rw [h2]; congr 1; omega⟩
theorem lv_mono {ls : Array Slot} {nL : Nat} {l1 l2 : List (Nat × Value)} (h : lv_has ls nL l1) (hs : ∀ q ∈ l2, q ∈ l1) : lv_has ls nL l2 := ⟨h.1, h.2.1, fun q hq => h.2.2 q (hs q hq)⟩
theorem lv_ld {ad : Nat → Nat → Nat} {ls : Array Slot} {nL : Nat} {lv : LV} {i : Nat} {a : AV} (h : lv_has ls nL (lvl ad 0 lv)) (hi : lv[i]? = some (some a)) : ls[i]? = some (.val (conc ad a)) :=
  h.2.2 (i, conc ad a) ((mem_lvl lv 0).mpr ⟨i, a, hi, by simp⟩)
/-- no two-word value ends at place i -/
def ok1 (lv : LV) (i : Nat) : Bool := match i with
  | 0 => true
  | j + 1 => match lv[j]? with
    | some (some (Sum.inr (Sum.inl _))) => false
    | some (some (Sum.inr (Sum.inr (Sum.inl _)))) => false
    | _ => true
theorem ok1_cat {ad : Nat → Nat → Nat} {lv : LV} {i j : Nat} {a : AV} (h : ok1 lv i = true) (hj : lv[j]? = some (some a)) (e : j + 1 = i) : ¬ (conc ad a).category = 2 := by
  subst e
  simp only [ok1, hj] at h
  rcases a with x | x | x | x
  · simp [conc, Value.category]
  · simp at h
  · simp at h
  · simp [conc, Value.category]
theorem lv_set1 {ad : Nat → Nat → Nat} {ls : Array Slot} {nL : Nat} {lv : LV} {i : Nat} {a : AV} (ho : ok1 lv i = true)
    (h : lv_has ls nL ((i, conc ad a) :: (lvl ad 0 lv).filter (fun q => !(q.1 == i) && !(q.1 + 1 == i && q.2.category == 2)))) : lv_has ls nL (lvl ad 0 (lv.set i (some a))) := by
  refine lv_mono h (fun q hq => ?_)
  obtain ⟨j, b, h1, rfl⟩ := (mem_lvl _ 0).mp hq
  rw [Nat.zero_add]
  by_cases hj : j = i
  · subst hj
    have hb : b = a := by
      rw [List.getElem?_set] at h1
      simp only [if_true] at h1
      split at h1
      · simpa using h1.symm
      · simp at h1
    subst hb
    exact List.mem_cons_self
  · rw [List.getElem?_set_ne (Ne.symm hj)] at h1
    refine List.mem_cons_of_mem _ (List.mem_filter.mpr ⟨(mem_lvl _ 0).mpr ⟨j, b, h1, by simp⟩, ?_⟩)
    have hc := fun e => ok1_cat (ad := ad) ho h1 e
    have h2 : (j == i) = false := by simpa using hj
    simp only [h2, Bool.not_false, Bool.true_and]
    by_cases he : j + 1 = i
    · have := hc he
      simp [this]
    · simp [he]
theorem lv_set2 {ad : Nat → Nat → Nat} {ls : Array Slot} {nL : Nat} {lv : LV} {i : Nat} {a : AV} (ho : ok1 lv i = true)
    (h : lv_has ls nL ((i, conc ad a) :: (lvl ad 0 lv).filter (fun q => !(q.1 == i) && (!(q.1 == i + 1) && !(q.1 + 1 == i && q.2.category == 2))))) : lv_has ls nL (lvl ad 0 ((lv.set i (some a)).set (i + 1) none)) := by
  refine lv_mono h (fun q hq => ?_)
  obtain ⟨j, b, h1, rfl⟩ := (mem_lvl _ 0).mp hq
  rw [Nat.zero_add]
  have hj1 : ¬ j = i + 1 := by
    intro e
    subst e
    rw [List.getElem?_set] at h1
    simp only [if_true] at h1
    split at h1 <;> simp at h1
  rw [List.getElem?_set_ne (Ne.symm hj1)] at h1
  by_cases hj : j = i
  · subst hj
    have hb : b = a := by
      rw [List.getElem?_set] at h1
      simp only [if_true] at h1
      split at h1
      · simpa using h1.symm
      · simp at h1
    subst hb
    exact List.mem_cons_self
  · rw [List.getElem?_set_ne (Ne.symm hj)] at h1
    refine List.mem_cons_of_mem _ (List.mem_filter.mpr ⟨(mem_lvl _ 0).mpr ⟨j, b, h1, by simp⟩, ?_⟩)
    have hc := fun e => ok1_cat (ad := ad) ho h1 e
    have h2 : (j == i) = false := by simpa using hj
    have h3 : (j == i + 1) = false := by simpa using hj1
    simp only [h2, h3, Bool.not_false, Bool.true_and]
    by_cases he : j + 1 = i
    · have := hc he
      simp [this]
    · simp [he]
def K (p : Program) (l : Launch) (e : Env) (R : Room) (s : State) (m : MethodId) (args : Array Value) (below : List Frame) (meth : Method) (c : Code) (D : va_G) (ad : Nat → Nat → Nat) (cA : Nat → ClassId) (A : Nat → Prop) (nL cl sl : Nat) (Q : State → Prop) : Kt := fun pc lv st σ =>
  ∀ (ls : Array Slot) (H : Heap) (locs : List Loc), lv_has ls nL (lvl ad 0 lv) → va_P D vwCl (wld ad cA σ) H → va_D A (wld ad cA σ) → va_S A s.heap H locs → W p l e R s m args below meth c H locs cl sl Q (F0 m pc ls (st.map (conc ad)))
def Snd (k0 : Kt) (pc : Nat) (T : Tr) : Prop := ∀ (lv : LV) (st : List AV) (σ : Mem) (k : Kt), T lv st σ k → (∀ pc' lv' st' σ', k pc' lv' st' σ' → k0 pc' lv' st' σ') → k0 pc lv st σ
def tysL (cA : Nat → ClassId) : List (ClassId × FieldType) := [(cA 0, .int), (cA 1, .long), (cA 2, .boolean), (cA 3, .double), (cA 4, .object "PromiseDesk$Duty")]
/-- the class's three tables of words -/
def wtL (j : Nat) : List Int32 := match j with
  | 0 => [1, 4, 5, 5, 2, 5, 5, 3, 6, 6, 6, 0, 4, 7, 6, 6]
  | 1 => [0, 0, 5, 5, 5, 5, 5, 5, 0, 6, 6, 0, 5, 7, 7, 6]
  | _ => [0, 0, 0, 0, 0, 0, 0, 0, 0, 0, 0, 0, 0, 0, 7, 7]
def wtf (j i : Nat) : Int32 := (wtL j).getD i 0
def wnm (j : Nat) : String := match j with
  | 0 => "WORD_A"
  | 1 => "WORD_B"
  | _ => "WORD_C"
def Bx (l : Launch) (s0 : State) (ad : Nat → Nat → Nat) : Prop := l.stackTraces = false ∧ (∀ j, j < 3 → va_Z "PromiseDesk" (wnm j) "[I" (.ref (ad (40 + j) 0)) (fun q => s0.heap.size ≤ q) s0 s0.heap ∧ va_T .int (ad (40 + j) 0) 16 (fun i => .int (wtf j i)) (fun q => s0.heap.size ≤ q) s0 s0.heap) ∧
  vx_Zq Bundle.tN "UNASSIGNED_STACK" Bundle.steD (fun q => s0.heap.size ≤ q) s0 s0.heap ∧ vx_Zq Bundle.tN "SUPPRESSED_SENTINEL" Bundle.listD (fun q => s0.heap.size ≤ q) s0 s0.heap
/-- what holds of the law's start s0: the tables' words, the static rows, what a throw reads -/
def B0 (l : Launch) (a0 : Array Value) (s0 : State) (ad : Nat → Nat → Nat) : Prop := (∀ w ∈ lw_tbl, w.before a0 s0 = true) ∧ Bx l s0 ad
/-- a state that came out of s0: nothing old has changed -/
def Bs (l : Launch) (a0 : Array Value) (s0 : State) (ad : Nat → Nat → Nat) (U : State) : Prop := B0 l a0 s0 ad ∧ s0.WarmedH U.vm ∧ s0.heap.size ≤ U.heap.size ∧ ∀ q, q < s0.heap.size → U.heap[q]? = s0.heap[q]?
def Cx (p : Program) (l : Launch) (s0 : State) (a0 : Array Value) (s : State) (m : MethodId) (args : Array Value) (meth : Method) (c : Code) (cc : ByteArray) (nL : Nat) (own : String) (D : va_G) (ad : Nat → Nat → Nat) (cA : Nat → ClassId) (A : Nat → Prop) : Prop :=
  p.tables.exec = Jvm.exec ∧ c.code = cc ∧ c.maxLocals = nL ∧ s.vm.findClass own = some m.cls ∧ va_K D vwCl (tysL cA) s ∧ Bs l a0 s0 ad s ∧ (∀ q, A q → s0.heap.size ≤ q) ∧ (∀ q, s.heap.size ≤ q → A q) ∧ meth.locks = false
section CORE
variable {p : Program} {l : Launch} {e : Env} {R : Room} {s s0 : State} {a0 : Array Value} {m : MethodId} {args : Array Value} {below : List Frame} {meth : Method} {c : Code} {D : va_G} {ad : Nat → Nat → Nat} {cA : Nat → ClassId} {A : Nat → Prop} {nL cl sl : Nat} {Q : State → Prop} {cc : ByteArray} {own : String} {pc : Nat}
theorem Cx.w (X : Cx p l s0 a0 s m args meth c cc nL own D ad cA A) {w : Cond} (hw : w ∈ lw_tbl) (hg : goodWord w = true) : w.before args s = true := word_at X.2.2.2.2.2.1.2.1 (good_of_word hg) (X.2.2.2.2.2.1.1.1 w hw)
theorem Cx.ws (X : Cx p l s0 a0 s m args meth c cc nL own D ad cA A) {ws : List Cond} (hw : ∀ w ∈ ws, w ∈ lw_tbl) (hg : ws.all goodWord = true) : ∀ w ∈ ws, w.before args s = true := fun w h => X.w (hw w h) (List.all_eq_true.mp hg w h)
def tq_iadd (np : Nat) : Tr := fun lv st σ k => match st with
  | Sum.inl y :: Sum.inl x :: r => k np lv (aI (x + y) :: r) σ
  | _ => False
theorem sq_iadd (X : Cx p l s0 a0 s m args meth c cc nL own D ad cA A) (d : decode cc pc = .ok (.iadd, 1)) : Snd (K p l e R s m args below meth c D ad cA A nL cl sl Q) pc (tq_iadd (pc + 1)) := by
  intro lv st σ k h hk ls H locs hl hP hD hS
  match st, h with
  | Sum.inl y :: Sum.inl x :: r, h => exact lv_iadd X.1 X.2.1 d (hk _ _ _ _ h ls H locs hl hP hD hS)
def tq_isub (np : Nat) : Tr := fun lv st σ k => match st with
  | Sum.inl y :: Sum.inl x :: r => k np lv (aI (x - y) :: r) σ
  | _ => False
theorem sq_isub (X : Cx p l s0 a0 s m args meth c cc nL own D ad cA A) (d : decode cc pc = .ok (.isub, 1)) : Snd (K p l e R s m args below meth c D ad cA A nL cl sl Q) pc (tq_isub (pc + 1)) := by
  intro lv st σ k h hk ls H locs hl hP hD hS
  match st, h with
  | Sum.inl y :: Sum.inl x :: r, h => exact lv_isub X.1 X.2.1 d (hk _ _ _ _ h ls H locs hl hP hD hS)
def tq_imul (np : Nat) : Tr := fun lv st σ k => match st with
  | Sum.inl y :: Sum.inl x :: r => k np lv (aI (x * y) :: r) σ
  | _ => False
theorem sq_imul (X : Cx p l s0 a0 s m args meth c cc nL own D ad cA A) (d : decode cc pc = .ok (.imul, 1)) : Snd (K p l e R s m args below meth c D ad cA A nL cl sl Q) pc (tq_imul (pc + 1)) := by
  intro lv st σ k h hk ls H locs hl hP hD hS
  match st, h with
  | Sum.inl y :: Sum.inl x :: r, h => exact lv_imul X.1 X.2.1 d (hk _ _ _ _ h ls H locs hl hP hD hS)
def tq_iand (np : Nat) : Tr := fun lv st σ k => match st with
  | Sum.inl y :: Sum.inl x :: r => k np lv (aI (x &&& y) :: r) σ
  | _ => False
theorem sq_iand (X : Cx p l s0 a0 s m args meth c cc nL own D ad cA A) (d : decode cc pc = .ok (.iand, 1)) : Snd (K p l e R s m args below meth c D ad cA A nL cl sl Q) pc (tq_iand (pc + 1)) := by
  intro lv st σ k h hk ls H locs hl hP hD hS
  match st, h with
  | Sum.inl y :: Sum.inl x :: r, h => exact lv_iand X.1 X.2.1 d (hk _ _ _ _ h ls H locs hl hP hD hS)
def tq_ior (np : Nat) : Tr := fun lv st σ k => match st with
  | Sum.inl y :: Sum.inl x :: r => k np lv (aI (x ||| y) :: r) σ
  | _ => False
theorem sq_ior (X : Cx p l s0 a0 s m args meth c cc nL own D ad cA A) (d : decode cc pc = .ok (.ior, 1)) : Snd (K p l e R s m args below meth c D ad cA A nL cl sl Q) pc (tq_ior (pc + 1)) := by
  intro lv st σ k h hk ls H locs hl hP hD hS
  match st, h with
  | Sum.inl y :: Sum.inl x :: r, h => exact lv_ior X.1 X.2.1 d (hk _ _ _ _ h ls H locs hl hP hD hS)
def tq_ixor (np : Nat) : Tr := fun lv st σ k => match st with
  | Sum.inl y :: Sum.inl x :: r => k np lv (aI (x ^^^ y) :: r) σ
  | _ => False
theorem sq_ixor (X : Cx p l s0 a0 s m args meth c cc nL own D ad cA A) (d : decode cc pc = .ok (.ixor, 1)) : Snd (K p l e R s m args below meth c D ad cA A nL cl sl Q) pc (tq_ixor (pc + 1)) := by
  intro lv st σ k h hk ls H locs hl hP hD hS
  match st, h with
  | Sum.inl y :: Sum.inl x :: r, h => exact lv_ixor X.1 X.2.1 d (hk _ _ _ _ h ls H locs hl hP hD hS)
def tq_ishl (np : Nat) : Tr := fun lv st σ k => match st with
  | Sum.inl y :: Sum.inl x :: r => k np lv (aI (x <<< (y &&& 31)) :: r) σ
  | _ => False
theorem sq_ishl (X : Cx p l s0 a0 s m args meth c cc nL own D ad cA A) (d : decode cc pc = .ok (.ishl, 1)) : Snd (K p l e R s m args below meth c D ad cA A nL cl sl Q) pc (tq_ishl (pc + 1)) := by
  intro lv st σ k h hk ls H locs hl hP hD hS
  match st, h with
  | Sum.inl y :: Sum.inl x :: r, h => exact lv_ishl X.1 X.2.1 d (hk _ _ _ _ h ls H locs hl hP hD hS)
def tq_ishr (np : Nat) : Tr := fun lv st σ k => match st with
  | Sum.inl y :: Sum.inl x :: r => k np lv (aI (x >>> (y &&& 31)) :: r) σ
  | _ => False
theorem sq_ishr (X : Cx p l s0 a0 s m args meth c cc nL own D ad cA A) (d : decode cc pc = .ok (.ishr, 1)) : Snd (K p l e R s m args below meth c D ad cA A nL cl sl Q) pc (tq_ishr (pc + 1)) := by
  intro lv st σ k h hk ls H locs hl hP hD hS
  match st, h with
  | Sum.inl y :: Sum.inl x :: r, h => exact lv_ishr X.1 X.2.1 d (hk _ _ _ _ h ls H locs hl hP hD hS)
def tq_idiv (np : Nat) : Tr := fun lv st σ k => match st with
  | Sum.inl y :: Sum.inl x :: r => (¬ y = 0) ∧ k np lv (aI (x / y) :: r) σ
  | _ => False
theorem sq_idiv (X : Cx p l s0 a0 s m args meth c cc nL own D ad cA A) (d : decode cc pc = .ok (.idiv, 1)) : Snd (K p l e R s m args below meth c D ad cA A nL cl sl Q) pc (tq_idiv (pc + 1)) := by
  intro lv st σ k h hk ls H locs hl hP hD hS
  match st, h with
  | Sum.inl y :: Sum.inl x :: r, h => exact lv_idiv X.1 X.2.1 d h.1 (hk _ _ _ _ h.2 ls H locs hl hP hD hS)
def tq_irem (np : Nat) : Tr := fun lv st σ k => match st with
  | Sum.inl y :: Sum.inl x :: r => (¬ y = 0) ∧ k np lv (aI (x - x / y * y) :: r) σ
  | _ => False
theorem sq_irem (X : Cx p l s0 a0 s m args meth c cc nL own D ad cA A) (d : decode cc pc = .ok (.irem, 1)) : Snd (K p l e R s m args below meth c D ad cA A nL cl sl Q) pc (tq_irem (pc + 1)) := by
  intro lv st σ k h hk ls H locs hl hP hD hS
  match st, h with
  | Sum.inl y :: Sum.inl x :: r, h => exact lv_irem X.1 X.2.1 d h.1 (hk _ _ _ _ h.2 ls H locs hl hP hD hS)
def tq_land (np : Nat) : Tr := fun lv st σ k => match st with
  | Sum.inr (Sum.inl y) :: Sum.inr (Sum.inl x) :: r => k np lv (aL (x &&& y) :: r) σ
  | _ => False
theorem sq_land (X : Cx p l s0 a0 s m args meth c cc nL own D ad cA A) (d : decode cc pc = .ok (.land, 1)) : Snd (K p l e R s m args below meth c D ad cA A nL cl sl Q) pc (tq_land (pc + 1)) := by
  intro lv st σ k h hk ls H locs hl hP hD hS
  match st, h with
  | Sum.inr (Sum.inl y) :: Sum.inr (Sum.inl x) :: r, h => exact lv_land X.1 X.2.1 d (hk _ _ _ _ h ls H locs hl hP hD hS)
def tq_lor (np : Nat) : Tr := fun lv st σ k => match st with
  | Sum.inr (Sum.inl y) :: Sum.inr (Sum.inl x) :: r => k np lv (aL (x ||| y) :: r) σ
  | _ => False
theorem sq_lor (X : Cx p l s0 a0 s m args meth c cc nL own D ad cA A) (d : decode cc pc = .ok (.lor, 1)) : Snd (K p l e R s m args below meth c D ad cA A nL cl sl Q) pc (tq_lor (pc + 1)) := by
  intro lv st σ k h hk ls H locs hl hP hD hS
  match st, h with
  | Sum.inr (Sum.inl y) :: Sum.inr (Sum.inl x) :: r, h => exact lv_lor X.1 X.2.1 d (hk _ _ _ _ h ls H locs hl hP hD hS)
def tq_lshl (np : Nat) : Tr := fun lv st σ k => match st with
  | Sum.inl y :: Sum.inr (Sum.inl x) :: r => k np lv (aL (x <<< (y.toInt64 &&& 63)) :: r) σ
  | _ => False
theorem sq_lshl (X : Cx p l s0 a0 s m args meth c cc nL own D ad cA A) (d : decode cc pc = .ok (.lshl, 1)) : Snd (K p l e R s m args below meth c D ad cA A nL cl sl Q) pc (tq_lshl (pc + 1)) := by
  intro lv st σ k h hk ls H locs hl hP hD hS
  match st, h with
  | Sum.inl y :: Sum.inr (Sum.inl x) :: r, h => exact lv_lshl X.1 X.2.1 d rfl (hk _ _ _ _ h ls H locs hl hP hD hS)
def tq_lshr (np : Nat) : Tr := fun lv st σ k => match st with
  | Sum.inl y :: Sum.inr (Sum.inl x) :: r => k np lv (aL (x >>> (y.toInt64 &&& 63)) :: r) σ
  | _ => False
theorem sq_lshr (X : Cx p l s0 a0 s m args meth c cc nL own D ad cA A) (d : decode cc pc = .ok (.lshr, 1)) : Snd (K p l e R s m args below meth c D ad cA A nL cl sl Q) pc (tq_lshr (pc + 1)) := by
  intro lv st σ k h hk ls H locs hl hP hD hS
  match st, h with
  | Sum.inl y :: Sum.inr (Sum.inl x) :: r, h => exact lv_lshr X.1 X.2.1 d rfl (hk _ _ _ _ h ls H locs hl hP hD hS)
def tq_lcmp (np : Nat) : Tr := fun lv st σ k => match st with
  | Sum.inr (Sum.inl y) :: Sum.inr (Sum.inl x) :: r => k np lv (aI (lg_cmp x y) :: r) σ
  | _ => False
theorem sq_lcmp (X : Cx p l s0 a0 s m args meth c cc nL own D ad cA A) (d : decode cc pc = .ok (.lcmp, 1)) : Snd (K p l e R s m args below meth c D ad cA A nL cl sl Q) pc (tq_lcmp (pc + 1)) := by
  intro lv st σ k h hk ls H locs hl hP hD hS
  match st, h with
  | Sum.inr (Sum.inl y) :: Sum.inr (Sum.inl x) :: r, h => exact W.lcmp X.1 X.2.1 d (hk _ _ _ _ h ls H locs hl hP hD hS)
def tq_ddiv (np : Nat) : Tr := fun lv st σ k => match st with
  | Sum.inr (Sum.inr (Sum.inl y)) :: Sum.inr (Sum.inr (Sum.inl x)) :: r => (vf_n64 (FP.ddiv x y)) ∧ k np lv (aD (FP.ddiv x y) :: r) σ
  | _ => False
theorem sq_ddiv (X : Cx p l s0 a0 s m args meth c cc nL own D ad cA A) (d : decode cc pc = .ok (.ddiv, 1)) : Snd (K p l e R s m args below meth c D ad cA A nL cl sl Q) pc (tq_ddiv (pc + 1)) := by
  intro lv st σ k h hk ls H locs hl hP hD hS
  match st, h with
  | Sum.inr (Sum.inr (Sum.inl y)) :: Sum.inr (Sum.inr (Sum.inl x)) :: r, h => exact lv_ddiv X.1 X.2.1 d h.1 (hk _ _ _ _ h.2 ls H locs hl hP hD hS)
def tq_i2l (np : Nat) : Tr := fun lv st σ k => match st with
  | Sum.inl x :: r => k np lv (aL x.toInt64 :: r) σ
  | _ => False
theorem sq_i2l (X : Cx p l s0 a0 s m args meth c cc nL own D ad cA A) (d : decode cc pc = .ok (.i2l, 1)) : Snd (K p l e R s m args below meth c D ad cA A nL cl sl Q) pc (tq_i2l (pc + 1)) := by
  intro lv st σ k h hk ls H locs hl hP hD hS
  match st, h with
  | Sum.inl x :: r, h => exact lv_i2l X.1 X.2.1 d rfl (hk _ _ _ _ h ls H locs hl hP hD hS)
def tq_i2d (np : Nat) : Tr := fun lv st σ k => match st with
  | Sum.inl x :: r => k np lv (aD (FP.i2d x) :: r) σ
  | _ => False
theorem sq_i2d (X : Cx p l s0 a0 s m args meth c cc nL own D ad cA A) (d : decode cc pc = .ok (.i2d, 1)) : Snd (K p l e R s m args below meth c D ad cA A nL cl sl Q) pc (tq_i2d (pc + 1)) := by
  intro lv st σ k h hk ls H locs hl hP hD hS
  match st, h with
  | Sum.inl x :: r, h => exact lv_i2d X.1 X.2.1 d (hk _ _ _ _ h ls H locs hl hP hD hS)
def tq_dcmp (op : CmpOp) (np : Nat) : Tr := fun lv st σ k => match st with
  | Sum.inr (Sum.inr (Sum.inl y)) :: Sum.inr (Sum.inr (Sum.inl x)) :: r => k np lv (aI (Op.cmpValue (FP.dcmp x y) op) :: r) σ
  | _ => False
theorem sq_dcmp (X : Cx p l s0 a0 s m args meth c cc nL own D ad cA A) {op : CmpOp} (d : decode cc pc = .ok (.dcmp op, 1)) : Snd (K p l e R s m args below meth c D ad cA A nL cl sl Q) pc (tq_dcmp op (pc + 1)) := by
  intro lv st σ k h hk ls H locs hl hP hD hS
  match st, h with
  | Sum.inr (Sum.inr (Sum.inl y)) :: Sum.inr (Sum.inr (Sum.inl x)) :: r, h => exact lv_dcmp X.1 X.2.1 d (hk _ _ _ _ h ls H locs hl hP hD hS)
def tq_push (v : Int32) (np : Nat) : Tr := fun lv st σ k => k np lv (aI v :: st) σ
theorem sq_iconst (X : Cx p l s0 a0 s m args meth c cc nL own D ad cA A) {n : Int} {v : Int32} (hv : Int32.ofInt n = v) (d : decode cc pc = .ok (.iconst n, 1)) : Snd (K p l e R s m args below meth c D ad cA A nL cl sl Q) pc (tq_push v (pc + 1)) := by
  intro lv st σ k h hk ls H locs hl hP hD hS
  exact lv_iconst X.1 X.2.1 d hv (hk _ _ _ _ h ls H locs hl hP hD hS)
theorem sq_bipush (X : Cx p l s0 a0 s m args meth c cc nL own D ad cA A) {n : Int} {v : Int32} (hv : (Int8.ofInt n).toInt32 = v) (d : decode cc pc = .ok (.bipush n, 2)) : Snd (K p l e R s m args below meth c D ad cA A nL cl sl Q) pc (tq_push v (pc + 2)) := by
  intro lv st σ k h hk ls H locs hl hP hD hS
  exact lv_bipush X.1 X.2.1 d hv (hk _ _ _ _ h ls H locs hl hP hD hS)
theorem sq_sipush (X : Cx p l s0 a0 s m args meth c cc nL own D ad cA A) {n : Int} {v : Int32} (hv : (Int16.ofInt n).toInt32 = v) (d : decode cc pc = .ok (.sipush n, 3)) : Snd (K p l e R s m args below meth c D ad cA A nL cl sl Q) pc (tq_push v (pc + 3)) := by
  intro lv st σ k h hk ls H locs hl hP hD hS
  exact lv_sipush X.1 X.2.1 d hv (hk _ _ _ _ h ls H locs hl hP hD hS)
def tq_pushL (v : Int64) (np : Nat) : Tr := fun lv st σ k => k np lv (aL v :: st) σ
theorem sq_lconst (X : Cx p l s0 a0 s m args meth c cc nL own D ad cA A) {n : Fin 2} {v : Int64} (hv : Int64.ofNat (n : Nat) = v) (d : decode cc pc = .ok (.lconst n, 1)) : Snd (K p l e R s m args below meth c D ad cA A nL cl sl Q) pc (tq_pushL v (pc + 1)) := by
  intro lv st σ k h hk ls H locs hl hP hD hS
  exact lv_lconst X.1 X.2.1 d hv (hk _ _ _ _ h ls H locs hl hP hD hS)
/-- the value of a local is laid on the stack -/
def tq_ild (i np : Nat) : Tr := fun lv st σ k => match lv[i]? with
  | some (some (Sum.inl x)) => k np lv (aI x :: st) σ
  | _ => False
def tq_ald (i np : Nat) : Tr := fun lv st σ k => match lv[i]? with
  | some (some (Sum.inr (Sum.inr (Sum.inr q)))) => k np lv (Sum.inr (Sum.inr (Sum.inr q)) :: st) σ
  | _ => False
def tq_dld (i np : Nat) : Tr := fun lv st σ k => match lv[i]? with
  | some (some (Sum.inr (Sum.inr (Sum.inl x)))) => k np lv (aD x :: st) σ
  | _ => False
theorem sq_iload_n (X : Cx p l s0 a0 s m args meth c cc nL own D ad cA A) {i : Nat} {j : Fin 4} (hj : (j : Nat) = i) (d : decode cc pc = .ok (.iload_n j, 1)) : Snd (K p l e R s m args below meth c D ad cA A nL cl sl Q) pc (tq_ild i (pc + 1)) := by
  intro lv st σ k h hk ls H locs hl hP hD hS
  unfold tq_ild at h
  split at h
  next x hx => exact lv_iload_n X.1 X.2.1 d hj (lv_ld hl hx) (hk _ _ _ _ h ls H locs hl hP hD hS)
  next => exact h.elim
theorem sq_iload (X : Cx p l s0 a0 s m args meth c cc nL own D ad cA A) {i : Nat} (d : decode cc pc = .ok (.iload i, 2)) : Snd (K p l e R s m args below meth c D ad cA A nL cl sl Q) pc (tq_ild i (pc + 2)) := by
  intro lv st σ k h hk ls H locs hl hP hD hS
  unfold tq_ild at h
  split at h
  next x hx => exact lv_iload X.1 X.2.1 d (lv_ld hl hx) (hk _ _ _ _ h ls H locs hl hP hD hS)
  next => exact h.elim
theorem sq_aload_n (X : Cx p l s0 a0 s m args meth c cc nL own D ad cA A) {i : Nat} {j : Fin 4} (hj : (j : Nat) = i) (d : decode cc pc = .ok (.aload_n j, 1)) : Snd (K p l e R s m args below meth c D ad cA A nL cl sl Q) pc (tq_ald i (pc + 1)) := by
  intro lv st σ k h hk ls H locs hl hP hD hS
  unfold tq_ald at h
  split at h
  next x hx => exact lv_aload_n X.1 X.2.1 d hj (lv_ld hl hx) (hk _ _ _ _ h ls H locs hl hP hD hS)
  next => exact h.elim
theorem sq_aload (X : Cx p l s0 a0 s m args meth c cc nL own D ad cA A) {i : Nat} (d : decode cc pc = .ok (.aload i, 2)) : Snd (K p l e R s m args below meth c D ad cA A nL cl sl Q) pc (tq_ald i (pc + 2)) := by
  intro lv st σ k h hk ls H locs hl hP hD hS
  unfold tq_ald at h
  split at h
  next x hx => exact lv_aload X.1 X.2.1 d (lv_ld hl hx) (hk _ _ _ _ h ls H locs hl hP hD hS)
  next => exact h.elim
theorem sq_dload (X : Cx p l s0 a0 s m args meth c cc nL own D ad cA A) {i : Nat} (d : decode cc pc = .ok (.dload i, 2)) : Snd (K p l e R s m args below meth c D ad cA A nL cl sl Q) pc (tq_dld i (pc + 2)) := by
  intro lv st σ k h hk ls H locs hl hP hD hS
  unfold tq_dld at h
  split at h
  next x hx => exact lv_dload X.1 X.2.1 d (lv_ld hl hx) (hk _ _ _ _ h ls H locs hl hP hD hS)
  next => exact h.elim
def tq_ist (i np : Nat) : Tr := fun lv st σ k => match st with
  | Sum.inl x :: r => cond (ok1 lv i) (k np (lv.set i (some (aI x))) r σ) False
  | _ => False
def tq_ast (i np : Nat) : Tr := fun lv st σ k => match st with
  | Sum.inr (Sum.inr (Sum.inr x)) :: r => cond (ok1 lv i) (k np (lv.set i (some (Sum.inr (Sum.inr (Sum.inr x))))) r σ) False
  | _ => False
def tq_dst (i np : Nat) : Tr := fun lv st σ k => match st with
  | Sum.inr (Sum.inr (Sum.inl x)) :: r => cond (ok1 lv i) (k np ((lv.set i (some (aD x))).set (i + 1) none) r σ) False
  | _ => False
def tq_iinc (i : Nat) (v : Int32) (np : Nat) : Tr := fun lv st σ k => match lv[i]? with
  | some (some (Sum.inl x)) => cond (ok1 lv i) (k np (lv.set i (some (aI (x + v)))) st σ) False
  | _ => False
theorem sq_istore_n (X : Cx p l s0 a0 s m args meth c cc nL own D ad cA A) {i : Nat} {j : Fin 4} (hj : (j : Nat) = i) (hi : i < nL) (d : decode cc pc = .ok (.istore_n j, 1)) : Snd (K p l e R s m args below meth c D ad cA A nL cl sl Q) pc (tq_ist i (pc + 1)) := by
  intro lv st σ k h hk ls H locs hl hP hD hS
  match st, h with
  | Sum.inl x :: r, h =>
    cases ho : ok1 lv i with
    | false => simp only [tq_ist, ho, cond] at h
    | true =>
      simp only [tq_ist, ho, cond] at h
      exact lv_istore_n X.1 X.2.1 d hj hl hi rfl (fun ls' hl' => hk _ _ _ _ h ls' H locs (lv_set1 ho hl') hP hD hS)
theorem sq_istore (X : Cx p l s0 a0 s m args meth c cc nL own D ad cA A) {i : Nat} (hi : i < nL) (d : decode cc pc = .ok (.istore i, 2)) : Snd (K p l e R s m args below meth c D ad cA A nL cl sl Q) pc (tq_ist i (pc + 2)) := by
  intro lv st σ k h hk ls H locs hl hP hD hS
  match st, h with
  | Sum.inl x :: r, h =>
    cases ho : ok1 lv i with
    | false => simp only [tq_ist, ho, cond] at h
    | true =>
      simp only [tq_ist, ho, cond] at h
      exact lv_istore X.1 X.2.1 d hl hi rfl (fun ls' hl' => hk _ _ _ _ h ls' H locs (lv_set1 ho hl') hP hD hS)
theorem sq_astore_n (X : Cx p l s0 a0 s m args meth c cc nL own D ad cA A) {i : Nat} {j : Fin 4} (hj : (j : Nat) = i) (hi : i < nL) (d : decode cc pc = .ok (.astore_n j, 1)) : Snd (K p l e R s m args below meth c D ad cA A nL cl sl Q) pc (tq_ast i (pc + 1)) := by
  intro lv st σ k h hk ls H locs hl hP hD hS
  match st, h with
  | Sum.inr (Sum.inr (Sum.inr x)) :: r, h =>
    cases ho : ok1 lv i with
    | false => simp only [tq_ast, ho, cond] at h
    | true =>
      simp only [tq_ast, ho, cond] at h
      exact lv_astore_n X.1 X.2.1 d hj hl hi rfl (fun ls' hl' => hk _ _ _ _ h ls' H locs (lv_set1 ho hl') hP hD hS)
theorem sq_astore (X : Cx p l s0 a0 s m args meth c cc nL own D ad cA A) {i : Nat} (hi : i < nL) (d : decode cc pc = .ok (.astore i, 2)) : Snd (K p l e R s m args below meth c D ad cA A nL cl sl Q) pc (tq_ast i (pc + 2)) := by
  intro lv st σ k h hk ls H locs hl hP hD hS
  match st, h with
  | Sum.inr (Sum.inr (Sum.inr x)) :: r, h =>
    cases ho : ok1 lv i with
    | false => simp only [tq_ast, ho, cond] at h
    | true =>
      simp only [tq_ast, ho, cond] at h
      exact lv_astore X.1 X.2.1 d hl hi rfl (fun ls' hl' => hk _ _ _ _ h ls' H locs (lv_set1 ho hl') hP hD hS)
theorem sq_dstore (X : Cx p l s0 a0 s m args meth c cc nL own D ad cA A) {i : Nat} (hi : i + 1 < nL) (d : decode cc pc = .ok (.dstore i, 2)) : Snd (K p l e R s m args below meth c D ad cA A nL cl sl Q) pc (tq_dst i (pc + 2)) := by
  intro lv st σ k h hk ls H locs hl hP hD hS
  match st, h with
  | Sum.inr (Sum.inr (Sum.inl x)) :: r, h =>
    cases ho : ok1 lv i with
    | false => simp only [tq_dst, ho, cond] at h
    | true =>
      simp only [tq_dst, ho, cond] at h
      exact lv_dstore X.1 X.2.1 d hl hi rfl (fun ls' hl' => hk _ _ _ _ h ls' H locs (lv_set2 ho hl') hP hD hS)
theorem sq_iinc (X : Cx p l s0 a0 s m args meth c cc nL own D ad cA A) {i : Nat} {n : Int} {v : Int32} (hi : i < nL) (hv : Int32.ofInt n = v) (d : decode cc pc = .ok (.iinc i n, 3)) : Snd (K p l e R s m args below meth c D ad cA A nL cl sl Q) pc (tq_iinc i v (pc + 3)) := by
  intro lv st σ k h hk ls H locs hl hP hD hS
  unfold tq_iinc at h
  split at h
  next x hx =>
    cases ho : ok1 lv i with
    | false => simp only [ho, cond] at h
    | true =>
      simp only [ho, cond] at h
      obtain ⟨q, hq⟩ := List.getElem?_of_mem ((mem_lvl (ad := ad) lv 0).mpr ⟨i, aI x, hx, rfl⟩)
      rw [Nat.zero_add] at hq
      exact lv_iinc (v := x + v) X.1 X.2.1 d hl hq (by rw [hv]) hi rfl (fun ls' hl' => hk _ _ _ _ h ls' H locs (lv_set1 (a := aI (x + v)) ho hl') hP hD hS)
  next => exact h.elim
def tq_goto (np : Nat) : Tr := fun lv st σ k => k np lv st σ
theorem sq_goto (X : Cx p l s0 a0 s m args meth c cc nL own D ad cA A) {off : Int} {tgt : Nat} (ht : (pc : Int) + off = (tgt : Int)) (d : decode cc pc = .ok (.goto off, 3)) : Snd (K p l e R s m args below meth c D ad cA A nL cl sl Q) pc (tq_goto tgt) := by
  intro lv st σ k h hk ls H locs hl hP hD hS
  exact lv_goto X.1 X.2.1 d ht (hk _ _ _ _ h ls H locs hl hP hD hS)
def tq_dup (np : Nat) : Tr := fun lv st σ k => match st with
  | Sum.inl x :: r => k np lv (aI x :: aI x :: r) σ
  | Sum.inr (Sum.inr (Sum.inr x)) :: r => k np lv (Sum.inr (Sum.inr (Sum.inr x)) :: Sum.inr (Sum.inr (Sum.inr x)) :: r) σ
  | _ => False
theorem sq_dup (X : Cx p l s0 a0 s m args meth c cc nL own D ad cA A) (d : decode cc pc = .ok (.dup, 1)) : Snd (K p l e R s m args below meth c D ad cA A nL cl sl Q) pc (tq_dup (pc + 1)) := by
  intro lv st σ k h hk ls H locs hl hP hD hS
  match st, h with
  | Sum.inl x :: r, h => exact lv_dup (va := .int x) X.1 X.2.1 d rfl (hk _ _ _ _ h ls H locs hl hP hD hS)
  | Sum.inr (Sum.inr (Sum.inr x)) :: r, h => exact lv_dup (va := .ref (ad x.1 x.2)) X.1 X.2.1 d rfl (hk _ _ _ _ h ls H locs hl hP hD hS)
def tq_if_eq (tg np : Nat) : Tr := fun lv st σ k => match st with
  | Sum.inl x :: r => (x = 0 → k tg lv r σ) ∧ (¬ x = 0 → k np lv r σ)
  | _ => False
theorem sq_if_eq (X : Cx p l s0 a0 s m args meth c cc nL own D ad cA A) {off : Int} {tgt : Nat} (ht : (pc : Int) + off = (tgt : Int)) (d : decode cc pc = .ok (.ifCond .eq off, 3)) : Snd (K p l e R s m args below meth c D ad cA A nL cl sl Q) pc (tq_if_eq tgt (pc + 3)) := by
  intro lv st σ k h hk ls H locs hl hP hD hS
  match st, h with
  | Sum.inl x :: r, h => exact lv_if_eq X.1 X.2.1 d ht (fun hc => hk _ _ _ _ (h.1 hc) ls H locs hl hP hD hS) (fun hc => hk _ _ _ _ (h.2 hc) ls H locs hl hP hD hS)
def tq_ic_eq (tg np : Nat) : Tr := fun lv st σ k => match st with
  | Sum.inl y :: Sum.inl x :: r => (x = y → k tg lv r σ) ∧ (¬ x = y → k np lv r σ)
  | _ => False
theorem sq_ic_eq (X : Cx p l s0 a0 s m args meth c cc nL own D ad cA A) {off : Int} {tgt : Nat} (ht : (pc : Int) + off = (tgt : Int)) (d : decode cc pc = .ok (.if_icmp .eq off, 3)) : Snd (K p l e R s m args below meth c D ad cA A nL cl sl Q) pc (tq_ic_eq tgt (pc + 3)) := by
  intro lv st σ k h hk ls H locs hl hP hD hS
  match st, h with
  | Sum.inl y :: Sum.inl x :: r, h => exact lv_icmp_eq X.1 X.2.1 d ht (fun hc => hk _ _ _ _ (h.1 hc) ls H locs hl hP hD hS) (fun hc => hk _ _ _ _ (h.2 hc) ls H locs hl hP hD hS)
def tq_if_ne (tg np : Nat) : Tr := fun lv st σ k => match st with
  | Sum.inl x :: r => (¬ x = 0 → k tg lv r σ) ∧ (x = 0 → k np lv r σ)
  | _ => False
theorem sq_if_ne (X : Cx p l s0 a0 s m args meth c cc nL own D ad cA A) {off : Int} {tgt : Nat} (ht : (pc : Int) + off = (tgt : Int)) (d : decode cc pc = .ok (.ifCond .ne off, 3)) : Snd (K p l e R s m args below meth c D ad cA A nL cl sl Q) pc (tq_if_ne tgt (pc + 3)) := by
  intro lv st σ k h hk ls H locs hl hP hD hS
  match st, h with
  | Sum.inl x :: r, h => exact lv_if_ne X.1 X.2.1 d ht (fun hc => hk _ _ _ _ (h.1 hc) ls H locs hl hP hD hS) (fun hc => hk _ _ _ _ (h.2 hc) ls H locs hl hP hD hS)
def tq_ic_ne (tg np : Nat) : Tr := fun lv st σ k => match st with
  | Sum.inl y :: Sum.inl x :: r => (¬ x = y → k tg lv r σ) ∧ (x = y → k np lv r σ)
  | _ => False
theorem sq_ic_ne (X : Cx p l s0 a0 s m args meth c cc nL own D ad cA A) {off : Int} {tgt : Nat} (ht : (pc : Int) + off = (tgt : Int)) (d : decode cc pc = .ok (.if_icmp .ne off, 3)) : Snd (K p l e R s m args below meth c D ad cA A nL cl sl Q) pc (tq_ic_ne tgt (pc + 3)) := by
  intro lv st σ k h hk ls H locs hl hP hD hS
  match st, h with
  | Sum.inl y :: Sum.inl x :: r, h => exact lv_icmp_ne X.1 X.2.1 d ht (fun hc => hk _ _ _ _ (h.1 hc) ls H locs hl hP hD hS) (fun hc => hk _ _ _ _ (h.2 hc) ls H locs hl hP hD hS)
def tq_if_lt (tg np : Nat) : Tr := fun lv st σ k => match st with
  | Sum.inl x :: r => (x < 0 → k tg lv r σ) ∧ (¬ x < 0 → k np lv r σ)
  | _ => False
theorem sq_if_lt (X : Cx p l s0 a0 s m args meth c cc nL own D ad cA A) {off : Int} {tgt : Nat} (ht : (pc : Int) + off = (tgt : Int)) (d : decode cc pc = .ok (.ifCond .lt off, 3)) : Snd (K p l e R s m args below meth c D ad cA A nL cl sl Q) pc (tq_if_lt tgt (pc + 3)) := by
  intro lv st σ k h hk ls H locs hl hP hD hS
  match st, h with
  | Sum.inl x :: r, h => exact lv_if_lt X.1 X.2.1 d ht (fun hc => hk _ _ _ _ (h.1 hc) ls H locs hl hP hD hS) (fun hc => hk _ _ _ _ (h.2 hc) ls H locs hl hP hD hS)
def tq_ic_lt (tg np : Nat) : Tr := fun lv st σ k => match st with
  | Sum.inl y :: Sum.inl x :: r => (x < y → k tg lv r σ) ∧ (¬ x < y → k np lv r σ)
  | _ => False
theorem sq_ic_lt (X : Cx p l s0 a0 s m args meth c cc nL own D ad cA A) {off : Int} {tgt : Nat} (ht : (pc : Int) + off = (tgt : Int)) (d : decode cc pc = .ok (.if_icmp .lt off, 3)) : Snd (K p l e R s m args below meth c D ad cA A nL cl sl Q) pc (tq_ic_lt tgt (pc + 3)) := by
  intro lv st σ k h hk ls H locs hl hP hD hS
  match st, h with
  | Sum.inl y :: Sum.inl x :: r, h => exact lv_icmp_lt X.1 X.2.1 d ht (fun hc => hk _ _ _ _ (h.1 hc) ls H locs hl hP hD hS) (fun hc => hk _ _ _ _ (h.2 hc) ls H locs hl hP hD hS)
def tq_if_ge (tg np : Nat) : Tr := fun lv st σ k => match st with
  | Sum.inl x :: r => (0 ≤ x → k tg lv r σ) ∧ (¬ 0 ≤ x → k np lv r σ)
  | _ => False
theorem sq_if_ge (X : Cx p l s0 a0 s m args meth c cc nL own D ad cA A) {off : Int} {tgt : Nat} (ht : (pc : Int) + off = (tgt : Int)) (d : decode cc pc = .ok (.ifCond .ge off, 3)) : Snd (K p l e R s m args below meth c D ad cA A nL cl sl Q) pc (tq_if_ge tgt (pc + 3)) := by
  intro lv st σ k h hk ls H locs hl hP hD hS
  match st, h with
  | Sum.inl x :: r, h => exact lv_if_ge X.1 X.2.1 d ht (fun hc => hk _ _ _ _ (h.1 hc) ls H locs hl hP hD hS) (fun hc => hk _ _ _ _ (h.2 hc) ls H locs hl hP hD hS)
def tq_ic_ge (tg np : Nat) : Tr := fun lv st σ k => match st with
  | Sum.inl y :: Sum.inl x :: r => (y ≤ x → k tg lv r σ) ∧ (¬ y ≤ x → k np lv r σ)
  | _ => False
theorem sq_ic_ge (X : Cx p l s0 a0 s m args meth c cc nL own D ad cA A) {off : Int} {tgt : Nat} (ht : (pc : Int) + off = (tgt : Int)) (d : decode cc pc = .ok (.if_icmp .ge off, 3)) : Snd (K p l e R s m args below meth c D ad cA A nL cl sl Q) pc (tq_ic_ge tgt (pc + 3)) := by
  intro lv st σ k h hk ls H locs hl hP hD hS
  match st, h with
  | Sum.inl y :: Sum.inl x :: r, h => exact lv_icmp_ge X.1 X.2.1 d ht (fun hc => hk _ _ _ _ (h.1 hc) ls H locs hl hP hD hS) (fun hc => hk _ _ _ _ (h.2 hc) ls H locs hl hP hD hS)
def tq_if_gt (tg np : Nat) : Tr := fun lv st σ k => match st with
  | Sum.inl x :: r => (0 < x → k tg lv r σ) ∧ (¬ 0 < x → k np lv r σ)
  | _ => False
theorem sq_if_gt (X : Cx p l s0 a0 s m args meth c cc nL own D ad cA A) {off : Int} {tgt : Nat} (ht : (pc : Int) + off = (tgt : Int)) (d : decode cc pc = .ok (.ifCond .gt off, 3)) : Snd (K p l e R s m args below meth c D ad cA A nL cl sl Q) pc (tq_if_gt tgt (pc + 3)) := by
  intro lv st σ k h hk ls H locs hl hP hD hS
  match st, h with
  | Sum.inl x :: r, h => exact lv_if_gt X.1 X.2.1 d ht (fun hc => hk _ _ _ _ (h.1 hc) ls H locs hl hP hD hS) (fun hc => hk _ _ _ _ (h.2 hc) ls H locs hl hP hD hS)
def tq_ic_gt (tg np : Nat) : Tr := fun lv st σ k => match st with
  | Sum.inl y :: Sum.inl x :: r => (y < x → k tg lv r σ) ∧ (¬ y < x → k np lv r σ)
  | _ => False
theorem sq_ic_gt (X : Cx p l s0 a0 s m args meth c cc nL own D ad cA A) {off : Int} {tgt : Nat} (ht : (pc : Int) + off = (tgt : Int)) (d : decode cc pc = .ok (.if_icmp .gt off, 3)) : Snd (K p l e R s m args below meth c D ad cA A nL cl sl Q) pc (tq_ic_gt tgt (pc + 3)) := by
  intro lv st σ k h hk ls H locs hl hP hD hS
  match st, h with
  | Sum.inl y :: Sum.inl x :: r, h => exact lv_icmp_gt X.1 X.2.1 d ht (fun hc => hk _ _ _ _ (h.1 hc) ls H locs hl hP hD hS) (fun hc => hk _ _ _ _ (h.2 hc) ls H locs hl hP hD hS)
def tq_if_le (tg np : Nat) : Tr := fun lv st σ k => match st with
  | Sum.inl x :: r => (x ≤ 0 → k tg lv r σ) ∧ (¬ x ≤ 0 → k np lv r σ)
  | _ => False
theorem sq_if_le (X : Cx p l s0 a0 s m args meth c cc nL own D ad cA A) {off : Int} {tgt : Nat} (ht : (pc : Int) + off = (tgt : Int)) (d : decode cc pc = .ok (.ifCond .le off, 3)) : Snd (K p l e R s m args below meth c D ad cA A nL cl sl Q) pc (tq_if_le tgt (pc + 3)) := by
  intro lv st σ k h hk ls H locs hl hP hD hS
  match st, h with
  | Sum.inl x :: r, h => exact lv_if_le X.1 X.2.1 d ht (fun hc => hk _ _ _ _ (h.1 hc) ls H locs hl hP hD hS) (fun hc => hk _ _ _ _ (h.2 hc) ls H locs hl hP hD hS)
def tq_ic_le (tg np : Nat) : Tr := fun lv st σ k => match st with
  | Sum.inl y :: Sum.inl x :: r => (x ≤ y → k tg lv r σ) ∧ (¬ x ≤ y → k np lv r σ)
  | _ => False
theorem sq_ic_le (X : Cx p l s0 a0 s m args meth c cc nL own D ad cA A) {off : Int} {tgt : Nat} (ht : (pc : Int) + off = (tgt : Int)) (d : decode cc pc = .ok (.if_icmp .le off, 3)) : Snd (K p l e R s m args below meth c D ad cA A nL cl sl Q) pc (tq_ic_le tgt (pc + 3)) := by
  intro lv st σ k h hk ls H locs hl hP hD hS
  match st, h with
  | Sum.inl y :: Sum.inl x :: r, h => exact lv_icmp_le X.1 X.2.1 d ht (fun hc => hk _ _ _ _ (h.1 hc) ls H locs hl hP hD hS) (fun hc => hk _ _ _ _ (h.2 hc) ls H locs hl hP hD hS)
end CORE
end
section
/-! THE HEAP'S ROWS -/
def okq (g i : Nat) (P : Prop) : Prop := cond (Nat.blt g 36) (cond (Nat.beq i 0) P False) (i < 16 ∧ P)
theorem shp_lt {g : Nat} {sh : SH} (h : shp g = some sh) : g < 38 := (List.getElem?_eq_some_iff.mp h).1
theorem okq_out {g i : Nat} {P : Prop} {sh : SH} (hs : shp g = some sh) (h : okq g i P) : okT g i ∧ P := by
  have h38 := shp_lt hs
  unfold okq at h
  cases hb : Nat.blt g 36 with
  | true =>
    rw [hb] at h
    have hg : g < 36 := by simpa [Nat.blt_eq] using hb
    cases hi : Nat.beq i 0 with
    | true =>
      rw [hi] at h
      exact ⟨Or.inl ⟨hg, by simpa using hi⟩, h⟩
    | false => rw [hi] at h; exact h.elim
  | false =>
    rw [hb] at h
    have hg : ¬ g < 36 := fun z => by rw [Nat.blt_eq.mpr z] at hb; cases hb
    exact ⟨Or.inr ⟨by omega, h.1⟩, h.2⟩
section HEAP
variable {p : Program} {l : Launch} {e : Env} {R : Room} {s s0 : State} {a0 : Array Value} {m : MethodId} {args : Array Value} {below : List Frame} {meth : Method} {c : Code} {D : va_G} {ad : Nat → Nat → Nat} {cA : Nat → ClassId} {A : Nat → Prop} {nL cl sl : Nat} {Q : State → Prop} {cc : ByteArray} {own : String} {pc : Nat}
def tq_gf (ci f np : Nat) : Tr := fun lv st σ k => match st with
  | Sum.inr (Sum.inr (Sum.inr (g, i))) :: r => (match shp g with
    | some (.inl o) => cond (Nat.beq o.1 ci) (match o.2[f]? with
      | some none => okq g i (k np lv (aI (rd σ g i f) :: r) σ)
      | some (some g') => okq g i (k np lv (aR g' (tix g' i) :: r) σ)
      | none => False) False
    | _ => False)
  | _ => False
theorem sq_gf (X : Cx p l s0 a0 s m args meth c cc nL own D ad cA A) {C : String} {T : u_T} {N ci index f : Nat} (hc : vwCl[ci]? = some (C, T, N)) (hin : ∀ w ∈ u_ws C T N, w ∈ lw_tbl) (hgd : (u_ws C T N).all goodWord = true) (hf : f < N) (hlink : Cond.fieldLink own index (T f).1 (T f).2.1 (T f).2.2.1 ∈ lw_tbl)
    (d : decode cc pc = .ok (.getfield index, 3)) : Snd (K p l e R s m args below meth c D ad cA A nL cl sl Q) pc (tq_gf ci f (pc + 3)) := by
  intro lv st σ k h hk ls H locs hl hP hD hS
  have hK := X.2.2.2.2.1
  match st, h with
  | Sum.inr (Sum.inr (Sum.inr (g, i))) :: r, h =>
    simp only [tq_gf] at h
    split at h
    next o hs =>
      cases hb : Nat.beq o.1 ci with
      | false => rw [hb] at h; exact h.elim
      | true =>
        rw [hb] at h
        have hoc : o.1 = ci := Nat.eq_of_beq_eq_true hb
        simp only [cond] at h
        split at h
        next hv =>
          obtain ⟨ho, h9⟩ := okq_out hs h
          have he := wld_at (ad := ad) (cA := cA) (σ := σ) ho hs
          simp only [cell1, hoc] at he
          exact va_get (D := D) (C := C) (T := T) (N := N) X.1 X.2.1 (X.ws hin hgd) (fun w h => h) X.2.2.2.1 hK hP (pos g i) he hc f hf (X.w hlink rfl) (fun _ h => h) (fcs_int o.2 0 f hv) d (by rw [Nat.zero_add]; exact hk _ _ _ _ h9 ls H locs hl hP hD hS)
        next g' hv =>
          obtain ⟨ho, h9⟩ := okq_out hs h
          have he := wld_at (ad := ad) (cA := cA) (σ := σ) ho hs
          simp only [cell1, hoc] at he
          exact va_get (D := D) (C := C) (T := T) (N := N) X.1 X.2.1 (X.ws hin hgd) (fun w h => h) X.2.2.2.1 hK hP (pos g i) he hc f hf (X.w hlink rfl) (fun _ h => h) (fcs_ref o.2 0 f hv) d (hk _ _ _ _ h9 ls H locs hl hP hD hS)
        next => exact h.elim
    next => exact h.elim
def tq_pf (ci f np : Nat) : Tr := fun lv st σ k => match st with
  | Sum.inl x :: Sum.inr (Sum.inr (Sum.inr (g, i))) :: r => (match shp g with
    | some (.inl o) => cond (Nat.beq o.1 ci) (match o.2[f]? with
      | some none => okq g i (k np lv r (wr σ g i f x))
      | _ => False) False
    | _ => False)
  | _ => False
theorem sq_pf (X : Cx p l s0 a0 s m args meth c cc nL own D ad cA A) {C : String} {T : u_T} {N ci index f : Nat} (hc : vwCl[ci]? = some (C, T, N)) (hin : ∀ w ∈ u_ws C T N, w ∈ lw_tbl) (hgd : (u_ws C T N).all goodWord = true) (ty0 : Nat → FieldType) (hty : ∀ k, k < N → parseFieldDescriptor (T k).2.2.1 = some (ty0 k)) (hnm : ∀ a, a < N → ∀ b, b < N → a ≠ b → (T a).2.1 ≠ (T b).2.1) (hf : f < N) (hlink : Cond.fieldLink own index (T f).1 (T f).2.1 (T f).2.2.1 ∈ lw_tbl) (hfin : (T f).2.2.2 = false) (hd : ty0 f = .int)
    (d : decode cc pc = .ok (.putfield index, 3)) : Snd (K p l e R s m args below meth c D ad cA A nL cl sl Q) pc (tq_pf ci f (pc + 3)) := by
  intro lv st σ k h hk ls H locs hl hP hD hS
  have hK := X.2.2.2.2.1
  match st, h with
  | Sum.inl x :: Sum.inr (Sum.inr (Sum.inr (g, i))) :: r, h =>
    simp only [tq_pf] at h
    split at h
    next o hs =>
      cases hb : Nat.beq o.1 ci with
      | false => rw [hb] at h; exact h.elim
      | true =>
        rw [hb] at h
        have hoc : o.1 = ci := Nat.eq_of_beq_eq_true hb
        simp only [cond] at h
        split at h
        next hv =>
          obtain ⟨ho, h9⟩ := okq_out hs h
          have he := wld_at (ad := ad) (cA := cA) (σ := σ) ho hs
          simp only [cell1, hoc] at he
          refine va_put (D := D) (C := C) (T := T) (N := N) (v := .int x) (ty := .int) X.1 X.2.1 (X.ws hin hgd) (fun w h => h) ty0 hty hnm X.2.2.2.1 hK hP hD hS (pos g i) he hc f hf (X.w hlink rfl) (fun _ h => h) hfin (by rw [hty f hf, hd]) rfl rfl (by rw [fcs_len]; exact (List.getElem?_eq_some_iff.mp hv).1) d (fun H1 locs1 hP1 hD1 hS1 => ?_)
          obtain ⟨o1, o2⟩ := o
          dsimp only at hoc hv hP1 hD1
          subst hoc
          rw [wld_wr_f ho hs hv] at hP1 hD1
          exact hk _ _ _ _ h9 ls H1 locs1 hl hP1 hD1 hS1
        next => exact h.elim
    next => exact h.elim
def tq_pz (ci f np : Nat) : Tr := fun lv st σ k => match st with
  | Sum.inl x :: Sum.inr (Sum.inr (Sum.inr (g, i))) :: r => (match shp g with
    | some (.inl o) => cond (Nat.beq o.1 ci) (match o.2[f]? with
      | some none => okq g i ((x = 0 ∨ x = 1) ∧ k np lv r (wr σ g i f x))
      | _ => False) False
    | _ => False)
  | _ => False
theorem sq_pz (X : Cx p l s0 a0 s m args meth c cc nL own D ad cA A) {C : String} {T : u_T} {N ci index f : Nat} (hc : vwCl[ci]? = some (C, T, N)) (hin : ∀ w ∈ u_ws C T N, w ∈ lw_tbl) (hgd : (u_ws C T N).all goodWord = true) (ty0 : Nat → FieldType) (hty : ∀ k, k < N → parseFieldDescriptor (T k).2.2.1 = some (ty0 k)) (hnm : ∀ a, a < N → ∀ b, b < N → a ≠ b → (T a).2.1 ≠ (T b).2.1) (hf : f < N) (hlink : Cond.fieldLink own index (T f).1 (T f).2.1 (T f).2.2.1 ∈ lw_tbl) (hfin : (T f).2.2.2 = false) (hd : ty0 f = .boolean)
    (d : decode cc pc = .ok (.putfield index, 3)) : Snd (K p l e R s m args below meth c D ad cA A nL cl sl Q) pc (tq_pz ci f (pc + 3)) := by
  intro lv st σ k h hk ls H locs hl hP hD hS
  have hK := X.2.2.2.2.1
  match st, h with
  | Sum.inl x :: Sum.inr (Sum.inr (Sum.inr (g, i))) :: r, h =>
    simp only [tq_pz] at h
    split at h
    next o hs =>
      cases hb : Nat.beq o.1 ci with
      | false => rw [hb] at h; exact h.elim
      | true =>
        rw [hb] at h
        have hoc : o.1 = ci := Nat.eq_of_beq_eq_true hb
        simp only [cond] at h
        split at h
        next hv =>
          obtain ⟨ho, h9⟩ := okq_out hs h
          have he := wld_at (ad := ad) (cA := cA) (σ := σ) ho hs
          simp only [cell1, hoc] at he
          refine va_put (D := D) (C := C) (T := T) (N := N) (v := .int x) (ty := .boolean) X.1 X.2.1 (X.ws hin hgd) (fun w h => h) ty0 hty hnm X.2.2.2.1 hK hP hD hS (pos g i) he hc f hf (X.w hlink rfl) (fun _ h => h) hfin (by rw [hty f hf, hd]) (by rcases h9.1 with rfl | rfl <;> rfl) (by rcases h9.1 with rfl | rfl <;> rfl) (by rw [fcs_len]; exact (List.getElem?_eq_some_iff.mp hv).1) d (fun H1 locs1 hP1 hD1 hS1 => ?_)
          obtain ⟨o1, o2⟩ := o
          dsimp only at hoc hv hP1 hD1
          subst hoc
          rw [wld_wr_f ho hs hv] at hP1 hD1
          exact hk _ _ _ _ h9.2 ls H1 locs1 hl hP1 hD1 hS1
        next => exact h.elim
    next => exact h.elim
def tq_iald (np : Nat) : Tr := fun lv st σ k => match st with
  | Sum.inl x :: Sum.inr (Sum.inr (Sum.inr (g, i))) :: r => (match shp g with
    | some (.inr a) => cond (Nat.beq a.1 0) (okq g i (vp_in x a.2 ∧ k np lv (aI (rd σ g i x.toNatClampNeg) :: r) σ)) False
    | _ => False)
  | _ => False
theorem sq_iald (X : Cx p l s0 a0 s m args meth c cc nL own D ad cA A) (d : decode cc pc = .ok (.iaload, 1)) : Snd (K p l e R s m args below meth c D ad cA A nL cl sl Q) pc (tq_iald (pc + 1)) := by
  intro lv st σ k h hk ls H locs hl hP hD hS
  have hK := X.2.2.2.2.1
  match st, h with
  | Sum.inl x :: Sum.inr (Sum.inr (Sum.inr (g, i))) :: r, h =>
    simp only [tq_iald] at h
    split at h
    next a hs =>
      obtain ⟨kd, n⟩ := a
      dsimp only at h
      cases hb : Nat.beq kd 0 with
      | false => rw [hb] at h; exact h.elim
      | true =>
        rw [hb] at h
        have hoc : kd = 0 := Nat.eq_of_beq_eq_true hb
        subst hoc
        obtain ⟨ho, hin, h9⟩ := okq_out hs h
        have he := wld_at (ad := ad) (cA := cA) (σ := σ) ho hs
        exact va_iald (D := D) X.1 X.2.1 hK hP (pos g i) 0 he rfl hin d (hk _ _ _ _ h9 ls H locs hl hP hD hS)
    next => exact h.elim
def tq_zald (np : Nat) : Tr := fun lv st σ k => match st with
  | Sum.inl x :: Sum.inr (Sum.inr (Sum.inr (g, i))) :: r => (match shp g with
    | some (.inr a) => cond (Nat.beq a.1 2) (okq g i (vp_in x a.2 ∧ k np lv (aI (rd σ g i x.toNatClampNeg) :: r) σ)) False
    | _ => False)
  | _ => False
theorem sq_zald (X : Cx p l s0 a0 s m args meth c cc nL own D ad cA A) (d : decode cc pc = .ok (.baload, 1)) : Snd (K p l e R s m args below meth c D ad cA A nL cl sl Q) pc (tq_zald (pc + 1)) := by
  intro lv st σ k h hk ls H locs hl hP hD hS
  have hK := X.2.2.2.2.1
  match st, h with
  | Sum.inl x :: Sum.inr (Sum.inr (Sum.inr (g, i))) :: r, h =>
    simp only [tq_zald] at h
    split at h
    next a hs =>
      obtain ⟨kd, n⟩ := a
      dsimp only at h
      cases hb : Nat.beq kd 2 with
      | false => rw [hb] at h; exact h.elim
      | true =>
        rw [hb] at h
        have hoc : kd = 2 := Nat.eq_of_beq_eq_true hb
        subst hoc
        obtain ⟨ho, hin, h9⟩ := okq_out hs h
        have he := wld_at (ad := ad) (cA := cA) (σ := σ) ho hs
        exact va_zald (D := D) X.1 X.2.1 hK hP (pos g i) 2 he rfl hin d (hk _ _ _ _ h9 ls H locs hl hP hD hS)
    next => exact h.elim
def tq_lald (np : Nat) : Tr := fun lv st σ k => match st with
  | Sum.inl x :: Sum.inr (Sum.inr (Sum.inr (g, i))) :: r => (match shp g with
    | some (.inr a) => cond (Nat.beq a.1 1) (okq g i (vp_in x a.2 ∧ k np lv (aL (rl σ g x.toNatClampNeg) :: r) σ)) False
    | _ => False)
  | _ => False
theorem sq_lald (X : Cx p l s0 a0 s m args meth c cc nL own D ad cA A) (d : decode cc pc = .ok (.laload, 1)) : Snd (K p l e R s m args below meth c D ad cA A nL cl sl Q) pc (tq_lald (pc + 1)) := by
  intro lv st σ k h hk ls H locs hl hP hD hS
  have hK := X.2.2.2.2.1
  match st, h with
  | Sum.inl x :: Sum.inr (Sum.inr (Sum.inr (g, i))) :: r, h =>
    simp only [tq_lald] at h
    split at h
    next a hs =>
      obtain ⟨kd, n⟩ := a
      dsimp only at h
      cases hb : Nat.beq kd 1 with
      | false => rw [hb] at h; exact h.elim
      | true =>
        rw [hb] at h
        have hoc : kd = 1 := Nat.eq_of_beq_eq_true hb
        subst hoc
        obtain ⟨ho, hin, h9⟩ := okq_out hs h
        have he := wld_at (ad := ad) (cA := cA) (σ := σ) ho hs
        exact va_lald (D := D) X.1 X.2.1 hK hP (pos g i) 1 he rfl hin d (hk _ _ _ _ h9 ls H locs hl hP hD hS)
    next => exact h.elim
def tq_dald (np : Nat) : Tr := fun lv st σ k => match st with
  | Sum.inl x :: Sum.inr (Sum.inr (Sum.inr (g, i))) :: r => (match shp g with
    | some (.inr a) => cond (Nat.beq a.1 3) (okq g i (vp_in x a.2 ∧ k np lv (aD (rz σ g x.toNatClampNeg) :: r) σ)) False
    | _ => False)
  | _ => False
theorem sq_dald (X : Cx p l s0 a0 s m args meth c cc nL own D ad cA A) (d : decode cc pc = .ok (.daload, 1)) : Snd (K p l e R s m args below meth c D ad cA A nL cl sl Q) pc (tq_dald (pc + 1)) := by
  intro lv st σ k h hk ls H locs hl hP hD hS
  have hK := X.2.2.2.2.1
  match st, h with
  | Sum.inl x :: Sum.inr (Sum.inr (Sum.inr (g, i))) :: r, h =>
    simp only [tq_dald] at h
    split at h
    next a hs =>
      obtain ⟨kd, n⟩ := a
      dsimp only at h
      cases hb : Nat.beq kd 3 with
      | false => rw [hb] at h; exact h.elim
      | true =>
        rw [hb] at h
        have hoc : kd = 3 := Nat.eq_of_beq_eq_true hb
        subst hoc
        obtain ⟨ho, hin, h9⟩ := okq_out hs h
        have he := wld_at (ad := ad) (cA := cA) (σ := σ) ho hs
        exact va_dald (D := D) X.1 X.2.1 hK hP (pos g i) 3 he rfl hin d (hk _ _ _ _ h9 ls H locs hl hP hD hS)
    next => exact h.elim
def tq_aald (np : Nat) : Tr := fun lv st σ k => match st with
  | Sum.inl x :: Sum.inr (Sum.inr (Sum.inr (g, i))) :: r => (match shp g with
    | some (.inr a) => cond (Nat.beq a.1 4) (okq g i (vp_in x a.2 ∧ k np lv (aR 36 x.toNatClampNeg :: r) σ)) False
    | _ => False)
  | _ => False
theorem sq_aald (X : Cx p l s0 a0 s m args meth c cc nL own D ad cA A) (d : decode cc pc = .ok (.aaload, 1)) : Snd (K p l e R s m args below meth c D ad cA A nL cl sl Q) pc (tq_aald (pc + 1)) := by
  intro lv st σ k h hk ls H locs hl hP hD hS
  have hK := X.2.2.2.2.1
  match st, h with
  | Sum.inl x :: Sum.inr (Sum.inr (Sum.inr (g, i))) :: r, h =>
    simp only [tq_aald] at h
    split at h
    next a hs =>
      obtain ⟨kd, n⟩ := a
      dsimp only at h
      cases hb : Nat.beq kd 4 with
      | false => rw [hb] at h; exact h.elim
      | true =>
        rw [hb] at h
        have hoc : kd = 4 := Nat.eq_of_beq_eq_true hb
        subst hoc
        obtain ⟨ho, hin, h9⟩ := okq_out hs h
        have he := wld_at (ad := ad) (cA := cA) (σ := σ) ho hs
        exact va_aldq (D := D) X.1 X.2.1 hK hP (pos g i) 4 he rfl hin d (hk _ _ _ _ h9 ls H locs hl hP hD hS)
    next => exact h.elim
def tq_iast (np : Nat) : Tr := fun lv st σ k => match st with
  | Sum.inl v :: Sum.inl x :: Sum.inr (Sum.inr (Sum.inr (g, i))) :: r => (match shp g with
    | some (.inr a) => cond (Nat.beq a.1 0) (okq g i (vp_in x a.2 ∧ k np lv r (wr σ g i x.toNatClampNeg v))) False
    | _ => False)
  | _ => False
theorem sq_iast (X : Cx p l s0 a0 s m args meth c cc nL own D ad cA A) (d : decode cc pc = .ok (.iastore, 1)) : Snd (K p l e R s m args below meth c D ad cA A nL cl sl Q) pc (tq_iast (pc + 1)) := by
  intro lv st σ k h hk ls H locs hl hP hD hS
  have hK := X.2.2.2.2.1
  match st, h with
  | Sum.inl v :: Sum.inl x :: Sum.inr (Sum.inr (Sum.inr (g, i))) :: r, h =>
    simp only [tq_iast] at h
    split at h
    next a hs =>
      obtain ⟨kd, n⟩ := a
      dsimp only at h
      cases hb : Nat.beq kd 0 with
      | false => rw [hb] at h; exact h.elim
      | true =>
        rw [hb] at h
        have hoc : kd = 0 := Nat.eq_of_beq_eq_true hb
        subst hoc
        obtain ⟨ho, hin, h9⟩ := okq_out hs h
        have he := wld_at (ad := ad) (cA := cA) (σ := σ) ho hs
        refine va_iast (D := D) X.1 X.2.1 hK hP hD hS (pos g i) 0 he rfl hin d (fun H1 locs1 hP1 hD1 hS1 => ?_)
        rw [wld_wr_a ho hs (Or.inl rfl)] at hP1 hD1
        exact hk _ _ _ _ h9 ls H1 locs1 hl hP1 hD1 hS1
    next => exact h.elim
def tq_zast (np : Nat) : Tr := fun lv st σ k => match st with
  | Sum.inl v :: Sum.inl x :: Sum.inr (Sum.inr (Sum.inr (g, i))) :: r => (match shp g with
    | some (.inr a) => cond (Nat.beq a.1 2) (okq g i (vp_in x a.2 ∧ (v = 0 ∨ v = 1) ∧ k np lv r (wr σ g i x.toNatClampNeg v))) False
    | _ => False)
  | _ => False
theorem sq_zast (X : Cx p l s0 a0 s m args meth c cc nL own D ad cA A) (d : decode cc pc = .ok (.bastore, 1)) : Snd (K p l e R s m args below meth c D ad cA A nL cl sl Q) pc (tq_zast (pc + 1)) := by
  intro lv st σ k h hk ls H locs hl hP hD hS
  have hK := X.2.2.2.2.1
  match st, h with
  | Sum.inl v :: Sum.inl x :: Sum.inr (Sum.inr (Sum.inr (g, i))) :: r, h =>
    simp only [tq_zast] at h
    split at h
    next a hs =>
      obtain ⟨kd, n⟩ := a
      dsimp only at h
      cases hb : Nat.beq kd 2 with
      | false => rw [hb] at h; exact h.elim
      | true =>
        rw [hb] at h
        have hoc : kd = 2 := Nat.eq_of_beq_eq_true hb
        subst hoc
        obtain ⟨ho, hin, hv01, h9⟩ := okq_out hs h
        have he := wld_at (ad := ad) (cA := cA) (σ := σ) ho hs
        refine va_zast (D := D) X.1 X.2.1 hK hP hD hS (pos g i) 2 he rfl hin d (fun H1 locs1 hP1 hD1 hS1 => ?_)
        rw [show vp_nar .boolean v = v by rcases hv01 with rfl | rfl <;> rfl] at hP1 hD1
        rw [wld_wr_a ho hs (Or.inr rfl)] at hP1 hD1
        exact hk _ _ _ _ h9 ls H1 locs1 hl hP1 hD1 hS1
    next => exact h.elim
def tq_last (np : Nat) : Tr := fun lv st σ k => match st with
  | Sum.inr (Sum.inl v) :: Sum.inl x :: Sum.inr (Sum.inr (Sum.inr (g, i))) :: r => (match shp g with
    | some (.inr a) => cond (Nat.beq a.1 1) (okq g i (vp_in x a.2 ∧ k np lv r (wrl σ g x.toNatClampNeg v))) False
    | _ => False)
  | _ => False
theorem sq_last (X : Cx p l s0 a0 s m args meth c cc nL own D ad cA A) (d : decode cc pc = .ok (.lastore, 1)) : Snd (K p l e R s m args below meth c D ad cA A nL cl sl Q) pc (tq_last (pc + 1)) := by
  intro lv st σ k h hk ls H locs hl hP hD hS
  have hK := X.2.2.2.2.1
  match st, h with
  | Sum.inr (Sum.inl v) :: Sum.inl x :: Sum.inr (Sum.inr (Sum.inr (g, i))) :: r, h =>
    simp only [tq_last] at h
    split at h
    next a hs =>
      obtain ⟨kd, n⟩ := a
      dsimp only at h
      cases hb : Nat.beq kd 1 with
      | false => rw [hb] at h; exact h.elim
      | true =>
        rw [hb] at h
        have hoc : kd = 1 := Nat.eq_of_beq_eq_true hb
        subst hoc
        obtain ⟨ho, hin, h9⟩ := okq_out hs h
        have he := wld_at (ad := ad) (cA := cA) (σ := σ) ho hs
        refine va_last (D := D) X.1 X.2.1 hK hP hD hS (pos g i) 1 he rfl hin d (fun H1 locs1 hP1 hD1 hS1 => ?_)
        have hg36 : g < 36 ∧ i = 0 := by
          rcases ho with z | ⟨z | z, -⟩
          · exact z
          · subst z; simp [shp, layS] at hs
          · subst z; simp [shp, layS] at hs
        obtain ⟨hg36, rfl⟩ := hg36
        rw [wld_wrl hg36 hs] at hP1 hD1
        exact hk _ _ _ _ h9 ls H1 locs1 hl hP1 hD1 hS1
    next => exact h.elim
def tq_dast (np : Nat) : Tr := fun lv st σ k => match st with
  | Sum.inr (Sum.inr (Sum.inl v)) :: Sum.inl x :: Sum.inr (Sum.inr (Sum.inr (g, i))) :: r => (match shp g with
    | some (.inr a) => cond (Nat.beq a.1 3) (okq g i (vp_in x a.2 ∧ k np lv r (wrz σ g x.toNatClampNeg v))) False
    | _ => False)
  | _ => False
theorem sq_dast (X : Cx p l s0 a0 s m args meth c cc nL own D ad cA A) (d : decode cc pc = .ok (.dastore, 1)) : Snd (K p l e R s m args below meth c D ad cA A nL cl sl Q) pc (tq_dast (pc + 1)) := by
  intro lv st σ k h hk ls H locs hl hP hD hS
  have hK := X.2.2.2.2.1
  match st, h with
  | Sum.inr (Sum.inr (Sum.inl v)) :: Sum.inl x :: Sum.inr (Sum.inr (Sum.inr (g, i))) :: r, h =>
    simp only [tq_dast] at h
    split at h
    next a hs =>
      obtain ⟨kd, n⟩ := a
      dsimp only at h
      cases hb : Nat.beq kd 3 with
      | false => rw [hb] at h; exact h.elim
      | true =>
        rw [hb] at h
        have hoc : kd = 3 := Nat.eq_of_beq_eq_true hb
        subst hoc
        obtain ⟨ho, hin, h9⟩ := okq_out hs h
        have he := wld_at (ad := ad) (cA := cA) (σ := σ) ho hs
        refine va_dast (D := D) X.1 X.2.1 hK hP hD hS (pos g i) 3 he rfl hin d (fun H1 locs1 hP1 hD1 hS1 => ?_)
        have hg36 : g < 36 ∧ i = 0 := by
          rcases ho with z | ⟨z | z, -⟩
          · exact z
          · subst z; simp [shp, layS] at hs
          · subst z; simp [shp, layS] at hs
        obtain ⟨hg36, rfl⟩ := hg36
        rw [wld_wrz hg36 hs] at hP1 hD1
        exact hk _ _ _ _ h9 ls H1 locs1 hl hP1 hD1 hS1
    next => exact h.elim
/-- the cases of a switch, by their numbers -/
def swc (x : Int32) (dn : Nat) (lv : LV) (r : List AV) (σ : Mem) (k : Kt) : List (Int32 × Nat) → Prop
  | [] => k dn lv r σ
  | (v, t) :: cs => (x = v → k t lv r σ) ∧ (¬ x = v → swc x dn lv r σ k cs)
def tq_sw (dn : Nat) (cs : List (Int32 × Nat)) : Tr := fun lv st σ k => match st with
  | Sum.inl x :: r => swc x dn lv r σ k cs
  | _ => False
theorem swc_in {x : Int32} {dn : Nat} {lv : LV} {r : List AV} {σ : Mem} {k : Kt} : ∀ (cs : List (Int32 × Nat)) (j : Nat) (t : Nat), swc x dn lv r σ k cs → cs[j]? = some (x, t) → (∀ i, i < j → ∀ v t', cs[i]? = some (v, t') → ¬ x = v) → k t lv r σ
  | [], j, t, _, h, _ => by simp at h
  | (v, t0) :: cs, 0, t, h, hj, _ => by
    simp at hj
    obtain ⟨rfl, rfl⟩ := hj
    exact h.1 rfl
  | (v, t0) :: cs, j + 1, t, h, hj, hn => swc_in cs j t (h.2 (hn 0 (by omega) v t0 rfl)) (by simpa using hj) (fun i hi v' t' hv => hn (i + 1) (by omega) v' t' (by simpa using hv))
theorem swc_out {x : Int32} {dn : Nat} {lv : LV} {r : List AV} {σ : Mem} {k : Kt} : ∀ (cs : List (Int32 × Nat)), swc x dn lv r σ k cs → (∀ q ∈ cs, ¬ x = q.1) → k dn lv r σ
  | [], h, _ => h
  | (v, t0) :: cs, h, hn => swc_out cs (h.2 (hn (v, t0) List.mem_cons_self)) (fun q hq => hn q (List.mem_cons_of_mem _ hq))
/-- the switch's table is that of its cases: lo, lo+1, .. -/
def swOK (pc : Nat) (lo : Int) (offs : List Int) (cs : List (Int32 × Nat)) : Bool := (List.range offs.length).all (fun j => match offs[j]?, cs[j]? with
  | some off, some (v, t) => decide (v.toInt = lo + j) && decide ((pc : Int) + off = (t : Int))
  | _, _ => false)
theorem sq_sw (X : Cx p l s0 a0 s m args meth c cc nL own D ad cA A) {dflt lo hi : Int} {offs : Array Int} {len dn : Nat} {cs : List (Int32 × Nat)} (hd : (pc : Int) + dflt = (dn : Int)) (hlen : cs.length = offs.size) (hhi : hi = lo + offs.size - 1) (hok : swOK pc lo offs.toList cs = true)
    (d : decode cc pc = .ok (.tableswitch dflt lo hi offs, len)) : Snd (K p l e R s m args below meth c D ad cA A nL cl sl Q) pc (tq_sw dn cs) := by
  intro lv st σ k h hk ls H locs hl hP hD hS
  match st, h with
  | Sum.inl x :: r, h =>
    simp only [tq_sw] at h
    have key : ∀ j, j < offs.size → ∃ off v t, offs[j]? = some off ∧ cs[j]? = some (v, t) ∧ v.toInt = lo + j ∧ (pc : Int) + off = (t : Int) := by
      intro j hj
      have h1 := List.all_eq_true.mp hok j (by simpa using hj)
      have e1 : offs.toList[j]? = some offs[j] := by simp [hj]
      have e2 : ∃ q, cs[j]? = some q := ⟨cs[j]'(by omega), by simp [hlen, hj]⟩
      obtain ⟨⟨v, t⟩, e2⟩ := e2
      rw [e1, e2] at h1
      simp only [Bool.and_eq_true, decide_eq_true_eq] at h1
      exact ⟨offs[j], v, t, by simp [hj], e2, h1.1, h1.2⟩
    by_cases hlo : x.toInt < lo ∨ hi < x.toInt
    · refine lv_tableOut X.1 X.2.1 d hlo hd (hk _ _ _ _ (swc_out cs h (fun q hq => ?_)) ls H locs hl hP hD hS)
      obtain ⟨j, hj⟩ := List.getElem?_of_mem hq
      have hjl : j < offs.size := by rw [← hlen]; exact (List.getElem?_eq_some_iff.mp hj).1
      obtain ⟨off, v, t, -, a2, a3, -⟩ := key j hjl
      rw [hj] at a2
      cases a2
      intro e
      subst e
      try dsimp only at hlo a3
      omega
    · have h1 : ¬ x.toInt < lo := fun z => hlo (Or.inl z)
      have h2 : ¬ hi < x.toInt := fun z => hlo (Or.inr z)
      have hj : (x.toInt - lo).toNat < offs.size := by omega
      obtain ⟨off, v, t, a1, a2, a3, a4⟩ := key _ hj
      have hv : v = x := by
        apply Int32.toInt_inj.mp
        rw [a3]
        omega
      subst hv
      refine lv_tableIn X.1 X.2.1 d h1 h2 a1 a4 (hk _ _ _ _ (swc_in cs _ t h a2 (fun i hi v' t' hv e => ?_)) ls H locs hl hP hD hS)
      obtain ⟨_, v2, t2, -, b2, b3, -⟩ := key i (by omega)
      rw [hv] at b2
      cases b2
      subst e
      omega
end HEAP
end
section
/-! CONTRACTS, CALLS, RETURNS, THE WALK OF A TABLE -/
def rmL (n : Nat) : Room := { frames := n, cells := 0, slots := 0, locals := 60 * n }
abbrev Post : Type := Option AV → Mem → Prop
abbrev SpecT : Type := List AV → Mem → Post → Prop
def WdU (l : Launch) (a0 : Array Value) (s0 : State) (D : va_G) (ad : Nat → Nat → Nat) (cA : Nat → ClassId) (σ : Mem) (U : State) : Prop :=
  va_P D vwCl (wld ad cA σ) U.heap ∧ va_K D vwCl (tysL cA) U ∧ va_D (fun _ => True) (wld ad cA σ) ∧ Bs l a0 s0 ad U ∧ ∀ q ∈ wld ad cA σ, s0.heap.size ≤ q.1
def PcW (l : Launch) (a0 : Array Value) (s0 : State) (D : va_G) (ad : Nat → Nat → Nat) (cA : Nat → ClassId) (sz : Nat) (av : List AV) (σ : Mem) : Array Value → State → Prop :=
  va_Pc (av.map (conc ad)) (fun U => U.heap.size = sz ∧ WdU l a0 s0 D ad cA σ U)
def QcW (Φ : Post) (D : va_G) (ad : Nat → Nat → Nat) (cA : Nat → ClassId) (A : Nat → Prop) : Array Value → State → Outcome → State → Prop := fun _ st oc t =>
  (∃ (r : Option AV) (σ' : Mem), oc = .returned (r.map (conc ad)) ∧ Φ r σ' ∧ va_P D vwCl (wld ad cA σ') t.heap ∧ va_K D vwCl (tysL cA) t ∧ va_D A (wld ad cA σ')) ∧ va_F A st t
/-- a one-word value -/
def c1w : AV → Bool
  | Sum.inl _ => true
  | Sum.inr (Sum.inr (Sum.inr _)) => true
  | _ => false
/-- THE CONTRACT of a method of n words (with its receiver) at a level of room -/
def Con (l : Launch) (y : MethodName) (cc : ByteArray) (maxL : Nat) (ret : Option FieldType) (n lev : Nat) (S : SpecT) : Prop :=
  ∀ (a0 : Array Value) (s0 : State) (D : va_G) (ad : Nat → Nat → Nat) (cA : Nat → ClassId) (sz : Nat) (av : List AV) (σ : Mem) (Φ : Post), av.length = n → av.all c1w = true → S av σ Φ →
    Met l y [.code y cc maxL ret] (rmL lev) (PcW l a0 s0 D ad cA sz av σ) (QcW Φ D ad cA (va_A (wld ad cA σ) sz)) 0 0 (va_A (wld ad cA σ) sz)
theorem PcW_blind {l : Launch} {a0 : Array Value} {s0 : State} {D : va_G} {ad : Nat → Nat → Nat} {cA : Nat → ClassId} {sz : Nat} {av : List AV} {σ : Mem} : FrameBlind (PcW l a0 s0 D ad cA sz av σ) := by
  intro a U g mk h
  obtain ⟨h1, h2, h3, h4, h5, ⟨h6, h7, h8⟩, h9⟩ := h
  exact ⟨h1, h2, h3, va_K.moved (u := U) (U := U.calling g mk a) (Vm.Alike.refl U.vm) h4, h5, ⟨h6, h7, h8⟩, h9⟩
theorem wld_fst {ad : Nat → Nat → Nat} {cA : Nat → ClassId} {σ σ' : Mem} : (wld ad cA σ).map Prod.fst = (wld ad cA σ').map Prod.fst := by
  simp only [wld, List.map_map]
  rfl
theorem wld_adr {ad : Nat → Nat → Nat} {cA : Nat → ClassId} {σ σ' : Mem} {P : Nat → Prop} (h : ∀ q ∈ wld ad cA σ, P q.1) : ∀ q ∈ wld ad cA σ', P q.1 := by
  intro q hq
  have h1 : q.1 ∈ (wld ad cA σ').map Prod.fst := List.mem_map.mpr ⟨q, hq, rfl⟩
  rw [wld_fst (σ' := σ)] at h1
  obtain ⟨q2, h2, h3⟩ := List.mem_map.mp h1
  rw [← h3]
  exact h q2 h2
section CALL
variable {p : Program} {l : Launch} {e : Env} {R : Room} {s s0 : State} {a0 : Array Value} {m : MethodId} {args : Array Value} {below : List Frame} {meth : Method} {c : Code} {D : va_G} {ad : Nat → Nat → Nat} {cA : Nat → ClassId} {A : Nat → Prop} {nL cl sl : Nat} {Q : State → Prop} {cc : ByteArray} {own : String} {pc : Nat}
/-- the world as a callee of y sees it -/
theorem Cx.pre (X : Cx p l s0 a0 s m args meth c cc nL own D ad cA A) {σ : Mem} {H : Heap} {locs : List Loc} (hP : va_P D vwCl (wld ad cA σ) H) (hD : va_D A (wld ad cA σ)) (hS : va_S A s.heap H locs) (U : State) (hU : U.heap = H) (hW : s.WarmedH U.vm) : WdU l a0 s0 D ad cA σ U := by
  obtain ⟨-, -, -, -, hK, ⟨b1, b2, b3, b4⟩, hA1, hA2, -⟩ := X
  refine ⟨by rw [hU]; exact hP, va_K.moved hW.alike hK, hD.weaken (fun _ _ _ _ => trivial), ⟨b1, State.WarmedH.trans b2 hW, ?_, ?_⟩, ?_⟩
  · rw [hU]; exact Nat.le_trans b3 hS.1
  · intro q hq
    rw [hU, hS.2.1 q (Nat.lt_of_lt_of_le hq b3) (fun z => absurd (hA1 q z) (Nat.not_le.mpr hq))]
    exact b4 q hq
  · intro q hq
    obtain ⟨k, hk⟩ := List.getElem?_of_mem hq
    exact hA1 _ (hD.2 k q hk)
theorem Cx.free (X : Cx p l s0 a0 s m args meth c cc nL own D ad cA A) {σ : Mem} {H : Heap} {locs : List Loc} (hD : va_D A (wld ad cA σ)) (hS : va_S A s.heap H locs) (q : Nat) (h : va_A (wld ad cA σ) H.size q) : A q := by
  rcases h with ⟨k, e, h⟩ | h
  · exact hD.2 k _ h
  · exact X.2.2.2.2.2.2.2.1 q (Nat.le_trans hS.1 h)
/-- behind a call -/
theorem Cx.back (X : Cx p l s0 a0 s m args meth c cc nL own D ad cA A) {mc ms : Nat} {σ : Mem} {H : Heap} {locs : List Loc} {Φ : Post} {a : Array Value} {ls : Array Slot} {st0 : List Value} {rest : List AV}
    (hr : va_Run p l e R s m args below meth c H locs cl sl mc ms (F0 m pc ls st0) (rest.map (conc ad)) (QcW Φ D ad cA (va_A (wld ad cA σ) H.size) a) (va_A (wld ad cA σ) H.size))
    (hD : va_D A (wld ad cA σ)) (hS : va_S A s.heap H locs)
    (kk : ∀ (r : Option AV) (σ' : Mem) (H1 : Heap) (locs1 : List Loc), Φ r σ' → va_P D vwCl (wld ad cA σ') H1 → va_D A (wld ad cA σ') → va_S A s.heap H1 locs1 → W p l e R s m args below meth c H1 locs1 (cl + mc) (sl + ms) Q (F0 m (pc + 3) ls ((r.toList ++ rest).map (conc ad)))) :
    W p l e R s m args below meth c H locs cl sl Q (F0 m pc ls st0) := by
  intro T hT Y
  obtain ⟨v, st₀, t, T', L, h0, Y', hL, e1, e2, ⟨⟨r, σ', hv, hp, hP1, hK1, hD1⟩, hz, hk⟩, st⟩ := hr T hT Y
  rw [h0] at hz hk
  have hf := fun q h => X.free (q := q) hD hS h
  have hv2 : v = r.map (conc ad) := by
    injection hv
  obtain ⟨t2, a1, b1⟩ := kk r σ' T'.heap (locs ++ L) hp (by rw [e1]; exact hP1) (hD1.weaken (fun k q _ z => hf q.1 z))
    ⟨Nat.le_trans hS.1 (by rw [e1]; exact hz), fun q h1 h2 => by rw [e1, hk q (Nat.lt_of_lt_of_le h1 hS.1) (fun z => h2 (hf q z))]; exact hS.2.1 q h1 h2, fun q hq => by
      rcases List.mem_append.mp hq with h | h
      · exact hS.2.2 q h
      · exact hf _ (hL q h)⟩ T' rfl Y'
  refine ⟨t2, st t2 ?_, b1⟩
  have e3 : v.toList ++ rest.map (conc ad) = (r.toList ++ rest).map (conc ad) := by
    rw [hv2, List.map_append]
    cases r <;> rfl
  rw [e3]
  exact a1
theorem cat_sum : ∀ (r : List AV), r.length ≤ 4 → ((r.map (conc ad)).map fun v => v.category).sum ≤ 8 := by
  intro r hr
  have h2 : ∀ a : AV, (conc ad a).category ≤ 2 := by
    intro a
    rcases a with x | x | x | x <;> simp [conc, Value.category]
  match r, hr with
  | [], _ => simp
  | [a], _ => have := h2 a; simp; omega
  | [a, b], _ => have := h2 a; have := h2 b; simp; omega
  | [a, b, d], _ => have := h2 a; have := h2 b; have := h2 d; simp; omega
  | [a, b, d, f], _ => have := h2 a; have := h2 b; have := h2 d; have := h2 f; simp; omega
  | a :: b :: d :: f :: g :: r, h => simp at h
/-- the receiver is the one object of class ci -/
def rcv (ci : Nat) : List AV → Bool
  | Sum.inr (Sum.inr (Sum.inr (g, i))) :: _ => Nat.blt g 36 && Nat.beq i 0 && (match shp g with
    | some (.inl o) => Nat.beq o.1 ci
    | _ => false)
  | _ => false
theorem rcv_out {ci : Nat} {av : List AV} (h : rcv ci av = true) : ∃ (g : Nat) (fs : List (Option Nat)) (r : List AV), av = aR g 0 :: r ∧ okT g 0 ∧ shp g = some (.inl (ci, fs)) := by
  match av, h with
  | Sum.inr (Sum.inr (Sum.inr (g, i))) :: r, h =>
    simp only [rcv, Bool.and_eq_true] at h
    obtain ⟨⟨h1, h2⟩, h3⟩ := h
    have hi : i = 0 := Nat.eq_of_beq_eq_true h2
    subst hi
    split at h3
    next o hs =>
      have ho : o.1 = ci := Nat.eq_of_beq_eq_true h3
      obtain ⟨o1, o2⟩ := o
      dsimp only at ho
      subst ho
      exact ⟨g, o2, r, rfl, Or.inl ⟨Nat.blt_eq.mp h1, rfl⟩, hs⟩
    next => cases h3
/-- a call of n words that doesn't throw -/
def tq_cv (ci n : Nat) (S : SpecT) (np : Nat) : Tr := fun lv st σ k =>
  cond (Nat.ble n st.length && Nat.ble st.length (n + 4) && (st.take n).all c1w && rcv ci (st.take n).reverse) (S (st.take n).reverse σ (fun r σ' => k np lv (r.toList ++ st.drop n) σ')) False
def tq_cs (n : Nat) (S : SpecT) (np : Nat) : Tr := fun lv st σ k =>
  cond (Nat.ble n st.length && Nat.ble st.length (n + 4) && (st.take n).all c1w) (S (st.take n).reverse σ (fun r σ' => k np lv (r.toList ++ st.drop n) σ')) False
theorem sq_cv (X : Cx p l s0 a0 s m args meth c cc nL own D ad cA A) {y : MethodName} {bytes : ByteArray} {maxL n index lev ci : Nat} {ret : Option FieldType} {C : String} {S : SpecT} (hM : Con l y bytes maxL ret (n + 1) lev S) (hc : ∃ T N, vwCl[ci]? = some (C, T, N)) (hw : ∀ w ∈ wsV own index C y [.code y bytes maxL ret], w ∈ lw_tbl)
    (hd : y.cls = C ∧ y.cls ≠ "java/lang/invoke/MethodHandle" ∧ y.cls ≠ "java/lang/invoke/VarHandle" ∧ (parseMethodDescriptor y.desc).map (fun d => d.parameters.length) = some n) (hg : (wsV own index C y [.code y bytes maxL ret]).all goodWord = true) (hR : lev + 1 ≤ R.frames ∧ 8 + (maxL + 11) + 60 * lev ≤ R.locals) (hcl : cl ≤ R.cells ∧ sl ≤ R.slots)
    (d : decode cc pc = .ok (.invokevirtual index, 3)) : Snd (K p l e R s m args below meth c D ad cA A nL cl sl Q) pc (tq_cv ci (n + 1) S (pc + 3)) := by
  intro lv st σ k h hk ls H locs hl hP hD hS
  unfold tq_cv at h
  cases hb : (Nat.ble (n + 1) st.length && Nat.ble st.length (n + 1 + 4) && (st.take (n + 1)).all c1w && rcv ci (st.take (n + 1)).reverse) with
  | false => rw [hb] at h; exact h.elim
  | true =>
    rw [hb] at h
    simp only [cond] at h
    simp only [Bool.and_eq_true] at hb
    obtain ⟨⟨⟨h1, h2⟩, h3⟩, h4⟩ := hb
    have h1 := Nat.le_of_ble_eq_true h1
    have h2 := Nat.le_of_ble_eq_true h2
    obtain ⟨g, fs, As, e1, ho, hs⟩ := rcv_out h4
    have hlen : (st.take (n + 1)).reverse.length = n + 1 := by rw [List.length_reverse, List.length_take]; omega
    have hAs : As.length = n := by
      rw [e1] at hlen
      simpa using hlen
    have hall : ((st.take (n + 1)).reverse).all c1w = true := by rw [List.all_reverse]; exact h3
    rw [e1] at h hall
    have hst : st = As.reverse ++ aR g 0 :: st.drop (n + 1) := by
      have e2 : st.take (n + 1) = As.reverse ++ [aR g 0] := by
        rw [← List.reverse_reverse (st.take (n + 1)), e1]
        simp
      conv => lhs; rw [← List.take_append_drop (n + 1) st, e2]
      simp
    obtain ⟨T, N, hc⟩ := hc
    have hpre := fun U hU hW => X.pre hP hD hS U hU hW
    have hrecv : ∃ cellB : Cell, H[ad g 0]? = some cellB ∧ cellB.vm.isStatics = false ∧ s.vm.findClass C = some cellB.cls := by
      have he := wld_at (ad := ad) (cA := cA) (σ := σ) ho hs
      exact va_recv (q := (C, T, N)) X.2.2.2.2.1 hP (ci := ci) (q0 := pos g 0) hc he
    have hts := X.ws hw hg
    have run := va_runV (cells := cl) (slots := sl) (p := p) (e := e) (R := R) (below := below) (meth := meth) (locs := locs) (Ts := wsV own index C y [.code y bytes maxL ret]) (g := F0 m pc ls (st.map (conc ad))) (As := As.map (conc ad)) (rest := (st.drop (n + 1)).map (conc ad)) (b := ad g 0) ⟨X.1, X.2.1, X.2.2.1, X.2.2.2.1, hts⟩
      (hM a0 s0 D ad cA H.size (aR g 0 :: As) σ _ (by simp [hAs]) hall h)
      (cwV n hts (fun w hw => ⟨hw, good_of_word (List.all_eq_true.mp hg w hw)⟩) rfl rfl rfl hd hR)
      ⟨PcW_blind, hrecv, fun U hU hW => ⟨rfl, by rw [hU], hpre U hU hW⟩⟩ rfl (by simp [hAs]) hl.1
      (by have z := congrArg (List.map (conc ad)) hst; rw [List.map_append, List.map_reverse, List.map_cons] at z; exact z) (lv_room (cat_sum _ (by rw [List.length_drop]; omega))) d ⟨hcl.1, hcl.2⟩
    refine X.back run hD hS (fun r σ' H1 locs1 hp hP1 hD1 hS1 => ?_)
    exact hk _ _ _ _ hp ls H1 locs1 hl hP1 hD1 hS1
theorem sq_cs (X : Cx p l s0 a0 s m args meth c cc nL own D ad cA A) {y : MethodName} {bytes : ByteArray} {maxL n index lev : Nat} {ret : Option FieldType} {S : SpecT} (hM : Con l y bytes maxL ret n lev S) (hw : ∀ w ∈ va_wsS own index y [.code y bytes maxL ret], w ∈ lw_tbl)
    (hd : y.cls ≠ "java/lang/invoke/MethodHandle" ∧ y.cls ≠ "java/lang/invoke/VarHandle" ∧ (parseMethodDescriptor y.desc).map (fun d => d.parameters.length) = some n) (hg : (va_wsS own index y [.code y bytes maxL ret]).all goodWord = true) (hR : lev + 1 ≤ R.frames ∧ 8 + (maxL + 11) + 60 * lev ≤ R.locals) (hcl : cl ≤ R.cells ∧ sl ≤ R.slots)
    (d : decode cc pc = .ok (.invokestatic index, 3)) : Snd (K p l e R s m args below meth c D ad cA A nL cl sl Q) pc (tq_cs n S (pc + 3)) := by
  intro lv st σ k h hk ls H locs hl hP hD hS
  unfold tq_cs at h
  cases hb : (Nat.ble n st.length && Nat.ble st.length (n + 4) && (st.take n).all c1w) with
  | false => rw [hb] at h; exact h.elim
  | true =>
    rw [hb] at h
    simp only [cond] at h
    simp only [Bool.and_eq_true] at hb
    obtain ⟨⟨h1, h2⟩, h3⟩ := hb
    have h1 := Nat.le_of_ble_eq_true h1
    have h2 := Nat.le_of_ble_eq_true h2
    obtain ⟨As, e1⟩ : ∃ As, (st.take n).reverse = As := ⟨_, rfl⟩
    have hAs : As.length = n := by rw [← e1, List.length_reverse, List.length_take]; omega
    have hall : As.all c1w = true := by rw [← e1, List.all_reverse]; exact h3
    rw [e1] at h
    have hst : st = As.reverse ++ st.drop n := by
      rw [← e1, List.reverse_reverse, List.take_append_drop]
    have hpre := fun U hU hW => X.pre hP hD hS U hU hW
    have hts := X.ws hw hg
    have run := va_runS (cells := cl) (slots := sl) (p := p) (e := e) (R := R) (below := below) (meth := meth) (locs := locs) (Ts := va_wsS own index y [.code y bytes maxL ret]) (g := F0 m pc ls (st.map (conc ad))) (As := As.map (conc ad)) (rest := (st.drop n).map (conc ad)) ⟨X.1, X.2.1, X.2.2.1, X.2.2.2.1, hts⟩
      (hM a0 s0 D ad cA H.size As σ _ hAs hall h)
      (va_cwS n hts (fun w hw => ⟨hw, good_of_word (List.all_eq_true.mp hg w hw)⟩) rfl rfl rfl hd hR)
      ⟨PcW_blind, fun U hU hW => ⟨rfl, by rw [hU], hpre U hU hW⟩⟩ rfl (by simp [hAs]) hl.1
      (by have z := congrArg (List.map (conc ad)) hst; rw [List.map_append, List.map_reverse] at z; exact z) (lv_room (cat_sum _ (by rw [List.length_drop]; omega))) d ⟨hcl.1, hcl.2⟩
    refine X.back run hD hS (fun r σ' H1 locs1 hp hP1 hD1 hS1 => ?_)
    exact hk _ _ _ _ hp ls H1 locs1 hl hP1 hD1 hS1
/-- a static method of a nest mate -/
theorem sq_cn (X : Cx p l s0 a0 s m args meth c cc nL own D ad cA A) {y : MethodName} {bytes : ByteArray} {maxL n index lev : Nat} {ret : Option FieldType} {host : String} {S : SpecT} (hM : Con l y bytes maxL ret n lev S) (hn : Cond.methodLinkNest own index y host ∈ lw_tbl) (hw : ∀ w ∈ ([.code y bytes maxL ret, .static y, .initialized y.cls] : List Cond), w ∈ lw_tbl)
    (hd : y.cls ≠ "java/lang/invoke/MethodHandle" ∧ y.cls ≠ "java/lang/invoke/VarHandle" ∧ (parseMethodDescriptor y.desc).map (fun d => d.parameters.length) = some n) (hg : ([.code y bytes maxL ret, .static y, .initialized y.cls] : List Cond).all goodWord = true) (hR : lev + 1 ≤ R.frames ∧ 8 + (maxL + 11) + 60 * lev ≤ R.locals) (hcl : cl ≤ R.cells ∧ sl ≤ R.slots)
    (d : decode cc pc = .ok (.invokestatic index, 3)) : Snd (K p l e R s m args below meth c D ad cA A nL cl sl Q) pc (tq_cs n S (pc + 3)) := by
  intro lv st σ k h hk ls H locs hl hP hD hS
  unfold tq_cs at h
  cases hb : (Nat.ble n st.length && Nat.ble st.length (n + 4) && (st.take n).all c1w) with
  | false => rw [hb] at h; exact h.elim
  | true =>
    rw [hb] at h
    simp only [cond] at h
    simp only [Bool.and_eq_true] at hb
    obtain ⟨⟨h1, h2⟩, h3⟩ := hb
    have h1 := Nat.le_of_ble_eq_true h1
    have h2 := Nat.le_of_ble_eq_true h2
    obtain ⟨As, e1⟩ : ∃ As, (st.take n).reverse = As := ⟨_, rfl⟩
    have hAs : As.length = n := by rw [← e1, List.length_reverse, List.length_take]; omega
    have hall : As.all c1w = true := by rw [← e1, List.all_reverse]; exact h3
    rw [e1] at h
    have hst : st = As.reverse ++ st.drop n := by
      rw [← e1, List.reverse_reverse, List.take_append_drop]
    have hpre := fun U hU hW => X.pre hP hD hS U hU hW
    have hts := X.ws hw hg
    have hnest : va_Nw (.methodLinkNest own index y host) s := va_Nw.warmM X.2.2.2.2.2.1.2.1 (va_Nw.of rfl (X.2.2.2.2.2.1.1.1 _ hn))
    have run := va_runSN (cells := cl) (slots := sl) (p := p) (e := e) (R := R) (below := below) (meth := meth) (locs := locs) (Ts := [.code y bytes maxL ret, .static y, .initialized y.cls]) (g := F0 m pc ls (st.map (conc ad))) (As := As.map (conc ad)) (rest := (st.drop n).map (conc ad)) ⟨X.1, X.2.1, X.2.2.1, X.2.2.2.1, hts⟩
      (hM a0 s0 D ad cA H.size As σ _ hAs hall h)
      ⟨va_cnB n hts (fun w hw => ⟨by simp only [List.mem_singleton] at hw; rw [hw]; exact List.mem_cons_self, good_of_word (List.all_eq_true.mp hg w (by simp only [List.mem_singleton] at hw; rw [hw]; exact List.mem_cons_self))⟩) rfl rfl rfl hnest (hts _ (by simp)) hd hR, hts _ (by simp), trivial⟩
      ⟨PcW_blind, fun U hU hW => ⟨rfl, by rw [hU], hpre U hU hW⟩⟩ rfl (by simp [hAs]) hl.1
      (by have z := congrArg (List.map (conc ad)) hst; rw [List.map_append, List.map_reverse] at z; exact z) (lv_room (cat_sum _ (by rw [List.length_drop]; omega))) d ⟨hcl.1, hcl.2⟩
    refine X.back run hD hS (fun r σ' H1 locs1 hp hP1 hD1 hS1 => ?_)
    exact hk _ _ _ _ hp ls H1 locs1 hl hP1 hD1 hS1
/-- the end of a method that doesn't throw -/
theorem Cx.fin (X : Cx p l s0 a0 s m args meth c cc nL own D ad cA A) {Φ : Post} {σ : Mem} {H : Heap} {locs : List Loc} {r : Option AV} (h : Φ r σ) (hP : va_P D vwCl (wld ad cA σ) H) (hD : va_D A (wld ad cA σ)) (hS : va_S A s.heap H locs) : ∀ t : State, t.heap = H → s.WarmedH t.vm → QcW Φ D ad cA A args s (.returned (r.map (conc ad))) t :=
  fun t ht hW => ⟨⟨r, σ, rfl, h, by rw [ht]; exact hP, va_K.moved hW.alike X.2.2.2.2.1, hD⟩, hS.F ht⟩
def tq_iret (Φ : Post) : Tr := fun _ st σ _ => match st with
  | [Sum.inl x] => Φ (some (aI x)) σ
  | _ => False
def tq_zret (Φ : Post) : Tr := fun _ st σ _ => match st with
  | [Sum.inl x] => (x = 0 ∨ x = 1) ∧ Φ (some (aI x)) σ
  | _ => False
def tq_dret (Φ : Post) : Tr := fun _ st σ _ => match st with
  | [Sum.inr (Sum.inr (Sum.inl x))] => Φ (some (aD x)) σ
  | _ => False
def tq_vret (Φ : Post) : Tr := fun _ st σ _ => match st with
  | [] => Φ none σ
  | _ => False
theorem sq_iret (X : Cx p l s0 a0 s m args meth c cc nL own D ad cA A) {Φ : Post} (hr : meth.sig.returnType = some .int) (d : decode cc pc = .ok (.ireturn, 1)) : Snd (K p l e R s m args below meth c D ad cA A nL cl sl (MQ below (QcW Φ D ad cA A) args s cl sl A)) pc (tq_iret Φ) := by
  intro lv st σ k h hk ls H locs hl hP hD hS
  match st, h with
  | [Sum.inl x], h => exact W.iret (v := x) X.1 X.2.1 hr (X.fin (r := some (aI x)) h hP hD hS) hS.2.2 d X.2.2.2.2.2.2.2.2
theorem sq_zret (X : Cx p l s0 a0 s m args meth c cc nL own D ad cA A) {Φ : Post} (hr : meth.sig.returnType = some .boolean) (d : decode cc pc = .ok (.ireturn, 1)) : Snd (K p l e R s m args below meth c D ad cA A nL cl sl (MQ below (QcW Φ D ad cA A) args s cl sl A)) pc (tq_zret Φ) := by
  intro lv st σ k h hk ls H locs hl hP hD hS
  match st, h with
  | [Sum.inl x], h => exact W.zret (v := x) X.1 X.2.1 hr (by rcases h.1 with rfl | rfl <;> rfl) (X.fin (r := some (aI x)) h.2 hP hD hS) hS.2.2 d X.2.2.2.2.2.2.2.2
theorem sq_dret (X : Cx p l s0 a0 s m args meth c cc nL own D ad cA A) {Φ : Post} (hr : meth.sig.returnType = some .double) (d : decode cc pc = .ok (.dreturn, 1)) : Snd (K p l e R s m args below meth c D ad cA A nL cl sl (MQ below (QcW Φ D ad cA A) args s cl sl A)) pc (tq_dret Φ) := by
  intro lv st σ k h hk ls H locs hl hP hD hS
  match st, h with
  | [Sum.inr (Sum.inr (Sum.inl x))], h => exact W.dret (v := x) X.1 X.2.1 hr (X.fin (r := some (aD x)) h hP hD hS) hS.2.2 d X.2.2.2.2.2.2.2.2
theorem sq_vret (X : Cx p l s0 a0 s m args meth c cc nL own D ad cA A) {Φ : Post} (hr : meth.sig.returnType = none) (d : decode cc pc = .ok (.return_, 1)) : Snd (K p l e R s m args below meth c D ad cA A nL cl sl (MQ below (QcW Φ D ad cA A) args s cl sl A)) pc (tq_vret Φ) := by
  intro lv st σ k h hk ls H locs hl hP hD hS
  match st, h with
  | [], h => exact W.vret X.1 X.2.1 hr (X.fin (r := none) h hP hD hS) hS.2.2 d X.2.2.2.2.2.2.2.2
/-! the walk of a table of transformers -/
def lk {α : Type} (n : Nat) : List (Nat × α) → Option α
  | [] => none
  | q :: r => cond (Nat.beq n q.1) (some q.2) (lk n r)
def isIn (n : Nat) : List Nat → Bool
  | [] => false
  | k :: r => cond (Nat.beq n k) true (isIn n r)
def wp (tab : List (Nat × Tr)) (ps : List Nat) (C : Kt) : Nat → Kt
  | 0 => fun _ _ _ _ => False
  | n + 1 => fun pc lv st σ => match lk pc tab with
    | none => False
    | some T => T lv st σ (fun pc' lv' st' σ' => cond (isIn pc' ps) (C pc' lv' st' σ') (wp tab ps C n pc' lv' st' σ'))
def tabOK (k0 : Kt) : List (Nat × Tr) → Prop
  | [] => True
  | q :: r => Snd k0 q.1 q.2 ∧ tabOK k0 r
theorem tabOK.at {k0 : Kt} {pc : Nat} {T : Tr} : ∀ {tab : List (Nat × Tr)}, tabOK k0 tab → lk pc tab = some T → Snd k0 pc T
  | [], _, h => by simp [lk] at h
  | q :: r, ht, h => by
    unfold lk at h
    cases hb : Nat.beq pc q.1 with
    | true =>
      rw [hb] at h
      simp only [cond, Option.some.injEq] at h
      subst h
      have e := Nat.eq_of_beq_eq_true hb
      subst e
      exact ht.1
    | false =>
      rw [hb] at h
      exact tabOK.at ht.2 h
theorem wp_sound {k0 : Kt} {tab : List (Nat × Tr)} {ps : List Nat} {C : Kt} (ht : tabOK k0 tab) (hC : ∀ pc lv st σ, C pc lv st σ → k0 pc lv st σ) : ∀ (n pc : Nat) (lv : LV) (st : List AV) (σ : Mem), wp tab ps C n pc lv st σ → k0 pc lv st σ
  | 0, _, _, _, _, h => h.elim
  | n + 1, pc, lv, st, σ, h => by
    simp only [wp] at h
    split at h
    next => exact h.elim
    next T hT =>
      refine ht.at hT lv st σ _ h (fun pc' lv' st' σ' h' => ?_)
      cases hb : isIn pc' ps with
      | true => rw [hb] at h'; exact hC _ _ _ _ h'
      | false => rw [hb] at h'; exact wp_sound ht hC n pc' lv' st' σ' h'
def subl : LV → LV → Prop
  | [], _ => True
  | none :: r, lv => subl r lv.tail
  | some a :: r, lv => lv.head? = some (some a) ∧ subl r lv.tail
theorem subl_get : ∀ (l1 l2 : LV) (j : Nat) (a : AV), subl l1 l2 → l1[j]? = some (some a) → l2[j]? = some (some a)
  | [], _, j, a, _, h => by simp at h
  | none :: r, lv, 0, a, _, h => by simp at h
  | none :: r, lv, j + 1, a, hs, h => by
    have := subl_get r lv.tail j a hs (by simpa using h)
    rw [List.getElem?_tail] at this
    exact this
  | some b :: r, lv, 0, a, hs, h => by
    simp at h
    subst h
    rw [← List.head?_eq_getElem?]
    exact hs.1
  | some b :: r, lv, j + 1, a, hs, h => by
    have := subl_get r lv.tail j a hs.2 (by simpa using h)
    rw [List.getElem?_tail] at this
    exact this
theorem K_sub {lv lv' : LV} {st : List AV} {σ : Mem} (hs : subl lv' lv) (h : (K p l e R s m args below meth c D ad cA A nL cl sl Q) pc lv' st σ) : (K p l e R s m args below meth c D ad cA A nL cl sl Q) pc lv st σ := by
  intro ls H locs hl hP hD hS
  refine h ls H locs (lv_mono hl (fun q hq => ?_)) hP hD hS
  obtain ⟨j, a, h1, h2⟩ := (mem_lvl _ 0).mp hq
  exact (mem_lvl _ 0).mpr ⟨j, a, subl_get _ _ j a hs h1, h2⟩
/-- where a loop is met again: its numbers, its invariant, its measure -/
def cutC {β : Type} (pcO : β → Nat) (Lf : β → LV) (I : β → Mem → Prop) (μ : β → Mem → Nat) (ok : Nat → Prop) : Kt := fun pc lv st σ => ∃ b, pcO b = pc ∧ subl (Lf b) lv ∧ st = [] ∧ I b σ ∧ ok (μ b σ)
theorem wp_loop {β : Type} {tab : List (Nat × Tr)} {ps : List Nat} {N : Nat} {pcO : β → Nat} {Lf : β → LV} {I : β → Mem → Prop} {μ : β → Mem → Nat} (ht : tabOK (K p l e R s m args below meth c D ad cA A nL cl sl Q) tab)
    (hl : ∀ b σ, I b σ → wp tab ps (cutC pcO Lf I μ (fun z => z < μ b σ)) N (pcO b) (Lf b) [] σ) : ∀ (n : Nat) (b : β) (σ : Mem), μ b σ < n → I b σ → (K p l e R s m args below meth c D ad cA A nL cl sl Q) (pcO b) (Lf b) [] σ := by
  intro n
  induction n with
  | zero => intro b σ h; omega
  | succ n ih =>
    intro b σ hm hI
    refine wp_sound ht (fun pc lv st σ' hC => ?_) N _ _ _ _ (hl b σ hI)
    obtain ⟨b', rfl, hs, rfl, hI', hlt⟩ := hC
    exact K_sub hs (ih b' σ' (by omega) hI')
theorem wp_meth {β : Type} {tab : List (Nat × Tr)} {ps : List Nat} {N N0 pc0 : Nat} {lv0 : LV} {st0 : List AV} {σ0 : Mem} (pcO : β → Nat) (Lf : β → LV) (I : β → Mem → Prop) (μ : β → Mem → Nat) (ht : tabOK (K p l e R s m args below meth c D ad cA A nL cl sl Q) tab)
    (hl : ∀ b σ, I b σ → wp tab ps (cutC pcO Lf I μ (fun z => z < μ b σ)) N (pcO b) (Lf b) [] σ) (he : wp tab ps (cutC pcO Lf I μ (fun _ => True)) N0 pc0 lv0 st0 σ0) : (K p l e R s m args below meth c D ad cA A nL cl sl Q) pc0 lv0 st0 σ0 := by
  refine wp_sound ht (fun pc lv st σ' hC => ?_) N0 _ _ _ _ he
  obtain ⟨b', rfl, hs, rfl, hI', -⟩ := hC
  exact K_sub hs (wp_loop ht hl _ b' σ' (Nat.lt_succ_self _) hI')
end CALL
/-- the locals with which a method begins -/
def lv0 (n : Nat) (av : List AV) : LV := av.map some ++ List.replicate (n - av.length) none
theorem lv_args_c1 {ad : Nat → Nat → Nat} : ∀ (av : List AV) (i : Nat), av.all c1w = true → ∀ (j : Nat) (a : AV), av[j]? = some a → (i + j, conc ad a) ∈ lv_args i (av.map (conc ad))
  | [], _, _, j, a, h => by simp at h
  | b :: r, i, hc, j, a, h => by
    simp only [List.all_cons, Bool.and_eq_true] at hc
    have hb : ¬ (conc ad b).category = 2 := by
      rcases b with x | x | x | x
      · simp [conc, Value.category]
      · simp [c1w] at hc
      · simp [c1w] at hc
      · simp [conc, Value.category]
    simp only [List.map_cons, lv_args, if_neg hb]
    cases j with
    | zero =>
      simp at h
      subst h
      exact List.mem_cons_self
    | succ j =>
      refine List.mem_cons_of_mem _ ?_
      have := lv_args_c1 (ad := ad) r (i + 1) hc.2 j a (by simpa using h)
      rwa [show i + (j + 1) = i + 1 + j by omega]
theorem sl_len {ad : Nat → Nat → Nat} : ∀ (av : List AV), av.all c1w = true → (lg_sl (av.map (conc ad))).length = av.length
  | [], _ => rfl
  | b :: r, hc => by
    simp only [List.all_cons, Bool.and_eq_true] at hc
    have hb : ¬ (conc ad b).category = 2 := by
      rcases b with x | x | x | x
      · simp [conc, Value.category]
      · simp [c1w] at hc
      · simp [c1w] at hc
      · simp [conc, Value.category]
    have := sl_len (ad := ad) r hc.2
    unfold lg_sl at this ⊢
    simp only [List.map_cons, List.flatMap_cons, if_neg hb, List.length_append, this, List.length_cons, List.length_nil]
    omega
theorem entry_has {ad : Nat → Nat → Nat} {av : List AV} {n : Nat} (hc : av.all c1w = true) (hn : av.length ≤ n) : lv_has ((lg_sl (av.map (conc ad)) ++ List.replicate (n - (lg_sl (av.map (conc ad))).length) Slot.unset).toArray) n (lvl ad 0 (lv0 n av)) := by
  refine lv_mono (lv_entry (av.map (conc ad)) (n := n) (by rw [sl_len av hc]; exact hn)) (fun q hq => ?_)
  obtain ⟨j, a, h1, rfl⟩ := (mem_lvl _ 0).mp hq
  have h2 : av[j]? = some a := by
    unfold lv0 at h1
    by_cases hj : j < av.length
    · rw [List.getElem?_append_left (by simpa using hj), List.getElem?_map] at h1
      cases hv : av[j]? with
      | none => rw [hv] at h1; simp at h1
      | some b => rw [hv] at h1; simpa using h1
    · rw [List.getElem?_append_right (by simpa using hj)] at h1
      rw [List.getElem?_replicate] at h1
      split at h1 <;> simp at h1
  exact lv_args_c1 av 0 hc j a h2
/-- a contract out of the walk of its body -/
theorem Con.of {l : Launch} {y : MethodName} {cc : ByteArray} {maxL n lev : Nat} {ret : Option FieldType} {S : SpecT} (hy : plainName y.cls = true) (hn : n ≤ maxL)
    (body : ∀ (p : Program) (e : Env) (s s0 : State) (a0 : Array Value) (m : MethodId) (args : Array Value) (below : List Frame) (meth : Method) (c : Code) (D : va_G) (ad : Nat → Nat → Nat) (cA : Nat → ClassId) (A : Nat → Prop) (av : List AV) (σ : Mem) (Φ : Post),
      av.length = n → S av σ Φ → meth.sig.returnType = ret → Cx p l s0 a0 s m args meth c cc maxL y.cls D ad cA A →
      K p l e (rmL lev) s m args below meth c D ad cA A maxL 0 0 (MQ below (QcW Φ D ad cA A) args s 0 0 A) 0 (lv0 maxL av) [] σ) : Con l y cc maxL ret n lev S := by
  intro a0 s0 D ad cA sz av σ Φ hlen hc1 hS0
  refine Met.ofW (cc := cc) (maxL := maxL) (ret := ret) hy rfl ?_
  intro p e s m args below meth c s₁ B hml hv
  obtain ⟨rfl, hsz, hP, hK, hD0, hB, hge⟩ := hv
  have hown : s.vm.findClass y.cls = some m.cls := findClass_of_methodNamed B.named
  subst hsz
  have hD := hD0.self (sz := s.heap.size)
  have hA1 : ∀ q, va_A (wld ad cA σ) s.heap.size q → s0.heap.size ≤ q := by
    intro q hq
    rcases hq with ⟨k, e, h⟩ | h
    · exact hge _ (List.mem_of_getElem? h)
    · exact Nat.le_trans hB.2.2.1 h
  have hA2 : ∀ q : Nat, s.heap.size ≤ q → va_A (wld ad cA σ) s.heap.size q := fun q h => Or.inr h
  have X : Cx p l s0 a0 s m (av.map (conc ad)).toArray meth c cc maxL y.cls D ad cA (va_A (wld ad cA σ) s.heap.size) := ⟨B.exec, B.bytes, hml, hown, hK, hB, hA1, hA2, B.notSynchronized⟩
  have k := body p e s s0 a0 m (av.map (conc ad)).toArray below meth c D ad cA (va_A (wld ad cA σ) s.heap.size) av σ Φ hlen hS0 B.returns X
  rw [lg_entry_eq]
  exact k _ _ [] (entry_has hc1 (by omega)) hP hD va_S.rf
end
section
/-! SPECIAL ROWS: static rows, Math.max, arraycopy, throws -/
/-- a copy of n ints from one array into another -/
def cpm (σ : Mem) (g0 i0 g1 i1 sp dp n : Nat) : Mem := (fun g i k => if g = g1 ∧ i = i1 ∧ dp ≤ k ∧ k < dp + n then σ.1 g0 i0 (sp + (k - dp)) else σ.1 g i k, σ.2)
theorem rd_cpm (σ : Mem) (g0 i0 g1 i1 sp dp n g i k : Nat) : rd (cpm σ g0 i0 g1 i1 sp dp n) g i k = if g = g1 ∧ i = i1 ∧ dp ≤ k ∧ k < dp + n then rd σ g0 i0 (sp + (k - dp)) else rd σ g i k := rfl
theorem fcs_cpm {ad : Nat → Nat → Nat} {σ : Mem} {g i g0 i0 g1 i1 sp dp n : Nat} (hne : ¬ (g = g1 ∧ i = i1)) (fs : List (Option Nat)) (k : Nat) : fcs ad (cpm σ g0 i0 g1 i1 sp dp n) g i k fs = fcs ad σ g i k fs :=
  fcs_same (fun k => by rw [rd_cpm, if_neg (fun z => hne ⟨z.1, z.2.1⟩)]) fs k
theorem cell_cpm_ne {ad : Nat → Nat → Nat} {cA : Nat → ClassId} {σ : Mem} {g0 i0 g1 i1 sp dp n : Nat} (q : Nat × Nat × SH) (h : ¬ (q.1 = g1 ∧ q.2.1 = i1)) : cell1 ad cA (cpm σ g0 i0 g1 i1 sp dp n) q = cell1 ad cA σ q := by
  obtain ⟨g', i', sh⟩ := q
  dsimp only at h
  cases sh with
  | inl o => simp only [cell1]; rw [fcs_cpm h]
  | inr a =>
    obtain ⟨kd, n2⟩ := a
    simp only [cell1]
    congr 4
    have hf : (fun k' => rd (cpm σ g0 i0 g1 i1 sp dp n) g' i' k') = (fun k' => rd σ g' i' k') := by
      funext k'; rw [rd_cpm, if_neg (fun z => h ⟨z.1, z.2.1⟩)]
    unfold acell
    rw [hf]
    split <;> rfl
theorem wld_cpm {ad : Nat → Nat → Nat} {cA : Nat → ClassId} {σ : Mem} {g0 i0 g i sp dp n n1 : Nat} (h : okT g i) (hs : shp g = some (.inr (0, n1))) : (wld ad cA σ).set (pos g i) (ad g i, .inl (cA 0, n1, .inl (va_cpy (fun j => rd σ g0 i0 j) (fun j => rd σ g i j) sp dp n))) = wld ad cA (cpm σ g0 i0 g i sp dp n) := by
  refine wld_set h hs ?_ (fun q hq => cell_cpm_ne q hq)
  have hf : (fun j => rd (cpm σ g0 i0 g i sp dp n) g i j) = va_cpy (fun j => rd σ g0 i0 j) (fun j => rd σ g i j) sp dp n := by
    funext j
    rw [rd_cpm]
    unfold va_cpy
    by_cases hj : dp ≤ j ∧ j < dp + n
    · rw [if_pos ⟨rfl, rfl, hj⟩, if_pos hj]
    · rw [if_neg (fun z => hj z.2.2), if_neg hj]
  simp only [cell1, acell, hf]
section SPEC
variable {p : Program} {l : Launch} {e : Env} {R : Room} {s s0 : State} {a0 : Array Value} {m : MethodId} {args : Array Value} {below : List Frame} {meth : Method} {c : Code} {D : va_G} {ad : Nat → Nat → Nat} {cA : Nat → ClassId} {A : Nat → Prop} {nL cl sl : Nat} {Q : State → Prop} {cc : ByteArray} {own : String} {pc : Nat}
theorem Cx.wx (X : Cx p l s0 a0 s m args meth c cc nL own D ad cA A) {w : Cond} (hw : w ∈ lw_tbl) (hg : goodWord w = true ∨ (∃ C T, w = .castable C T) ∨ ∃ x, w = .declares x) : w.before args s = true := by
  rcases hg with hg | ⟨C, T, rfl⟩ | ⟨x, rfl⟩
  · exact X.w hw hg
  · exact va_Nw.use rfl (va_Nw.warmC X.2.2.2.2.2.1.2.1 (va_Nw.of rfl (X.2.2.2.2.2.1.1.1 _ hw)))
  · exact va_Nw.use rfl (va_Nw.warmD X.2.2.2.2.2.1.2.1 (va_Nw.of rfl (X.2.2.2.2.2.1.1.1 _ hw)))
def gx (w : Cond) : Bool := goodWord w || (match w with
  | .castable _ _ => true
  | .declares _ => true
  | _ => false)
theorem gx_out {w : Cond} (h : gx w = true) : goodWord w = true ∨ (∃ C T, w = .castable C T) ∨ ∃ x, w = .declares x := by
  unfold gx at h
  rw [Bool.or_eq_true] at h
  rcases h with h | h
  · exact Or.inl h
  · split at h
    · exact Or.inr (Or.inl ⟨_, _, rfl⟩)
    · exact Or.inr (Or.inr ⟨_, rfl⟩)
    · cases h
theorem Cx.Z (X : Cx p l s0 a0 s m args meth c cc nL own D ad cA A) {C n d : String} {v : Value} (h : va_Z C n d v (fun q => s0.heap.size ≤ q) s0 s0.heap) : va_Z C n d v A s s.heap := by
  obtain ⟨-, -, -, -, -, ⟨-, b2, b3, b4⟩, hA1, -⟩ := X
  exact ((va_Z.moved b2.alike h).kept (fun a ha _ => b4 a ha)).narrow hA1
theorem Cx.T (X : Cx p l s0 a0 s m args meth c cc nL own D ad cA A) {ty : FieldType} {t N : Nat} {f : Nat → Value} (h : va_T ty t N f (fun q => s0.heap.size ≤ q) s0 s0.heap) : va_T ty t N f A s s.heap := by
  obtain ⟨-, -, -, -, -, ⟨-, b2, b3, b4⟩, hA1, -⟩ := X
  exact ((va_T.moved b2.alike h).kept (fun a ha _ => b4 a ha)).narrow hA1
theorem Cx.Zq (X : Cx p l s0 a0 s m args meth c cc nL own D ad cA A) {C n d : String} (h : vx_Zq C n d (fun q => s0.heap.size ≤ q) s0 s0.heap) : vx_Zq C n d A s s.heap := by
  obtain ⟨-, -, -, -, -, ⟨-, b2, b3, b4⟩, hA1, -⟩ := X
  exact ((vx_Zq.moved b2.alike h).kept (fun a ha _ => b4 a ha)).narrow hA1
def tq_gs (g np : Nat) : Tr := fun lv st σ k => k np lv (aR g 0 :: st) σ
theorem sq_gs (X : Cx p l s0 a0 s m args meth c cc nL own D ad cA A) {j index : Nat} {host : String} (hj : j < 3) (hn : Cond.fieldLinkNest own index "PromiseDesk" (wnm j) "[I" host ∈ lw_tbl) (d : decode cc pc = .ok (.getstatic index, 3)) : Snd (K p l e R s m args below meth c D ad cA A nL cl sl Q) pc (tq_gs (40 + j) (pc + 3)) := by
  intro lv st σ k h hk ls H locs hl hP hD hS
  have hB := X.2.2.2.2.2.1
  have hnest := va_Nw.use (A := args) rfl (va_Nw.warmF hB.2.1 (va_Nw.of rfl (hB.1.1 _ hn)))
  exact va_getsN X.1 X.2.1 (X.Z (hB.1.2.2.1 j hj).1) hS X.2.2.2.1 hnest (fun _ h => h) d (hk _ _ _ _ h ls H locs hl hP hD hS)
def tq_ti (np : Nat) : Tr := fun lv st σ k => match st with
  | Sum.inl x :: Sum.inr (Sum.inr (Sum.inr (g, i))) :: r => cond (Nat.ble 40 g && Nat.blt g 43 && Nat.beq i 0) (vp_in x 16 ∧ k np lv (aI (wtf (g - 40) (x.toNatClampNeg)) :: r) σ) False
  | _ => False
theorem sq_ti (X : Cx p l s0 a0 s m args meth c cc nL own D ad cA A) (d : decode cc pc = .ok (.iaload, 1)) : Snd (K p l e R s m args below meth c D ad cA A nL cl sl Q) pc (tq_ti (pc + 1)) := by
  intro lv st σ k h hk ls H locs hl hP hD hS
  match st, h with
  | Sum.inl x :: Sum.inr (Sum.inr (Sum.inr (g, i))) :: r, h =>
    simp only [tq_ti] at h
    cases hb : (Nat.ble 40 g && Nat.blt g 43 && Nat.beq i 0) with
    | false => rw [hb] at h; exact h.elim
    | true =>
      rw [hb] at h
      simp only [Bool.and_eq_true] at hb
      have h1 := Nat.le_of_ble_eq_true hb.1.1
      have h2 := Nat.blt_eq.mp hb.1.2
      have h3 : i = 0 := Nat.eq_of_beq_eq_true hb.2
      subst h3
      have hB := X.2.2.2.2.2.1
      have hT := X.T (hB.1.2.2.1 (g - 40) (by omega)).2
      rw [show 40 + (g - 40) = g by omega] at hT
      exact va_ti X.1 X.2.1 hT hS h.1 rfl d (hk _ _ _ _ h.2 ls H locs hl hP hD hS)
def tq_max (np : Nat) : Tr := fun lv st σ k => match st with
  | Sum.inl y :: Sum.inl x :: r => cond (Nat.ble r.length 4) (k np lv (aI (if x < y then y else x) :: r) σ) False
  | _ => False
theorem sq_max (X : Cx p l s0 a0 s m args meth c cc nL own D ad cA A) {index : Nat} (h1 : Cond.methodLink own index Lib.Math.max.name ∈ lw_tbl) (h2 : Cond.static Lib.Math.max.name ∈ lw_tbl) (h3 : Cond.initialized "java/lang/Math" ∈ lw_tbl) (h4 : Cond.code Lib.Math.max.name Lib.Math.max.code 2 (some .int) ∈ lw_tbl) (hR : 1 ≤ R.frames ∧ 21 ≤ R.locals) (hcl : cl ≤ R.cells ∧ sl ≤ R.slots)
    (d : decode cc pc = .ok (.invokestatic index, 3)) : Snd (K p l e R s m args below meth c D ad cA A nL cl sl Q) pc (tq_max (pc + 3)) := by
  intro lv st σ k h hk ls H locs hl hP hD hS
  match st, h with
  | Sum.inl y :: Sum.inl x :: r, h =>
    simp only [tq_max] at h
    cases hb : Nat.ble r.length 4 with
    | false => rw [hb] at h; exact h.elim
    | true =>
      rw [hb] at h
      have hs := cat_sum (ad := ad) r (Nat.le_of_ble_eq_true hb)
      exact va_mmax X.1 X.2.1 (X.2.2.1.trans hl.1.symm) X.2.2.2.1 (X.w h1 rfl) (X.w h2 rfl) (X.w h3 rfl) (X.w h4 rfl) hR.1 (by omega) hcl.1 hcl.2 d (hk _ _ _ _ h ls H locs hl hP hD hS)
/-- System.arraycopy over ints -/
def tq_cpy (np : Nat) : Tr := fun lv st σ k => match st with
  | Sum.inl n :: Sum.inl dp :: Sum.inr (Sum.inr (Sum.inr (g1, i1))) :: Sum.inl sp :: Sum.inr (Sum.inr (Sum.inr (g0, i0))) :: r => cond (Nat.ble r.length 4) (match shp g0, shp g1 with
    | some (.inr b0), some (.inr b1) => cond (Nat.beq b0.1 0 && Nat.beq b1.1 0) (okq g0 i0 (okq g1 i1 (¬ sp < 0 ∧ ¬ dp < 0 ∧ ¬ n < 0 ∧ sp.toNatClampNeg + n.toNatClampNeg ≤ b0.2 ∧ dp.toNatClampNeg + n.toNatClampNeg ≤ b1.2 ∧ k np lv r (cpm σ g0 i0 g1 i1 sp.toNatClampNeg dp.toNatClampNeg n.toNatClampNeg)))) False
    | _, _ => False) False
  | _ => False
theorem sq_cpy (X : Cx p l s0 a0 s m args meth c cc nL own D ad cA A) {index : Nat} (h1 : Cond.methodLink own index arraycopyName ∈ lw_tbl) (h2 : Cond.native arraycopyName ∈ lw_tbl) (h3 : Cond.static arraycopyName ∈ lw_tbl) (h4 : Cond.initialized "java/lang/System" ∈ lw_tbl) (hR : 1 ≤ R.frames ∧ 8 + (nativeFrameWords "java/lang/System" "arraycopy" 5 + 11) ≤ R.locals)
    (d : decode cc pc = .ok (.invokestatic index, 3)) : Snd (K p l e R s m args below meth c D ad cA A nL cl sl Q) pc (tq_cpy (pc + 3)) := by
  intro lv st σ k h hk ls H locs hl hP hD hS
  have hK := X.2.2.2.2.1
  match st, h with
  | Sum.inl n :: Sum.inl dp :: Sum.inr (Sum.inr (Sum.inr (g1, i1))) :: Sum.inl sp :: Sum.inr (Sum.inr (Sum.inr (g0, i0))) :: r, h =>
    simp only [tq_cpy] at h
    cases hb : Nat.ble r.length 4 with
    | false => rw [hb] at h; exact h.elim
    | true =>
      rw [hb] at h
      have hsum := cat_sum (ad := ad) r (Nat.le_of_ble_eq_true hb)
      simp only [cond] at h
      split at h
      next b0 b1 hs0 hs1 =>
        obtain ⟨k0, n0⟩ := b0
        obtain ⟨k1, n1⟩ := b1
        dsimp only at h
        split at h
        next hbb =>
          simp only [Bool.and_eq_true] at hbb
          have e0 : k0 = 0 := Nat.eq_of_beq_eq_true hbb.1
          have e1 : k1 = 0 := Nat.eq_of_beq_eq_true hbb.2
          subst e0
          subst e1
          obtain ⟨ho0, h9⟩ := okq_out hs0 h
          obtain ⟨ho1, z1, z2, z3, z4, z5, h8⟩ := okq_out hs1 h9
          have he0 := wld_at (ad := ad) (cA := cA) (σ := σ) ho0 hs0
          have he1 := wld_at (ad := ad) (cA := cA) (σ := σ) ho1 hs1
          refine va_copyi (ty := .int) (D := D) X.1 X.2.1 (X.2.2.1.trans hl.1.symm) X.2.2.2.1 (X.w h1 rfl) (X.w h2 rfl) (X.w h3 rfl) (X.w h4 rfl) hK hP hD hS (pos g0 i0) (pos g1 i1) 0 0 he0 he1 rfl rfl rfl z1 z2 z3 z4 z5 (fun _ _ => rfl) hR.1 (by omega) d (fun H1 locs1 hP1 hD1 hS1 => ?_)
          rw [wld_cpm ho1 hs1] at hP1 hD1
          exact hk _ _ _ _ h8 ls H1 locs1 hl hP1 hD1 hS1
        next => exact h.elim
      next => exact h.elim
/-! methods that may throw -/
abbrev PostX : Type := String → Mem → Prop
def XcW (Ψ : PostX) (D : va_G) (ad : Nat → Nat → Nat) (cA : Nat → ClassId) (A : Nat → Prop) : String → State → State → Prop := fun E st t =>
  (∃ σ' : Mem, Ψ E σ' ∧ va_P D vwCl (wld ad cA σ') t.heap ∧ va_K D vwCl (tysL cA) t ∧ va_D A (wld ad cA σ')) ∧ va_F A st t
def rmX (n : Nat) : Room := { frames := n, cells := 1, slots := 6, locals := 60 * n }
abbrev SpecX : Type := List AV → Mem → Post → PostX → Prop
def ConX (l : Launch) (y : MethodName) (cc : ByteArray) (maxL : Nat) (ret : Option FieldType) (n lev : Nat) (S : SpecX) : Prop :=
  ∀ (a0 : Array Value) (s0 : State) (D : va_G) (ad : Nat → Nat → Nat) (cA : Nat → ClassId) (sz : Nat) (av : List AV) (σ : Mem) (Φ : Post) (Ψ : PostX), av.length = n → av.all c1w = true → S av σ Φ Ψ →
    vx_Met l y [.code y cc maxL ret] (rmX lev) (PcW l a0 s0 D ad cA sz av σ) (QcW Φ D ad cA (va_A (wld ad cA σ) sz)) (XcW Ψ D ad cA (va_A (wld ad cA σ) sz)) 1 6 (va_A (wld ad cA σ) sz)
theorem lev_okX {lev L maxL : Nat} (h : lev + 1 ≤ L) (hm : maxL ≤ 41) : lev + 1 ≤ (rmX L).frames ∧ 8 + (maxL + 11) + 60 * lev ≤ (rmX L).locals := ⟨h, by show _ ≤ 60 * L; omega⟩
theorem sx_iret (X : Cx p l s0 a0 s m args meth c cc nL own D ad cA A) {Φ : Post} {Ψ : PostX} (hr : meth.sig.returnType = some .int) (d : decode cc pc = .ok (.ireturn, 1)) : Snd (K p l e R s m args below meth c D ad cA A nL 0 0 (vx_MQ below (QcW Φ D ad cA A) (XcW Ψ D ad cA A) args s 1 6 A)) pc (tq_iret Φ) := by
  intro lv st σ k h hk ls H locs hl hP hD hS
  match st, h with
  | [Sum.inl x], h =>
    refine W.widen (k := 1) (n := 6) (by omega) (by omega) (vx_ret ?_)
    exact W.iret (v := x) X.1 X.2.1 hr (X.fin (r := some (aI x)) h hP hD hS) hS.2.2 d X.2.2.2.2.2.2.2.2
theorem sx_zret (X : Cx p l s0 a0 s m args meth c cc nL own D ad cA A) {Φ : Post} {Ψ : PostX} (hr : meth.sig.returnType = some .boolean) (d : decode cc pc = .ok (.ireturn, 1)) : Snd (K p l e R s m args below meth c D ad cA A nL 0 0 (vx_MQ below (QcW Φ D ad cA A) (XcW Ψ D ad cA A) args s 1 6 A)) pc (tq_zret Φ) := by
  intro lv st σ k h hk ls H locs hl hP hD hS
  match st, h with
  | [Sum.inl x], h =>
    refine W.widen (k := 1) (n := 6) (by omega) (by omega) (vx_ret ?_)
    exact W.zret (v := x) X.1 X.2.1 hr (by rcases h.1 with rfl | rfl <;> rfl) (X.fin (r := some (aI x)) h.2 hP hD hS) hS.2.2 d X.2.2.2.2.2.2.2.2
theorem sx_dret (X : Cx p l s0 a0 s m args meth c cc nL own D ad cA A) {Φ : Post} {Ψ : PostX} (hr : meth.sig.returnType = some .double) (d : decode cc pc = .ok (.dreturn, 1)) : Snd (K p l e R s m args below meth c D ad cA A nL 0 0 (vx_MQ below (QcW Φ D ad cA A) (XcW Ψ D ad cA A) args s 1 6 A)) pc (tq_dret Φ) := by
  intro lv st σ k h hk ls H locs hl hP hD hS
  match st, h with
  | [Sum.inr (Sum.inr (Sum.inl x))], h =>
    refine W.widen (k := 1) (n := 6) (by omega) (by omega) (vx_ret ?_)
    exact W.dret (v := x) X.1 X.2.1 hr (X.fin (r := some (aD x)) h hP hD hS) hS.2.2 d X.2.2.2.2.2.2.2.2
def tq_thr (Ψ : PostX) (E : String) : Tr := fun _ st σ _ => match st with
  | [] => Ψ E σ
  | _ => False
theorem sx_thr (X : Cx p l s0 a0 s m args meth c cc nL own D ad cA A) {Φ : Post} {Ψ : PostX} {cls : String} {names : List String} {ik ic : Nat} (htab : ∀ x ∈ c.exceptionTable.toList, False) (hcls : Bundle.fit cls = true) (hnames : ∀ n ∈ names, Bundle.fit n = true)
    (hk1 : Cond.classLink own ik cls ∈ lw_tbl) (hk2 : Cond.initialized cls ∈ lw_tbl) (hat : ∀ w ∈ vx_at0 own ic cls names, w ∈ lw_tbl) (hgx : (vx_at0 own ic cls names).all gx = true) (hgd : (Cond.classLink own ik cls :: Cond.initialized cls :: vx_at0 own ic cls names).all vx_ot = true)
    (hR : names.length + 3 < R.frames ∧ 13 * (names.length + 1) + 42 ≤ R.locals) (hRc : 1 ≤ R.cells ∧ 6 ≤ R.slots)
    (d0 : decode cc pc = .ok (.new ik, 3)) (d3 : decode cc (pc + 3) = .ok (.dup, 1)) (d4 : decode cc (pc + 4) = .ok (.invokespecial ic, 3)) (d7 : decode cc (pc + 7) = .ok (.athrow, 1)) : Snd (K p l e R s m args below meth c D ad cA A nL 0 0 (vx_MQ below (QcW Φ D ad cA A) (XcW Ψ D ad cA A) args s 1 6 A)) pc (tq_thr Ψ cls) := by
  intro lv st σ k h hk ls H locs hl hP hD hS
  match st, h with
  | [], h =>
    have hB := X.2.2.2.2.2.1.1.2
    refine vx_throw0 (A := A) (rest := []) X.1 X.2.1 hB.1 X.2.2.2.1 hcls hnames (X.w hk1 rfl) (X.w hk2 rfl) (fun w hw => X.wx (hat w hw) (gx_out (List.all_eq_true.mp hgx w hw))) (fun w hw => List.all_eq_true.mp hgd w hw) (X.Zq hB.2.2.1) (X.Zq hB.2.2.2) hS (hl.1.trans X.2.2.1.symm) d0 d3 d4 d7 (fun x hx => (htab x hx).elim) hR.1 (by simp only [List.map_nil, List.sum_nil, Nat.zero_add]; exact hR.2) (by omega) (by omega) X.2.2.2.2.2.2.2.2 (fun t hvm hsz hkeep => ?_) hS.2.2 (by omega) (by omega)
    refine ⟨⟨σ, h, hP.kept (fun k q hq => hkeep q.1 (hP k q hq).lt), va_K.moved hvm X.2.2.2.2.1, hD⟩, Nat.le_trans hS.1 hsz, fun q h1 h2 => ?_⟩
    rw [hkeep q (Nat.lt_of_lt_of_le h1 hS.1)]
    exact hS.2.1 q h1 h2
end SPEC
theorem ConX.of {l : Launch} {y : MethodName} {cc : ByteArray} {maxL n lev : Nat} {ret : Option FieldType} {S : SpecX} (hy : plainName y.cls = true) (hn : n ≤ maxL)
    (body : ∀ (p : Program) (e : Env) (s s0 : State) (a0 : Array Value) (m : MethodId) (args : Array Value) (below : List Frame) (meth : Method) (c : Code) (D : va_G) (ad : Nat → Nat → Nat) (cA : Nat → ClassId) (A : Nat → Prop) (av : List AV) (σ : Mem) (Φ : Post) (Ψ : PostX),
      av.length = n → S av σ Φ Ψ → meth.sig.returnType = ret → (∀ x ∈ c.exceptionTable.toList, False) → Cx p l s0 a0 s m args meth c cc maxL y.cls D ad cA A →
      K p l e (rmX lev) s m args below meth c D ad cA A maxL 0 0 (vx_MQ below (QcW Φ D ad cA A) (XcW Ψ D ad cA A) args s 1 6 A) 0 (lv0 maxL av) [] σ) : ConX l y cc maxL ret n lev S := by
  intro a0 s0 D ad cA sz av σ Φ Ψ hlen hc1 hS0
  refine vx_ofW (cc := cc) (maxL := maxL) (ret := ret) hy rfl ?_
  intro p e s m args below meth c s₁ B hml htab hv
  obtain ⟨rfl, hsz, hP, hK, hD0, hB, hge⟩ := hv
  have hown : s.vm.findClass y.cls = some m.cls := findClass_of_methodNamed B.named
  subst hsz
  have hD := hD0.self (sz := s.heap.size)
  have hA1 : ∀ q, va_A (wld ad cA σ) s.heap.size q → s0.heap.size ≤ q := by
    intro q hq
    rcases hq with ⟨k, e, h⟩ | h
    · exact hge _ (List.mem_of_getElem? h)
    · exact Nat.le_trans hB.2.2.1 h
  have hA2 : ∀ q : Nat, s.heap.size ≤ q → va_A (wld ad cA σ) s.heap.size q := fun q h => Or.inr h
  have X : Cx p l s0 a0 s m (av.map (conc ad)).toArray meth c cc maxL y.cls D ad cA (va_A (wld ad cA σ) s.heap.size) := ⟨B.exec, B.bytes, hml, hown, hK, hB, hA1, hA2, B.notSynchronized⟩
  have k := body p e s s0 a0 m (av.map (conc ad)).toArray below meth c D ad cA (va_A (wld ad cA σ) s.heap.size) av σ Φ Ψ hlen hS0 B.returns htab X
  rw [lg_entry_eq]
  exact k _ _ [] (entry_has hc1 (by omega)) hP hD va_S.rf
end
section
/-! what the tables of transformers stand on -/
theorem lev_ok {lev L maxL : Nat} (h : lev + 1 ≤ L) (hm : maxL ≤ 41) : lev + 1 ≤ (rmL L).frames ∧ 8 + (maxL + 11) + 60 * lev ≤ (rmL L).locals := ⟨h, by show _ ≤ 60 * L; omega⟩
theorem memC3 {big : List Cond} {a b c : Cond} (h1 : a ∈ big) (h2 : b ∈ big) (h3 : c ∈ big) : ∀ w ∈ ([a, b, c] : List Cond), w ∈ big := by
  intro w hw
  simp only [List.mem_cons, List.not_mem_nil, or_false] at hw
  rcases hw with rfl | rfl | rfl <;> assumption
theorem memC4 {big : List Cond} {a b c d : Cond} (h1 : a ∈ big) (h2 : b ∈ big) (h3 : c ∈ big) (h4 : d ∈ big) : ∀ w ∈ ([a, b, c] : List Cond) ++ [d], w ∈ big := by
  intro w hw
  simp only [List.mem_append, List.mem_cons, List.not_mem_nil, or_false] at hw
  rcases hw with (rfl | rfl | rfl) | rfl <;> assumption
theorem memC5 {big : List Cond} {a b c d f : Cond} (h1 : a ∈ big) (h2 : b ∈ big) (h3 : c ∈ big) (h4 : d ∈ big) (h5 : f ∈ big) : ∀ w ∈ ([a, b, c, d] : List Cond) ++ [f], w ∈ big := by
  intro w hw
  simp only [List.mem_append, List.mem_cons, List.not_mem_nil, or_false] at hw
  rcases hw with (rfl | rfl | rfl | rfl) | rfl <;> assumption
theorem gdX0 : (wsX00).all goodWord = true := by decide +kernel
theorem gdX1 : (wsX10).all goodWord = true := by decide +kernel
theorem gdX2 : (wsX20).all goodWord = true := by decide +kernel
theorem gdX3 : (wsX30).all goodWord = true := by decide +kernel
theorem gdX4 : (wsX40).all goodWord = true := by decide +kernel
theorem gdX5 : (wsX50).all goodWord = true := by decide +kernel
set_option maxRecDepth 100000 in
theorem fl_X2_27 : Cond.fieldLink RX2 27 (TX2 5).1 (TX2 5).2.1 (TX2 5).2.2.1 ∈ lw_tbl := List.mem_of_getElem? (i := 70) rfl
set_option maxRecDepth 100000 in
theorem fl_X2_9 : Cond.fieldLink RX2 9 (TX2 0).1 (TX2 0).2.1 (TX2 0).2.2.1 ∈ lw_tbl := List.mem_of_getElem? (i := 57) rfl
set_option maxRecDepth 100000 in
theorem cw_X2_31 : ∀ w ∈ va_wsS RX2 31 yX2_sortOf [.code yX2_sortOf cX2_sortOf 1 (some .int)], w ∈ lw_tbl := memC4 (List.mem_of_getElem? (i := 187) rfl) (List.mem_of_getElem? (i := 188) rfl) (List.mem_of_getElem? (i := 31) rfl) (List.mem_of_getElem? (i := 189) rfl)
set_option maxRecDepth 100000 in
theorem fl_X2_15 : Cond.fieldLink RX2 15 (TX2 1).1 (TX2 1).2.1 (TX2 1).2.2.1 ∈ lw_tbl := List.mem_of_getElem? (i := 60) rfl
set_option maxRecDepth 100000 in
theorem fl_X2_18 : Cond.fieldLink RX2 18 (TX2 2).1 (TX2 2).2.1 (TX2 2).2.2.1 ∈ lw_tbl := List.mem_of_getElem? (i := 63) rfl
set_option maxRecDepth 100000 in
theorem cw_X2_57 : ∀ w ∈ wsV RX2 57 RX2 yX2_numberIn [.code yX2_numberIn cX2_numberIn 5 (some .int)], w ∈ lw_tbl := memC5 (List.mem_of_getElem? (i := 301) rfl) (List.mem_of_getElem? (i := 298) rfl) (List.mem_of_getElem? (i := 299) rfl) (List.mem_of_getElem? (i := 31) rfl) (List.mem_of_getElem? (i := 300) rfl)
set_option maxRecDepth 100000 in
theorem cw_X2_60 : ∀ w ∈ wsV RX2 60 RX2 yX2_isTrueIn [.code yX2_isTrueIn cX2_isTrueIn 5 (some .boolean)], w ∈ lw_tbl := memC5 (List.mem_of_getElem? (i := 313) rfl) (List.mem_of_getElem? (i := 310) rfl) (List.mem_of_getElem? (i := 311) rfl) (List.mem_of_getElem? (i := 31) rfl) (List.mem_of_getElem? (i := 312) rfl)
set_option maxRecDepth 100000 in
theorem cw_X2_63 : ∀ w ∈ wsV RX2 63 RX2 yX2_has [.code yX2_has cX2_has 3 (some .boolean)], w ∈ lw_tbl := memC5 (List.mem_of_getElem? (i := 183) rfl) (List.mem_of_getElem? (i := 184) rfl) (List.mem_of_getElem? (i := 185) rfl) (List.mem_of_getElem? (i := 31) rfl) (List.mem_of_getElem? (i := 186) rfl)
set_option maxRecDepth 100000 in
theorem fl_X2_24 : Cond.fieldLink RX2 24 (TX2 4).1 (TX2 4).2.1 (TX2 4).2.2.1 ∈ lw_tbl := List.mem_of_getElem? (i := 69) rfl
set_option maxRecDepth 100000 in
theorem gs_X2_35 : Cond.fieldLinkNest RX2 35 "PromiseDesk" (wnm 0) "[I" "PromiseDesk" ∈ lw_tbl := List.mem_of_getElem? (i := 177) rfl
set_option maxRecDepth 100000 in
theorem cw_X2_38 : ∀ w ∈ wsV RX2 38 RX2 yX2_fits [.code yX2_fits cX2_fits 3 (some .boolean)], w ∈ lw_tbl := memC5 (List.mem_of_getElem? (i := 179) rfl) (List.mem_of_getElem? (i := 181) rfl) (List.mem_of_getElem? (i := 0) rfl) (List.mem_of_getElem? (i := 31) rfl) (List.mem_of_getElem? (i := 182) rfl)
set_option maxRecDepth 100000 in
theorem gs_X2_42 : Cond.fieldLinkNest RX2 42 "PromiseDesk" (wnm 1) "[I" "PromiseDesk" ∈ lw_tbl := List.mem_of_getElem? (i := 190) rfl
set_option maxRecDepth 100000 in
theorem gs_X2_45 : Cond.fieldLinkNest RX2 45 "PromiseDesk" (wnm 2) "[I" "PromiseDesk" ∈ lw_tbl := List.mem_of_getElem? (i := 192) rfl
set_option maxRecDepth 100000 in
theorem cw_X2_48 : ∀ w ∈ wsV RX2 48 RX2 yX2_heightBelow [.code yX2_heightBelow cX2_heightBelow 3 (some .int)], w ∈ lw_tbl := memC5 (List.mem_of_getElem? (i := 260) rfl) (List.mem_of_getElem? (i := 262) rfl) (List.mem_of_getElem? (i := 2) rfl) (List.mem_of_getElem? (i := 31) rfl) (List.mem_of_getElem? (i := 263) rfl)
set_option maxRecDepth 100000 in
theorem mx_X2_52 : Cond.methodLink RX2 52 Lib.Math.max.name ∈ lw_tbl ∧ Cond.static Lib.Math.max.name ∈ lw_tbl ∧ Cond.initialized "java/lang/Math" ∈ lw_tbl ∧ Cond.code Lib.Math.max.name Lib.Math.max.code 2 (some .int) ∈ lw_tbl := ⟨List.mem_of_getElem? (i := 264) rfl, List.mem_of_getElem? (i := 265) rfl, List.mem_of_getElem? (i := 40) rfl, List.mem_of_getElem? (i := 266) rfl⟩
set_option maxRecDepth 100000 in
theorem fl_X2_21 : Cond.fieldLink RX2 21 (TX2 3).1 (TX2 3).2.1 (TX2 3).2.2.1 ∈ lw_tbl := List.mem_of_getElem? (i := 66) rfl
set_option maxRecDepth 100000 in
theorem fl_X3_9 : Cond.fieldLink RX3 9 (TX3 1).1 (TX3 1).2.1 (TX3 1).2.2.1 ∈ lw_tbl := List.mem_of_getElem? (i := 93) rfl
set_option maxRecDepth 100000 in
theorem fl_X3_15 : Cond.fieldLink RX3 15 (TX3 2).1 (TX3 2).2.1 (TX3 2).2.2.1 ∈ lw_tbl := List.mem_of_getElem? (i := 94) rfl
set_option maxRecDepth 100000 in
theorem cw_X3_22 : ∀ w ∈ wsV RX3 22 RX3 yX3_ends [.code yX3_ends cX3_ends 4 (some .boolean)], w ∈ lw_tbl := memC5 (List.mem_of_getElem? (i := 325) rfl) (List.mem_of_getElem? (i := 327) rfl) (List.mem_of_getElem? (i := 3) rfl) (List.mem_of_getElem? (i := 32) rfl) (List.mem_of_getElem? (i := 328) rfl)
set_option maxRecDepth 100000 in
theorem fl_X3_18 : Cond.fieldLink RX3 18 (TX3 0).1 (TX3 0).2.1 (TX3 0).2.2.1 ∈ lw_tbl := List.mem_of_getElem? (i := 92) rfl
set_option maxRecDepth 100000 in
theorem fl_X3_26 : Cond.fieldLink RX3 26 (TX2 1).1 (TX2 1).2.1 (TX2 1).2.2.1 ∈ lw_tbl := List.mem_of_getElem? (i := 61) rfl
set_option maxRecDepth 100000 in
theorem fl_X3_32 : Cond.fieldLink RX3 32 (TX2 2).1 (TX2 2).2.1 (TX2 2).2.2.1 ∈ lw_tbl := List.mem_of_getElem? (i := 65) rfl
set_option maxRecDepth 100000 in
theorem fl_X3_35 : Cond.fieldLink RX3 35 (TX2 0).1 (TX2 0).2.1 (TX2 0).2.2.1 ∈ lw_tbl := List.mem_of_getElem? (i := 59) rfl
set_option maxRecDepth 100000 in
theorem cw_X3_38 : ∀ w ∈ wsV RX3 38 RX2 yX2_numberIn [.code yX2_numberIn cX2_numberIn 5 (some .int)], w ∈ lw_tbl := memC5 (List.mem_of_getElem? (i := 329) rfl) (List.mem_of_getElem? (i := 298) rfl) (List.mem_of_getElem? (i := 299) rfl) (List.mem_of_getElem? (i := 31) rfl) (List.mem_of_getElem? (i := 300) rfl)
set_option maxRecDepth 100000 in
theorem cw_X3_42 : ∀ w ∈ ([.code yX4_changedStore cX4_changedStore 4 (some .int), .static yX4_changedStore, .initialized RX4] : List Cond), w ∈ lw_tbl := memC3 (List.mem_of_getElem? (i := 332) rfl) (List.mem_of_getElem? (i := 331) rfl) (List.mem_of_getElem? (i := 30) rfl)
set_option maxRecDepth 100000 in
theorem cw_X3_42n : Cond.methodLinkNest RX3 42 yX4_changedStore "PromiseDesk" ∈ lw_tbl := List.mem_of_getElem? (i := 330) rfl
set_option maxRecDepth 100000 in
theorem cw_X3_46 : ∀ w ∈ wsV RX3 46 RX2 yX2_isTrueIn [.code yX2_isTrueIn cX2_isTrueIn 5 (some .boolean)], w ∈ lw_tbl := memC5 (List.mem_of_getElem? (i := 333) rfl) (List.mem_of_getElem? (i := 310) rfl) (List.mem_of_getElem? (i := 311) rfl) (List.mem_of_getElem? (i := 31) rfl) (List.mem_of_getElem? (i := 312) rfl)
set_option maxRecDepth 100000 in
theorem fl_X3_50 : Cond.fieldLink RX3 50 (TX2 3).1 (TX2 3).2.1 (TX2 3).2.2.1 ∈ lw_tbl := List.mem_of_getElem? (i := 68) rfl
set_option maxRecDepth 100000 in
theorem cw_X3_53 : ∀ w ∈ wsV RX3 53 RX3 yX3_loopEnds [.code yX3_loopEnds cX3_loopEnds 4 (some .boolean)], w ∈ lw_tbl := memC5 (List.mem_of_getElem? (i := 334) rfl) (List.mem_of_getElem? (i := 336) rfl) (List.mem_of_getElem? (i := 4) rfl) (List.mem_of_getElem? (i := 32) rfl) (List.mem_of_getElem? (i := 337) rfl)
set_option maxRecDepth 100000 in
theorem fl_X0_21 : Cond.fieldLink RX0 21 (TX0 3).1 (TX0 3).2.1 (TX0 3).2.2.1 ∈ lw_tbl := List.mem_of_getElem? (i := 143) rfl
set_option maxRecDepth 100000 in
theorem fl_X0_25 : Cond.fieldLink RX0 25 (TX0 0).1 (TX0 0).2.1 (TX0 0).2.2.1 ∈ lw_tbl := List.mem_of_getElem? (i := 140) rfl
set_option maxRecDepth 100000 in
theorem fl_X0_30 : Cond.fieldLink RX0 30 (TX2 2).1 (TX2 2).2.1 (TX2 2).2.2.1 ∈ lw_tbl := List.mem_of_getElem? (i := 64) rfl
set_option maxRecDepth 100000 in
theorem fl_X0_35 : Cond.fieldLink RX0 35 (TX2 3).1 (TX2 3).2.1 (TX2 3).2.2.1 ∈ lw_tbl := List.mem_of_getElem? (i := 67) rfl
set_option maxRecDepth 100000 in
theorem fl_X0_38 : Cond.fieldLink RX0 38 (TX2 0).1 (TX2 0).2.1 (TX2 0).2.2.1 ∈ lw_tbl := List.mem_of_getElem? (i := 58) rfl
set_option maxRecDepth 100000 in
theorem fl_X0_41 : Cond.fieldLink RX0 41 (TX2 1).1 (TX2 1).2.1 (TX2 1).2.2.1 ∈ lw_tbl := List.mem_of_getElem? (i := 62) rfl
set_option maxRecDepth 100000 in
theorem cw_X0_44 : ∀ w ∈ wsV RX0 44 RX0 yX0_howManyOf [.code yX0_howManyOf cX0_howManyOf 4 (some .int)], w ∈ lw_tbl := memC5 (List.mem_of_getElem? (i := 349) rfl) (List.mem_of_getElem? (i := 346) rfl) (List.mem_of_getElem? (i := 347) rfl) (List.mem_of_getElem? (i := 33) rfl) (List.mem_of_getElem? (i := 348) rfl)
set_option maxRecDepth 100000 in
theorem fl_X0_11 : Cond.fieldLink RX0 11 (TX0 1).1 (TX0 1).2.1 (TX0 1).2.2.1 ∈ lw_tbl := List.mem_of_getElem? (i := 141) rfl
set_option maxRecDepth 100000 in
theorem fl_X0_56 : Cond.fieldLink RX0 56 (TX1 0).1 (TX1 0).2.1 (TX1 0).2.2.1 ∈ lw_tbl := List.mem_of_getElem? (i := 116) rfl
set_option maxRecDepth 100000 in
theorem fl_X0_59 : Cond.fieldLink RX0 59 (TX1 1).1 (TX1 1).2.1 (TX1 1).2.2.1 ∈ lw_tbl := List.mem_of_getElem? (i := 118) rfl
set_option maxRecDepth 100000 in
theorem fl_X0_62 : Cond.fieldLink RX0 62 (TX1 2).1 (TX1 2).2.1 (TX1 2).2.2.1 ∈ lw_tbl := List.mem_of_getElem? (i := 120) rfl
set_option maxRecDepth 100000 in
theorem fl_X0_66 : Cond.fieldLink RX0 66 (TX1 4).1 (TX1 4).2.1 (TX1 4).2.2.1 ∈ lw_tbl := List.mem_of_getElem? (i := 124) rfl
set_option maxRecDepth 100000 in
theorem fl_X0_17 : Cond.fieldLink RX0 17 (TX0 2).1 (TX0 2).2.1 (TX0 2).2.2.1 ∈ lw_tbl := List.mem_of_getElem? (i := 142) rfl
set_option maxRecDepth 100000 in
theorem fl_X0_69 : Cond.fieldLink RX0 69 (TX1 3).1 (TX1 3).2.1 (TX1 3).2.2.1 ∈ lw_tbl := List.mem_of_getElem? (i := 122) rfl
set_option maxRecDepth 100000 in
theorem ac_X0_72 : Cond.methodLink RX0 72 arraycopyName ∈ lw_tbl ∧ Cond.native arraycopyName ∈ lw_tbl ∧ Cond.static arraycopyName ∈ lw_tbl ∧ Cond.initialized "java/lang/System" ∈ lw_tbl := ⟨List.mem_of_getElem? (i := 358) rfl, List.mem_of_getElem? (i := 360) rfl, List.mem_of_getElem? (i := 359) rfl, List.mem_of_getElem? (i := 42) rfl⟩
set_option maxRecDepth 100000 in
theorem fl_X0_78 : Cond.fieldLink RX0 78 (TX1 5).1 (TX1 5).2.1 (TX1 5).2.2.1 ∈ lw_tbl := List.mem_of_getElem? (i := 126) rfl
set_option maxRecDepth 100000 in
theorem cw_X0_48 : ∀ w ∈ wsV RX0 48 RX0 yX0_add [.code yX0_add cX0_add 8 none], w ∈ lw_tbl := memC5 (List.mem_of_getElem? (i := 354) rfl) (List.mem_of_getElem? (i := 356) rfl) (List.mem_of_getElem? (i := 5) rfl) (List.mem_of_getElem? (i := 33) rfl) (List.mem_of_getElem? (i := 357) rfl)
set_option maxRecDepth 100000 in
theorem cw_X0_52 : ∀ w ∈ wsV RX0 52 RX0 yX0_gather [.code yX0_gather cX0_gather 8 none], w ∈ lw_tbl := memC5 (List.mem_of_getElem? (i := 361) rfl) (List.mem_of_getElem? (i := 363) rfl) (List.mem_of_getElem? (i := 6) rfl) (List.mem_of_getElem? (i := 33) rfl) (List.mem_of_getElem? (i := 364) rfl)
set_option maxRecDepth 100000 in
theorem cw_X0_81 : ∀ w ∈ wsV RX0 81 RX2 yX2_isTrueIn [.code yX2_isTrueIn cX2_isTrueIn 5 (some .boolean)], w ∈ lw_tbl := memC5 (List.mem_of_getElem? (i := 380) rfl) (List.mem_of_getElem? (i := 310) rfl) (List.mem_of_getElem? (i := 311) rfl) (List.mem_of_getElem? (i := 31) rfl) (List.mem_of_getElem? (i := 312) rfl)
set_option maxRecDepth 100000 in
theorem cw_X0_85 : ∀ w ∈ wsV RX0 85 RX0 yX0_goalHoldsBehindPath [.code yX0_goalHoldsBehindPath cX0_goalHoldsBehindPath 5 (some .boolean)], w ∈ lw_tbl := memC5 (List.mem_of_getElem? (i := 381) rfl) (List.mem_of_getElem? (i := 383) rfl) (List.mem_of_getElem? (i := 7) rfl) (List.mem_of_getElem? (i := 33) rfl) (List.mem_of_getElem? (i := 384) rfl)
set_option maxRecDepth 100000 in
theorem cw_X0_89 : ∀ w ∈ wsV RX0 89 RX0 yX0_follow [.code yX0_follow cX0_follow 6 (some .int)], w ∈ lw_tbl := memC5 (List.mem_of_getElem? (i := 385) rfl) (List.mem_of_getElem? (i := 387) rfl) (List.mem_of_getElem? (i := 8) rfl) (List.mem_of_getElem? (i := 33) rfl) (List.mem_of_getElem? (i := 388) rfl)
set_option maxRecDepth 100000 in
theorem cw_X0_93 : ∀ w ∈ wsV RX0 93 RX2 yX2_numberIn [.code yX2_numberIn cX2_numberIn 5 (some .int)], w ∈ lw_tbl := memC5 (List.mem_of_getElem? (i := 389) rfl) (List.mem_of_getElem? (i := 298) rfl) (List.mem_of_getElem? (i := 299) rfl) (List.mem_of_getElem? (i := 31) rfl) (List.mem_of_getElem? (i := 300) rfl)
set_option maxRecDepth 100000 in
theorem cw_X0_96 : ∀ w ∈ ([.code yX4_changedStore cX4_changedStore 4 (some .int), .static yX4_changedStore, .initialized RX4] : List Cond), w ∈ lw_tbl := memC3 (List.mem_of_getElem? (i := 332) rfl) (List.mem_of_getElem? (i := 331) rfl) (List.mem_of_getElem? (i := 30) rfl)
set_option maxRecDepth 100000 in
theorem cw_X0_96n : Cond.methodLinkNest RX0 96 yX4_changedStore "PromiseDesk" ∈ lw_tbl := List.mem_of_getElem? (i := 390) rfl
set_option maxRecDepth 100000 in
theorem cw_X0_100 : ∀ w ∈ wsV RX0 100 RX0 yX0_isKeptIn [.code yX0_isKeptIn cX0_isKeptIn 4 (some .boolean)], w ∈ lw_tbl := memC5 (List.mem_of_getElem? (i := 402) rfl) (List.mem_of_getElem? (i := 377) rfl) (List.mem_of_getElem? (i := 378) rfl) (List.mem_of_getElem? (i := 33) rfl) (List.mem_of_getElem? (i := 379) rfl)
set_option maxRecDepth 100000 in
theorem cw_X0_103 : ∀ w ∈ wsV RX0 103 RX0 yX0_howManyBroken [.code yX0_howManyBroken cX0_howManyBroken 6 (some .int)], w ∈ lw_tbl := memC5 (List.mem_of_getElem? (i := 425) rfl) (List.mem_of_getElem? (i := 411) rfl) (List.mem_of_getElem? (i := 412) rfl) (List.mem_of_getElem? (i := 33) rfl) (List.mem_of_getElem? (i := 413) rfl)
set_option maxRecDepth 100000 in
theorem cw_X0_106 : ∀ w ∈ wsV RX0 106 RX0 yX0_leastBroken [.code yX0_leastBroken cX0_leastBroken 3 (some .int)], w ∈ lw_tbl := memC5 (List.mem_of_getElem? (i := 437) rfl) (List.mem_of_getElem? (i := 399) rfl) (List.mem_of_getElem? (i := 400) rfl) (List.mem_of_getElem? (i := 33) rfl) (List.mem_of_getElem? (i := 401) rfl)
def tb_X2_sortOf (Φ : Post) : List (Nat × Tr) := [
  (0, tq_ild 0 1),
  (1, tq_push 5 2),
  (2, tq_ic_ge 7 5),
  (5, tq_push 5 6),
  (6, tq_iret Φ),
  (7, tq_ild 0 8),
  (8, tq_push 11 10),
  (10, tq_ic_ge 18 13),
  (13, tq_push 6 15),
  (15, tq_goto 20),
  (18, tq_push 7 20),
  (20, tq_iret Φ)]
set_option maxRecDepth 100000 in
theorem tk_X2_sortOf {p : Program} {l : Launch} {e : Env} {s s0 : State} {a0 : Array Value} {m : MethodId} {args : Array Value} {below : List Frame} {meth : Method} {c : Code} {D : va_G} {ad : Nat → Nat → Nat} {cA : Nat → ClassId} {A : Nat → Prop} {lv : Nat} {Φ : Post} (X : Cx p l s0 a0 s m args meth c cX2_sortOf 1 RX2 D ad cA A) (hr : meth.sig.returnType = (some .int)) : tabOK (K p l e (rmL lv) s m args below meth c D ad cA A 1 0 0 (MQ below (QcW Φ D ad cA A) args s 0 0 A)) (tb_X2_sortOf Φ) :=
  ⟨sq_iload_n X rfl dX2_sortOf_0,
  sq_iconst X (by decide) dX2_sortOf_1,
  sq_ic_ge X (by decide) dX2_sortOf_2,
  sq_iconst X (by decide) dX2_sortOf_5,
  sq_iret X hr dX2_sortOf_6,
  sq_iload_n X rfl dX2_sortOf_7,
  sq_bipush X (by decide) dX2_sortOf_8,
  sq_ic_ge X (by decide) dX2_sortOf_10,
  sq_bipush X (by decide) dX2_sortOf_13,
  sq_goto X (by decide) dX2_sortOf_15,
  sq_bipush X (by decide) dX2_sortOf_18,
  sq_iret X hr dX2_sortOf_20, trivial⟩
def tb_X2_has (Φ : Post) (S_X2_sortOf : SpecT) : List (Nat × Tr) := [
  (0, tq_ild 1 1),
  (1, tq_if_lt 29 4),
  (4, tq_ild 1 5),
  (5, tq_ald 0 6),
  (6, tq_gf 2 5 9),
  (9, tq_ic_ge 29 12),
  (12, tq_ald 0 13),
  (13, tq_gf 2 0 16),
  (16, tq_ild 1 17),
  (17, tq_iald 18),
  (18, tq_cs 1 S_X2_sortOf 21),
  (21, tq_ild 2 22),
  (22, tq_ic_ne 29 25),
  (25, tq_push 1 26),
  (26, tq_goto 30),
  (29, tq_push 0 30),
  (30, tq_zret Φ)]
set_option maxRecDepth 100000 in
theorem tk_X2_has {p : Program} {l : Launch} {e : Env} {s s0 : State} {a0 : Array Value} {m : MethodId} {args : Array Value} {below : List Frame} {meth : Method} {c : Code} {D : va_G} {ad : Nat → Nat → Nat} {cA : Nat → ClassId} {A : Nat → Prop} {lv : Nat} {Φ : Post} (X : Cx p l s0 a0 s m args meth c cX2_has 3 RX2 D ad cA A) (hr : meth.sig.returnType = (some .boolean)) {S_X2_sortOf : SpecT} {v_X2_sortOf : Nat} (h_X2_sortOf : Con l yX2_sortOf cX2_sortOf 1 (some .int) 1 v_X2_sortOf S_X2_sortOf) (g_X2_sortOf : v_X2_sortOf + 1 ≤ lv) : tabOK (K p l e (rmL lv) s m args below meth c D ad cA A 3 0 0 (MQ below (QcW Φ D ad cA A) args s 0 0 A)) (tb_X2_has Φ S_X2_sortOf) :=
  ⟨sq_iload_n X rfl dX2_has_0,
  sq_if_lt X (by decide) dX2_has_1,
  sq_iload_n X rfl dX2_has_4,
  sq_aload_n X rfl dX2_has_5,
  sq_gf X (ci := 2) rfl inX2 gdX2 (by decide) fl_X2_27 dX2_has_6,
  sq_ic_ge X (by decide) dX2_has_9,
  sq_aload_n X rfl dX2_has_12,
  sq_gf X (ci := 2) rfl inX2 gdX2 (by decide) fl_X2_9 dX2_has_13,
  sq_iload_n X rfl dX2_has_16,
  sq_iald X dX2_has_17,
  sq_cs X h_X2_sortOf cw_X2_31 ⟨by decide, by decide, by decide +kernel⟩ (by decide +kernel) (lev_ok g_X2_sortOf (by decide)) ⟨Nat.zero_le _, Nat.zero_le _⟩ dX2_has_18,
  sq_iload_n X rfl dX2_has_21,
  sq_ic_ne X (by decide) dX2_has_22,
  sq_iconst X (by decide) dX2_has_25,
  sq_goto X (by decide) dX2_has_26,
  sq_iconst X (by decide) dX2_has_29,
  sq_zret X hr dX2_has_30, trivial⟩
def tb_X2_numberIn (Φ : Post) (S_X2_numberIn : SpecT) : List (Nat × Tr) := [
  (0, tq_ald 0 1),
  (1, tq_gf 2 1 4),
  (4, tq_ild 1 5),
  (5, tq_iald 6),
  (6, tq_ist 3 7),
  (7, tq_ald 0 8),
  (8, tq_gf 2 2 11),
  (11, tq_ild 1 12),
  (12, tq_iald 13),
  (13, tq_ist 4 15),
  (15, tq_ald 0 16),
  (16, tq_gf 2 0 19),
  (19, tq_ild 1 20),
  (20, tq_iald 21),
  (21, tq_sw 93 [(0, 52), (1, 54), (2, 63), (3, 78)]),
  (52, tq_ild 3 53),
  (53, tq_iret Φ),
  (54, tq_ild 2 55),
  (55, tq_push 4 56),
  (56, tq_ild 3 57),
  (57, tq_imul 58),
  (58, tq_ishr 59),
  (59, tq_push 15 61),
  (61, tq_iand 62),
  (62, tq_iret Φ),
  (63, tq_ald 0 64),
  (64, tq_ild 3 65),
  (65, tq_ild 2 66),
  (66, tq_cv 2 3 S_X2_numberIn 69),
  (69, tq_ald 0 70),
  (70, tq_ild 4 72),
  (72, tq_ild 2 73),
  (73, tq_cv 2 3 S_X2_numberIn 76),
  (76, tq_iadd 77),
  (77, tq_iret Φ),
  (78, tq_ald 0 79),
  (79, tq_ild 3 80),
  (80, tq_ild 2 81),
  (81, tq_cv 2 3 S_X2_numberIn 84),
  (84, tq_ald 0 85),
  (85, tq_ild 4 87),
  (87, tq_ild 2 88),
  (88, tq_cv 2 3 S_X2_numberIn 91),
  (91, tq_isub 92),
  (92, tq_iret Φ),
  (93, tq_ild 3 94),
  (94, tq_ald 0 95),
  (95, tq_ild 4 97),
  (97, tq_ild 2 98),
  (98, tq_cv 2 3 S_X2_numberIn 101),
  (101, tq_imul 102),
  (102, tq_iret Φ)]
set_option maxRecDepth 100000 in
theorem tk_X2_numberIn {p : Program} {l : Launch} {e : Env} {s s0 : State} {a0 : Array Value} {m : MethodId} {args : Array Value} {below : List Frame} {meth : Method} {c : Code} {D : va_G} {ad : Nat → Nat → Nat} {cA : Nat → ClassId} {A : Nat → Prop} {lv : Nat} {Φ : Post} (X : Cx p l s0 a0 s m args meth c cX2_numberIn 5 RX2 D ad cA A) (hr : meth.sig.returnType = (some .int)) {S_X2_numberIn : SpecT} {v_X2_numberIn : Nat} (h_X2_numberIn : Con l yX2_numberIn cX2_numberIn 5 (some .int) 3 v_X2_numberIn S_X2_numberIn) (g_X2_numberIn : v_X2_numberIn + 1 ≤ lv) : tabOK (K p l e (rmL lv) s m args below meth c D ad cA A 5 0 0 (MQ below (QcW Φ D ad cA A) args s 0 0 A)) (tb_X2_numberIn Φ S_X2_numberIn) :=
  ⟨sq_aload_n X rfl dX2_numberIn_0,
  sq_gf X (ci := 2) rfl inX2 gdX2 (by decide) fl_X2_15 dX2_numberIn_1,
  sq_iload_n X rfl dX2_numberIn_4,
  sq_iald X dX2_numberIn_5,
  sq_istore_n X rfl (by decide) dX2_numberIn_6,
  sq_aload_n X rfl dX2_numberIn_7,
  sq_gf X (ci := 2) rfl inX2 gdX2 (by decide) fl_X2_18 dX2_numberIn_8,
  sq_iload_n X rfl dX2_numberIn_11,
  sq_iald X dX2_numberIn_12,
  sq_istore X (by decide) dX2_numberIn_13,
  sq_aload_n X rfl dX2_numberIn_15,
  sq_gf X (ci := 2) rfl inX2 gdX2 (by decide) fl_X2_9 dX2_numberIn_16,
  sq_iload_n X rfl dX2_numberIn_19,
  sq_iald X dX2_numberIn_20,
  sq_sw X (by decide) rfl (by decide) (by decide) dX2_numberIn_21,
  sq_iload_n X rfl dX2_numberIn_52,
  sq_iret X hr dX2_numberIn_53,
  sq_iload_n X rfl dX2_numberIn_54,
  sq_iconst X (by decide) dX2_numberIn_55,
  sq_iload_n X rfl dX2_numberIn_56,
  sq_imul X dX2_numberIn_57,
  sq_ishr X dX2_numberIn_58,
  sq_bipush X (by decide) dX2_numberIn_59,
  sq_iand X dX2_numberIn_61,
  sq_iret X hr dX2_numberIn_62,
  sq_aload_n X rfl dX2_numberIn_63,
  sq_iload_n X rfl dX2_numberIn_64,
  sq_iload_n X rfl dX2_numberIn_65,
  sq_cv X h_X2_numberIn ⟨_, _, rfl⟩ cw_X2_57 ⟨rfl, by decide, by decide, by decide +kernel⟩ (by decide +kernel) (lev_ok g_X2_numberIn (by decide)) ⟨Nat.zero_le _, Nat.zero_le _⟩ dX2_numberIn_66,
  sq_aload_n X rfl dX2_numberIn_69,
  sq_iload X dX2_numberIn_70,
  sq_iload_n X rfl dX2_numberIn_72,
  sq_cv X h_X2_numberIn ⟨_, _, rfl⟩ cw_X2_57 ⟨rfl, by decide, by decide, by decide +kernel⟩ (by decide +kernel) (lev_ok g_X2_numberIn (by decide)) ⟨Nat.zero_le _, Nat.zero_le _⟩ dX2_numberIn_73,
  sq_iadd X dX2_numberIn_76,
  sq_iret X hr dX2_numberIn_77,
  sq_aload_n X rfl dX2_numberIn_78,
  sq_iload_n X rfl dX2_numberIn_79,
  sq_iload_n X rfl dX2_numberIn_80,
  sq_cv X h_X2_numberIn ⟨_, _, rfl⟩ cw_X2_57 ⟨rfl, by decide, by decide, by decide +kernel⟩ (by decide +kernel) (lev_ok g_X2_numberIn (by decide)) ⟨Nat.zero_le _, Nat.zero_le _⟩ dX2_numberIn_81,
  sq_aload_n X rfl dX2_numberIn_84,
  sq_iload X dX2_numberIn_85,
  sq_iload_n X rfl dX2_numberIn_87,
  sq_cv X h_X2_numberIn ⟨_, _, rfl⟩ cw_X2_57 ⟨rfl, by decide, by decide, by decide +kernel⟩ (by decide +kernel) (lev_ok g_X2_numberIn (by decide)) ⟨Nat.zero_le _, Nat.zero_le _⟩ dX2_numberIn_88,
  sq_isub X dX2_numberIn_91,
  sq_iret X hr dX2_numberIn_92,
  sq_iload_n X rfl dX2_numberIn_93,
  sq_aload_n X rfl dX2_numberIn_94,
  sq_iload X dX2_numberIn_95,
  sq_iload_n X rfl dX2_numberIn_97,
  sq_cv X h_X2_numberIn ⟨_, _, rfl⟩ cw_X2_57 ⟨rfl, by decide, by decide, by decide +kernel⟩ (by decide +kernel) (lev_ok g_X2_numberIn (by decide)) ⟨Nat.zero_le _, Nat.zero_le _⟩ dX2_numberIn_98,
  sq_imul X dX2_numberIn_101,
  sq_iret X hr dX2_numberIn_102, trivial⟩
def tb_X2_isTrueIn (Φ : Post) (S_X2_numberIn S_X2_isTrueIn : SpecT) : List (Nat × Tr) := [
  (0, tq_ald 0 1),
  (1, tq_gf 2 1 4),
  (4, tq_ild 1 5),
  (5, tq_iald 6),
  (6, tq_ist 3 7),
  (7, tq_ald 0 8),
  (8, tq_gf 2 2 11),
  (11, tq_ild 1 12),
  (12, tq_iald 13),
  (13, tq_ist 4 15),
  (15, tq_ald 0 16),
  (16, tq_gf 2 0 19),
  (19, tq_ild 1 20),
  (20, tq_iald 21),
  (21, tq_sw 158 [(5, 56), (6, 78), (7, 100), (8, 118), (9, 133)]),
  (56, tq_ald 0 57),
  (57, tq_ild 3 58),
  (58, tq_ild 2 59),
  (59, tq_cv 2 3 S_X2_numberIn 62),
  (62, tq_ald 0 63),
  (63, tq_ild 4 65),
  (65, tq_ild 2 66),
  (66, tq_cv 2 3 S_X2_numberIn 69),
  (69, tq_ic_ge 76 72),
  (72, tq_push 1 73),
  (73, tq_goto 77),
  (76, tq_push 0 77),
  (77, tq_zret Φ),
  (78, tq_ald 0 79),
  (79, tq_ild 3 80),
  (80, tq_ild 2 81),
  (81, tq_cv 2 3 S_X2_numberIn 84),
  (84, tq_ald 0 85),
  (85, tq_ild 4 87),
  (87, tq_ild 2 88),
  (88, tq_cv 2 3 S_X2_numberIn 91),
  (91, tq_ic_ne 98 94),
  (94, tq_push 1 95),
  (95, tq_goto 99),
  (98, tq_push 0 99),
  (99, tq_zret Φ),
  (100, tq_ald 0 101),
  (101, tq_ild 4 103),
  (103, tq_ild 2 104),
  (104, tq_cv 2 3 S_X2_numberIn 107),
  (107, tq_ild 3 108),
  (108, tq_irem 109),
  (109, tq_if_ne 116 112),
  (112, tq_push 1 113),
  (113, tq_goto 117),
  (116, tq_push 0 117),
  (117, tq_zret Φ),
  (118, tq_ald 0 119),
  (119, tq_ild 3 120),
  (120, tq_ild 2 121),
  (121, tq_cv 2 3 S_X2_isTrueIn 124),
  (124, tq_if_ne 131 127),
  (127, tq_push 1 128),
  (128, tq_goto 132),
  (131, tq_push 0 132),
  (132, tq_zret Φ),
  (133, tq_ald 0 134),
  (134, tq_ild 3 135),
  (135, tq_ild 2 136),
  (136, tq_cv 2 3 S_X2_isTrueIn 139),
  (139, tq_if_eq 156 142),
  (142, tq_ald 0 143),
  (143, tq_ild 4 145),
  (145, tq_ild 2 146),
  (146, tq_cv 2 3 S_X2_isTrueIn 149),
  (149, tq_if_eq 156 152),
  (152, tq_push 1 153),
  (153, tq_goto 157),
  (156, tq_push 0 157),
  (157, tq_zret Φ),
  (158, tq_ald 0 159),
  (159, tq_ild 3 160),
  (160, tq_ild 2 161),
  (161, tq_cv 2 3 S_X2_isTrueIn 164),
  (164, tq_if_ne 177 167),
  (167, tq_ald 0 168),
  (168, tq_ild 4 170),
  (170, tq_ild 2 171),
  (171, tq_cv 2 3 S_X2_isTrueIn 174),
  (174, tq_if_eq 181 177),
  (177, tq_push 1 178),
  (178, tq_goto 182),
  (181, tq_push 0 182),
  (182, tq_zret Φ)]
set_option maxRecDepth 100000 in
theorem tk_X2_isTrueIn {p : Program} {l : Launch} {e : Env} {s s0 : State} {a0 : Array Value} {m : MethodId} {args : Array Value} {below : List Frame} {meth : Method} {c : Code} {D : va_G} {ad : Nat → Nat → Nat} {cA : Nat → ClassId} {A : Nat → Prop} {lv : Nat} {Φ : Post} (X : Cx p l s0 a0 s m args meth c cX2_isTrueIn 5 RX2 D ad cA A) (hr : meth.sig.returnType = (some .boolean)) {S_X2_numberIn : SpecT} {v_X2_numberIn : Nat} (h_X2_numberIn : Con l yX2_numberIn cX2_numberIn 5 (some .int) 3 v_X2_numberIn S_X2_numberIn) (g_X2_numberIn : v_X2_numberIn + 1 ≤ lv) {S_X2_isTrueIn : SpecT} {v_X2_isTrueIn : Nat} (h_X2_isTrueIn : Con l yX2_isTrueIn cX2_isTrueIn 5 (some .boolean) 3 v_X2_isTrueIn S_X2_isTrueIn) (g_X2_isTrueIn : v_X2_isTrueIn + 1 ≤ lv) : tabOK (K p l e (rmL lv) s m args below meth c D ad cA A 5 0 0 (MQ below (QcW Φ D ad cA A) args s 0 0 A)) (tb_X2_isTrueIn Φ S_X2_numberIn S_X2_isTrueIn) :=
  ⟨sq_aload_n X rfl dX2_isTrueIn_0,
  sq_gf X (ci := 2) rfl inX2 gdX2 (by decide) fl_X2_15 dX2_isTrueIn_1,
  sq_iload_n X rfl dX2_isTrueIn_4,
  sq_iald X dX2_isTrueIn_5,
  sq_istore_n X rfl (by decide) dX2_isTrueIn_6,
  sq_aload_n X rfl dX2_isTrueIn_7,
  sq_gf X (ci := 2) rfl inX2 gdX2 (by decide) fl_X2_18 dX2_isTrueIn_8,
  sq_iload_n X rfl dX2_isTrueIn_11,
  sq_iald X dX2_isTrueIn_12,
  sq_istore X (by decide) dX2_isTrueIn_13,
  sq_aload_n X rfl dX2_isTrueIn_15,
  sq_gf X (ci := 2) rfl inX2 gdX2 (by decide) fl_X2_9 dX2_isTrueIn_16,
  sq_iload_n X rfl dX2_isTrueIn_19,
  sq_iald X dX2_isTrueIn_20,
  sq_sw X (by decide) rfl (by decide) (by decide) dX2_isTrueIn_21,
  sq_aload_n X rfl dX2_isTrueIn_56,
  sq_iload_n X rfl dX2_isTrueIn_57,
  sq_iload_n X rfl dX2_isTrueIn_58,
  sq_cv X h_X2_numberIn ⟨_, _, rfl⟩ cw_X2_57 ⟨rfl, by decide, by decide, by decide +kernel⟩ (by decide +kernel) (lev_ok g_X2_numberIn (by decide)) ⟨Nat.zero_le _, Nat.zero_le _⟩ dX2_isTrueIn_59,
  sq_aload_n X rfl dX2_isTrueIn_62,
  sq_iload X dX2_isTrueIn_63,
  sq_iload_n X rfl dX2_isTrueIn_65,
  sq_cv X h_X2_numberIn ⟨_, _, rfl⟩ cw_X2_57 ⟨rfl, by decide, by decide, by decide +kernel⟩ (by decide +kernel) (lev_ok g_X2_numberIn (by decide)) ⟨Nat.zero_le _, Nat.zero_le _⟩ dX2_isTrueIn_66,
  sq_ic_ge X (by decide) dX2_isTrueIn_69,
  sq_iconst X (by decide) dX2_isTrueIn_72,
  sq_goto X (by decide) dX2_isTrueIn_73,
  sq_iconst X (by decide) dX2_isTrueIn_76,
  sq_zret X hr dX2_isTrueIn_77,
  sq_aload_n X rfl dX2_isTrueIn_78,
  sq_iload_n X rfl dX2_isTrueIn_79,
  sq_iload_n X rfl dX2_isTrueIn_80,
  sq_cv X h_X2_numberIn ⟨_, _, rfl⟩ cw_X2_57 ⟨rfl, by decide, by decide, by decide +kernel⟩ (by decide +kernel) (lev_ok g_X2_numberIn (by decide)) ⟨Nat.zero_le _, Nat.zero_le _⟩ dX2_isTrueIn_81,
  sq_aload_n X rfl dX2_isTrueIn_84,
  sq_iload X dX2_isTrueIn_85,
  sq_iload_n X rfl dX2_isTrueIn_87,
  sq_cv X h_X2_numberIn ⟨_, _, rfl⟩ cw_X2_57 ⟨rfl, by decide, by decide, by decide +kernel⟩ (by decide +kernel) (lev_ok g_X2_numberIn (by decide)) ⟨Nat.zero_le _, Nat.zero_le _⟩ dX2_isTrueIn_88,
  sq_ic_ne X (by decide) dX2_isTrueIn_91,
  sq_iconst X (by decide) dX2_isTrueIn_94,
  sq_goto X (by decide) dX2_isTrueIn_95,
  sq_iconst X (by decide) dX2_isTrueIn_98,
  sq_zret X hr dX2_isTrueIn_99,
  sq_aload_n X rfl dX2_isTrueIn_100,
  sq_iload X dX2_isTrueIn_101,
  sq_iload_n X rfl dX2_isTrueIn_103,
  sq_cv X h_X2_numberIn ⟨_, _, rfl⟩ cw_X2_57 ⟨rfl, by decide, by decide, by decide +kernel⟩ (by decide +kernel) (lev_ok g_X2_numberIn (by decide)) ⟨Nat.zero_le _, Nat.zero_le _⟩ dX2_isTrueIn_104,
  sq_iload_n X rfl dX2_isTrueIn_107,
  sq_irem X dX2_isTrueIn_108,
  sq_if_ne X (by decide) dX2_isTrueIn_109,
  sq_iconst X (by decide) dX2_isTrueIn_112,
  sq_goto X (by decide) dX2_isTrueIn_113,
  sq_iconst X (by decide) dX2_isTrueIn_116,
  sq_zret X hr dX2_isTrueIn_117,
  sq_aload_n X rfl dX2_isTrueIn_118,
  sq_iload_n X rfl dX2_isTrueIn_119,
  sq_iload_n X rfl dX2_isTrueIn_120,
  sq_cv X h_X2_isTrueIn ⟨_, _, rfl⟩ cw_X2_60 ⟨rfl, by decide, by decide, by decide +kernel⟩ (by decide +kernel) (lev_ok g_X2_isTrueIn (by decide)) ⟨Nat.zero_le _, Nat.zero_le _⟩ dX2_isTrueIn_121,
  sq_if_ne X (by decide) dX2_isTrueIn_124,
  sq_iconst X (by decide) dX2_isTrueIn_127,
  sq_goto X (by decide) dX2_isTrueIn_128,
  sq_iconst X (by decide) dX2_isTrueIn_131,
  sq_zret X hr dX2_isTrueIn_132,
  sq_aload_n X rfl dX2_isTrueIn_133,
  sq_iload_n X rfl dX2_isTrueIn_134,
  sq_iload_n X rfl dX2_isTrueIn_135,
  sq_cv X h_X2_isTrueIn ⟨_, _, rfl⟩ cw_X2_60 ⟨rfl, by decide, by decide, by decide +kernel⟩ (by decide +kernel) (lev_ok g_X2_isTrueIn (by decide)) ⟨Nat.zero_le _, Nat.zero_le _⟩ dX2_isTrueIn_136,
  sq_if_eq X (by decide) dX2_isTrueIn_139,
  sq_aload_n X rfl dX2_isTrueIn_142,
  sq_iload X dX2_isTrueIn_143,
  sq_iload_n X rfl dX2_isTrueIn_145,
  sq_cv X h_X2_isTrueIn ⟨_, _, rfl⟩ cw_X2_60 ⟨rfl, by decide, by decide, by decide +kernel⟩ (by decide +kernel) (lev_ok g_X2_isTrueIn (by decide)) ⟨Nat.zero_le _, Nat.zero_le _⟩ dX2_isTrueIn_146,
  sq_if_eq X (by decide) dX2_isTrueIn_149,
  sq_iconst X (by decide) dX2_isTrueIn_152,
  sq_goto X (by decide) dX2_isTrueIn_153,
  sq_iconst X (by decide) dX2_isTrueIn_156,
  sq_zret X hr dX2_isTrueIn_157,
  sq_aload_n X rfl dX2_isTrueIn_158,
  sq_iload_n X rfl dX2_isTrueIn_159,
  sq_iload_n X rfl dX2_isTrueIn_160,
  sq_cv X h_X2_isTrueIn ⟨_, _, rfl⟩ cw_X2_60 ⟨rfl, by decide, by decide, by decide +kernel⟩ (by decide +kernel) (lev_ok g_X2_isTrueIn (by decide)) ⟨Nat.zero_le _, Nat.zero_le _⟩ dX2_isTrueIn_161,
  sq_if_ne X (by decide) dX2_isTrueIn_164,
  sq_aload_n X rfl dX2_isTrueIn_167,
  sq_iload X dX2_isTrueIn_168,
  sq_iload_n X rfl dX2_isTrueIn_170,
  sq_cv X h_X2_isTrueIn ⟨_, _, rfl⟩ cw_X2_60 ⟨rfl, by decide, by decide, by decide +kernel⟩ (by decide +kernel) (lev_ok g_X2_isTrueIn (by decide)) ⟨Nat.zero_le _, Nat.zero_le _⟩ dX2_isTrueIn_171,
  sq_if_eq X (by decide) dX2_isTrueIn_174,
  sq_iconst X (by decide) dX2_isTrueIn_177,
  sq_goto X (by decide) dX2_isTrueIn_178,
  sq_iconst X (by decide) dX2_isTrueIn_181,
  sq_zret X hr dX2_isTrueIn_182, trivial⟩
def tb_X2_fits (Φ : Post) (S_X2_has : SpecT) : List (Nat × Tr) := [
  (0, tq_ild 1 1),
  (1, tq_sw 106 [(0, 36), (1, 38), (2, 56), (3, 74), (4, 91)]),
  (36, tq_push 1 37),
  (37, tq_zret Φ),
  (38, tq_ild 2 39),
  (39, tq_push (-100) 41),
  (41, tq_ic_lt 54 44),
  (44, tq_ild 2 45),
  (45, tq_push 100 47),
  (47, tq_ic_gt 54 50),
  (50, tq_push 1 51),
  (51, tq_goto 55),
  (54, tq_push 0 55),
  (55, tq_zret Φ),
  (56, tq_ild 2 57),
  (57, tq_push (-16) 59),
  (59, tq_ic_lt 72 62),
  (62, tq_ild 2 63),
  (63, tq_push 16 65),
  (65, tq_ic_gt 72 68),
  (68, tq_push 1 69),
  (69, tq_goto 73),
  (72, tq_push 0 73),
  (73, tq_zret Φ),
  (74, tq_ild 2 75),
  (75, tq_push 1 76),
  (76, tq_ic_lt 89 79),
  (79, tq_ild 2 80),
  (80, tq_push 16 82),
  (82, tq_ic_gt 89 85),
  (85, tq_push 1 86),
  (86, tq_goto 90),
  (89, tq_push 0 90),
  (90, tq_zret Φ),
  (91, tq_ild 2 92),
  (92, tq_if_lt 104 95),
  (95, tq_ild 2 96),
  (96, tq_push 2 97),
  (97, tq_ic_gt 104 100),
  (100, tq_push 1 101),
  (101, tq_goto 105),
  (104, tq_push 0 105),
  (105, tq_zret Φ),
  (106, tq_ald 0 107),
  (107, tq_ild 2 108),
  (108, tq_ild 1 109),
  (109, tq_cv 2 3 S_X2_has 112),
  (112, tq_zret Φ)]
set_option maxRecDepth 100000 in
theorem tk_X2_fits {p : Program} {l : Launch} {e : Env} {s s0 : State} {a0 : Array Value} {m : MethodId} {args : Array Value} {below : List Frame} {meth : Method} {c : Code} {D : va_G} {ad : Nat → Nat → Nat} {cA : Nat → ClassId} {A : Nat → Prop} {lv : Nat} {Φ : Post} (X : Cx p l s0 a0 s m args meth c cX2_fits 3 RX2 D ad cA A) (hr : meth.sig.returnType = (some .boolean)) {S_X2_has : SpecT} {v_X2_has : Nat} (h_X2_has : Con l yX2_has cX2_has 3 (some .boolean) 3 v_X2_has S_X2_has) (g_X2_has : v_X2_has + 1 ≤ lv) : tabOK (K p l e (rmL lv) s m args below meth c D ad cA A 3 0 0 (MQ below (QcW Φ D ad cA A) args s 0 0 A)) (tb_X2_fits Φ S_X2_has) :=
  ⟨sq_iload_n X rfl dX2_fits_0,
  sq_sw X (by decide) rfl (by decide) (by decide) dX2_fits_1,
  sq_iconst X (by decide) dX2_fits_36,
  sq_zret X hr dX2_fits_37,
  sq_iload_n X rfl dX2_fits_38,
  sq_bipush X (by decide) dX2_fits_39,
  sq_ic_lt X (by decide) dX2_fits_41,
  sq_iload_n X rfl dX2_fits_44,
  sq_bipush X (by decide) dX2_fits_45,
  sq_ic_gt X (by decide) dX2_fits_47,
  sq_iconst X (by decide) dX2_fits_50,
  sq_goto X (by decide) dX2_fits_51,
  sq_iconst X (by decide) dX2_fits_54,
  sq_zret X hr dX2_fits_55,
  sq_iload_n X rfl dX2_fits_56,
  sq_bipush X (by decide) dX2_fits_57,
  sq_ic_lt X (by decide) dX2_fits_59,
  sq_iload_n X rfl dX2_fits_62,
  sq_bipush X (by decide) dX2_fits_63,
  sq_ic_gt X (by decide) dX2_fits_65,
  sq_iconst X (by decide) dX2_fits_68,
  sq_goto X (by decide) dX2_fits_69,
  sq_iconst X (by decide) dX2_fits_72,
  sq_zret X hr dX2_fits_73,
  sq_iload_n X rfl dX2_fits_74,
  sq_iconst X (by decide) dX2_fits_75,
  sq_ic_lt X (by decide) dX2_fits_76,
  sq_iload_n X rfl dX2_fits_79,
  sq_bipush X (by decide) dX2_fits_80,
  sq_ic_gt X (by decide) dX2_fits_82,
  sq_iconst X (by decide) dX2_fits_85,
  sq_goto X (by decide) dX2_fits_86,
  sq_iconst X (by decide) dX2_fits_89,
  sq_zret X hr dX2_fits_90,
  sq_iload_n X rfl dX2_fits_91,
  sq_if_lt X (by decide) dX2_fits_92,
  sq_iload_n X rfl dX2_fits_95,
  sq_iconst X (by decide) dX2_fits_96,
  sq_ic_gt X (by decide) dX2_fits_97,
  sq_iconst X (by decide) dX2_fits_100,
  sq_goto X (by decide) dX2_fits_101,
  sq_iconst X (by decide) dX2_fits_104,
  sq_zret X hr dX2_fits_105,
  sq_aload_n X rfl dX2_fits_106,
  sq_iload_n X rfl dX2_fits_107,
  sq_iload_n X rfl dX2_fits_108,
  sq_cv X h_X2_has ⟨_, _, rfl⟩ cw_X2_63 ⟨rfl, by decide, by decide, by decide +kernel⟩ (by decide +kernel) (lev_ok g_X2_has (by decide)) ⟨Nat.zero_le _, Nat.zero_le _⟩ dX2_fits_109,
  sq_zret X hr dX2_fits_112, trivial⟩
def tb_X2_heightBelow (Φ : Post) : List (Nat × Tr) := [
  (0, tq_ild 1 1),
  (1, tq_push 5 2),
  (2, tq_ic_lt 14 5),
  (5, tq_ald 0 6),
  (6, tq_gf 2 4 9),
  (9, tq_ild 2 10),
  (10, tq_iald 11),
  (11, tq_goto 15),
  (14, tq_push 0 15),
  (15, tq_iret Φ)]
set_option maxRecDepth 100000 in
theorem tk_X2_heightBelow {p : Program} {l : Launch} {e : Env} {s s0 : State} {a0 : Array Value} {m : MethodId} {args : Array Value} {below : List Frame} {meth : Method} {c : Code} {D : va_G} {ad : Nat → Nat → Nat} {cA : Nat → ClassId} {A : Nat → Prop} {lv : Nat} {Φ : Post} (X : Cx p l s0 a0 s m args meth c cX2_heightBelow 3 RX2 D ad cA A) (hr : meth.sig.returnType = (some .int)) : tabOK (K p l e (rmL lv) s m args below meth c D ad cA A 3 0 0 (MQ below (QcW Φ D ad cA A) args s 0 0 A)) (tb_X2_heightBelow Φ) :=
  ⟨sq_iload_n X rfl dX2_heightBelow_0,
  sq_iconst X (by decide) dX2_heightBelow_1,
  sq_ic_lt X (by decide) dX2_heightBelow_2,
  sq_aload_n X rfl dX2_heightBelow_5,
  sq_gf X (ci := 2) rfl inX2 gdX2 (by decide) fl_X2_24 dX2_heightBelow_6,
  sq_iload_n X rfl dX2_heightBelow_9,
  sq_iald X dX2_heightBelow_10,
  sq_goto X (by decide) dX2_heightBelow_11,
  sq_iconst X (by decide) dX2_heightBelow_14,
  sq_iret X hr dX2_heightBelow_15, trivial⟩
def tb_X2_haveWordsFor (Φ : Post) (S_X2_fits : SpecT) : List (Nat × Tr) := [
  (0, tq_ald 0 1),
  (1, tq_gs 40 4),
  (4, tq_ild 1 5),
  (5, tq_ti 6),
  (6, tq_ild 2 7),
  (7, tq_cv 2 3 S_X2_fits 10),
  (10, tq_if_eq 44 13),
  (13, tq_ald 0 14),
  (14, tq_gs 41 17),
  (17, tq_ild 1 18),
  (18, tq_ti 19),
  (19, tq_ild 3 20),
  (20, tq_cv 2 3 S_X2_fits 23),
  (23, tq_if_eq 44 26),
  (26, tq_ald 0 27),
  (27, tq_gs 42 30),
  (30, tq_ild 1 31),
  (31, tq_ti 32),
  (32, tq_ild 4 34),
  (34, tq_cv 2 3 S_X2_fits 37),
  (37, tq_if_eq 44 40),
  (40, tq_push 1 41),
  (41, tq_goto 45),
  (44, tq_push 0 45),
  (45, tq_zret Φ)]
set_option maxRecDepth 100000 in
theorem tk_X2_haveWordsFor {p : Program} {l : Launch} {e : Env} {s s0 : State} {a0 : Array Value} {m : MethodId} {args : Array Value} {below : List Frame} {meth : Method} {c : Code} {D : va_G} {ad : Nat → Nat → Nat} {cA : Nat → ClassId} {A : Nat → Prop} {lv : Nat} {Φ : Post} (X : Cx p l s0 a0 s m args meth c cX2_haveWordsFor 5 RX2 D ad cA A) (hr : meth.sig.returnType = (some .boolean)) {S_X2_fits : SpecT} {v_X2_fits : Nat} (h_X2_fits : Con l yX2_fits cX2_fits 3 (some .boolean) 3 v_X2_fits S_X2_fits) (g_X2_fits : v_X2_fits + 1 ≤ lv) : tabOK (K p l e (rmL lv) s m args below meth c D ad cA A 5 0 0 (MQ below (QcW Φ D ad cA A) args s 0 0 A)) (tb_X2_haveWordsFor Φ S_X2_fits) :=
  ⟨sq_aload_n X rfl dX2_haveWordsFor_0,
  sq_gs X (j := 0) (by decide) gs_X2_35 dX2_haveWordsFor_1,
  sq_iload_n X rfl dX2_haveWordsFor_4,
  sq_ti X dX2_haveWordsFor_5,
  sq_iload_n X rfl dX2_haveWordsFor_6,
  sq_cv X h_X2_fits ⟨_, _, rfl⟩ cw_X2_38 ⟨rfl, by decide, by decide, by decide +kernel⟩ (by decide +kernel) (lev_ok g_X2_fits (by decide)) ⟨Nat.zero_le _, Nat.zero_le _⟩ dX2_haveWordsFor_7,
  sq_if_eq X (by decide) dX2_haveWordsFor_10,
  sq_aload_n X rfl dX2_haveWordsFor_13,
  sq_gs X (j := 1) (by decide) gs_X2_42 dX2_haveWordsFor_14,
  sq_iload_n X rfl dX2_haveWordsFor_17,
  sq_ti X dX2_haveWordsFor_18,
  sq_iload_n X rfl dX2_haveWordsFor_19,
  sq_cv X h_X2_fits ⟨_, _, rfl⟩ cw_X2_38 ⟨rfl, by decide, by decide, by decide +kernel⟩ (by decide +kernel) (lev_ok g_X2_fits (by decide)) ⟨Nat.zero_le _, Nat.zero_le _⟩ dX2_haveWordsFor_20,
  sq_if_eq X (by decide) dX2_haveWordsFor_23,
  sq_aload_n X rfl dX2_haveWordsFor_26,
  sq_gs X (j := 2) (by decide) gs_X2_45 dX2_haveWordsFor_27,
  sq_iload_n X rfl dX2_haveWordsFor_30,
  sq_ti X dX2_haveWordsFor_31,
  sq_iload X dX2_haveWordsFor_32,
  sq_cv X h_X2_fits ⟨_, _, rfl⟩ cw_X2_38 ⟨rfl, by decide, by decide, by decide +kernel⟩ (by decide +kernel) (lev_ok g_X2_fits (by decide)) ⟨Nat.zero_le _, Nat.zero_le _⟩ dX2_haveWordsFor_34,
  sq_if_eq X (by decide) dX2_haveWordsFor_37,
  sq_iconst X (by decide) dX2_haveWordsFor_40,
  sq_goto X (by decide) dX2_haveWordsFor_41,
  sq_iconst X (by decide) dX2_haveWordsFor_44,
  sq_zret X hr dX2_haveWordsFor_45, trivial⟩
def tb_X2_heightOf (Φ : Post) (S_X2_heightBelow : SpecT) : List (Nat × Tr) := [
  (0, tq_ald 0 1),
  (1, tq_gs 40 4),
  (4, tq_ild 1 5),
  (5, tq_ti 6),
  (6, tq_ild 2 7),
  (7, tq_cv 2 3 S_X2_heightBelow 10),
  (10, tq_ald 0 11),
  (11, tq_gs 41 14),
  (14, tq_ild 1 15),
  (15, tq_ti 16),
  (16, tq_ild 3 17),
  (17, tq_cv 2 3 S_X2_heightBelow 20),
  (20, tq_max 23),
  (23, tq_ist 5 25),
  (25, tq_push 1 26),
  (26, tq_ild 5 28),
  (28, tq_ald 0 29),
  (29, tq_gs 42 32),
  (32, tq_ild 1 33),
  (33, tq_ti 34),
  (34, tq_ild 4 36),
  (36, tq_cv 2 3 S_X2_heightBelow 39),
  (39, tq_max 42),
  (42, tq_iadd 43),
  (43, tq_iret Φ)]
set_option maxRecDepth 100000 in
theorem tk_X2_heightOf {p : Program} {l : Launch} {e : Env} {s s0 : State} {a0 : Array Value} {m : MethodId} {args : Array Value} {below : List Frame} {meth : Method} {c : Code} {D : va_G} {ad : Nat → Nat → Nat} {cA : Nat → ClassId} {A : Nat → Prop} {lv : Nat} {Φ : Post} (X : Cx p l s0 a0 s m args meth c cX2_heightOf 6 RX2 D ad cA A) (hr : meth.sig.returnType = (some .int)) (g_one : 1 ≤ lv) {S_X2_heightBelow : SpecT} {v_X2_heightBelow : Nat} (h_X2_heightBelow : Con l yX2_heightBelow cX2_heightBelow 3 (some .int) 3 v_X2_heightBelow S_X2_heightBelow) (g_X2_heightBelow : v_X2_heightBelow + 1 ≤ lv) : tabOK (K p l e (rmL lv) s m args below meth c D ad cA A 6 0 0 (MQ below (QcW Φ D ad cA A) args s 0 0 A)) (tb_X2_heightOf Φ S_X2_heightBelow) :=
  ⟨sq_aload_n X rfl dX2_heightOf_0,
  sq_gs X (j := 0) (by decide) gs_X2_35 dX2_heightOf_1,
  sq_iload_n X rfl dX2_heightOf_4,
  sq_ti X dX2_heightOf_5,
  sq_iload_n X rfl dX2_heightOf_6,
  sq_cv X h_X2_heightBelow ⟨_, _, rfl⟩ cw_X2_48 ⟨rfl, by decide, by decide, by decide +kernel⟩ (by decide +kernel) (lev_ok g_X2_heightBelow (by decide)) ⟨Nat.zero_le _, Nat.zero_le _⟩ dX2_heightOf_7,
  sq_aload_n X rfl dX2_heightOf_10,
  sq_gs X (j := 1) (by decide) gs_X2_42 dX2_heightOf_11,
  sq_iload_n X rfl dX2_heightOf_14,
  sq_ti X dX2_heightOf_15,
  sq_iload_n X rfl dX2_heightOf_16,
  sq_cv X h_X2_heightBelow ⟨_, _, rfl⟩ cw_X2_48 ⟨rfl, by decide, by decide, by decide +kernel⟩ (by decide +kernel) (lev_ok g_X2_heightBelow (by decide)) ⟨Nat.zero_le _, Nat.zero_le _⟩ dX2_heightOf_17,
  sq_max X mx_X2_52.1 mx_X2_52.2.1 mx_X2_52.2.2.1 mx_X2_52.2.2.2 ⟨g_one, by show 21 ≤ 60 * lv; omega⟩ ⟨Nat.zero_le _, Nat.zero_le _⟩ dX2_heightOf_20,
  sq_istore X (by decide) dX2_heightOf_23,
  sq_iconst X (by decide) dX2_heightOf_25,
  sq_iload X dX2_heightOf_26,
  sq_aload_n X rfl dX2_heightOf_28,
  sq_gs X (j := 2) (by decide) gs_X2_45 dX2_heightOf_29,
  sq_iload_n X rfl dX2_heightOf_32,
  sq_ti X dX2_heightOf_33,
  sq_iload X dX2_heightOf_34,
  sq_cv X h_X2_heightBelow ⟨_, _, rfl⟩ cw_X2_48 ⟨rfl, by decide, by decide, by decide +kernel⟩ (by decide +kernel) (lev_ok g_X2_heightBelow (by decide)) ⟨Nat.zero_le _, Nat.zero_le _⟩ dX2_heightOf_36,
  sq_max X mx_X2_52.1 mx_X2_52.2.1 mx_X2_52.2.2.1 mx_X2_52.2.2.2 ⟨g_one, by show 21 ≤ 60 * lv; omega⟩ ⟨Nat.zero_le _, Nat.zero_le _⟩ dX2_heightOf_39,
  sq_iadd X dX2_heightOf_42,
  sq_iret X hr dX2_heightOf_43, trivial⟩
def tb_X2_add (Φ : Post) : List (Nat × Tr) := [
  (0, tq_ald 0 1),
  (1, tq_gf 2 5 4),
  (4, tq_ist 6 6),
  (6, tq_ald 0 7),
  (7, tq_gf 2 0 10),
  (10, tq_ild 6 12),
  (12, tq_ild 1 13),
  (13, tq_iast 14),
  (14, tq_ald 0 15),
  (15, tq_gf 2 1 18),
  (18, tq_ild 6 20),
  (20, tq_ild 2 21),
  (21, tq_iast 22),
  (22, tq_ald 0 23),
  (23, tq_gf 2 2 26),
  (26, tq_ild 6 28),
  (28, tq_ild 3 29),
  (29, tq_iast 30),
  (30, tq_ald 0 31),
  (31, tq_gf 2 3 34),
  (34, tq_ild 6 36),
  (36, tq_ild 4 38),
  (38, tq_iast 39),
  (39, tq_ald 0 40),
  (40, tq_gf 2 4 43),
  (43, tq_ild 6 45),
  (45, tq_ild 5 47),
  (47, tq_iast 48),
  (48, tq_ald 0 49),
  (49, tq_dup 50),
  (50, tq_gf 2 5 53),
  (53, tq_push 1 54),
  (54, tq_iadd 55),
  (55, tq_pf 2 5 58),
  (58, tq_ild 6 60),
  (60, tq_iret Φ)]
set_option maxRecDepth 100000 in
theorem tk_X2_add {p : Program} {l : Launch} {e : Env} {s s0 : State} {a0 : Array Value} {m : MethodId} {args : Array Value} {below : List Frame} {meth : Method} {c : Code} {D : va_G} {ad : Nat → Nat → Nat} {cA : Nat → ClassId} {A : Nat → Prop} {lv : Nat} {Φ : Post} (X : Cx p l s0 a0 s m args meth c cX2_add 7 RX2 D ad cA A) (hr : meth.sig.returnType = (some .int)) : tabOK (K p l e (rmL lv) s m args below meth c D ad cA A 7 0 0 (MQ below (QcW Φ D ad cA A) args s 0 0 A)) (tb_X2_add Φ) :=
  ⟨sq_aload_n X rfl dX2_add_0,
  sq_gf X (ci := 2) rfl inX2 gdX2 (by decide) fl_X2_27 dX2_add_1,
  sq_istore X (by decide) dX2_add_4,
  sq_aload_n X rfl dX2_add_6,
  sq_gf X (ci := 2) rfl inX2 gdX2 (by decide) fl_X2_9 dX2_add_7,
  sq_iload X dX2_add_10,
  sq_iload_n X rfl dX2_add_12,
  sq_iast X dX2_add_13,
  sq_aload_n X rfl dX2_add_14,
  sq_gf X (ci := 2) rfl inX2 gdX2 (by decide) fl_X2_15 dX2_add_15,
  sq_iload X dX2_add_18,
  sq_iload_n X rfl dX2_add_20,
  sq_iast X dX2_add_21,
  sq_aload_n X rfl dX2_add_22,
  sq_gf X (ci := 2) rfl inX2 gdX2 (by decide) fl_X2_18 dX2_add_23,
  sq_iload X dX2_add_26,
  sq_iload_n X rfl dX2_add_28,
  sq_iast X dX2_add_29,
  sq_aload_n X rfl dX2_add_30,
  sq_gf X (ci := 2) rfl inX2 gdX2 (by decide) fl_X2_21 dX2_add_31,
  sq_iload X dX2_add_34,
  sq_iload X dX2_add_36,
  sq_iast X dX2_add_38,
  sq_aload_n X rfl dX2_add_39,
  sq_gf X (ci := 2) rfl inX2 gdX2 (by decide) fl_X2_24 dX2_add_40,
  sq_iload X dX2_add_43,
  sq_iload X dX2_add_45,
  sq_iast X dX2_add_47,
  sq_aload_n X rfl dX2_add_48,
  sq_dup X dX2_add_49,
  sq_gf X (ci := 2) rfl inX2 gdX2 (by decide) fl_X2_27 dX2_add_50,
  sq_iconst X (by decide) dX2_add_53,
  sq_iadd X dX2_add_54,
  sq_pf X (ci := 2) rfl inX2 gdX2 tyX2 tyX2_ok nmX2 (by decide) fl_X2_27 rfl rfl dX2_add_55,
  sq_iload X dX2_add_58,
  sq_iret X hr dX2_add_60, trivial⟩
def tb_X4_isStore (Φ : Post) : List (Nat × Tr) := [
  (0, tq_ild 0 1),
  (1, tq_if_lt 15 4),
  (4, tq_ild 0 5),
  (5, tq_push 4095 8),
  (8, tq_ic_gt 15 11),
  (11, tq_push 1 12),
  (12, tq_goto 16),
  (15, tq_push 0 16),
  (16, tq_zret Φ)]
set_option maxRecDepth 100000 in
theorem tk_X4_isStore {p : Program} {l : Launch} {e : Env} {s s0 : State} {a0 : Array Value} {m : MethodId} {args : Array Value} {below : List Frame} {meth : Method} {c : Code} {D : va_G} {ad : Nat → Nat → Nat} {cA : Nat → ClassId} {A : Nat → Prop} {lv : Nat} {Φ : Post} (X : Cx p l s0 a0 s m args meth c cX4_isStore 1 RX4 D ad cA A) (hr : meth.sig.returnType = (some .boolean)) : tabOK (K p l e (rmL lv) s m args below meth c D ad cA A 1 0 0 (MQ below (QcW Φ D ad cA A) args s 0 0 A)) (tb_X4_isStore Φ) :=
  ⟨sq_iload_n X rfl dX4_isStore_0,
  sq_if_lt X (by decide) dX4_isStore_1,
  sq_iload_n X rfl dX4_isStore_4,
  sq_sipush X (by decide) dX4_isStore_5,
  sq_ic_gt X (by decide) dX4_isStore_8,
  sq_iconst X (by decide) dX4_isStore_11,
  sq_goto X (by decide) dX4_isStore_12,
  sq_iconst X (by decide) dX4_isStore_15,
  sq_zret X hr dX4_isStore_16, trivial⟩
def tb_X4_changedStore (Φ : Post) : List (Nat × Tr) := [
  (0, tq_push 4 1),
  (1, tq_ild 1 2),
  (2, tq_imul 3),
  (3, tq_ist 3 4),
  (4, tq_ild 0 5),
  (5, tq_push 15 7),
  (7, tq_ild 3 8),
  (8, tq_ishl 9),
  (9, tq_push (-1) 10),
  (10, tq_ixor 11),
  (11, tq_iand 12),
  (12, tq_ild 2 13),
  (13, tq_push 15 15),
  (15, tq_iand 16),
  (16, tq_ild 3 17),
  (17, tq_ishl 18),
  (18, tq_ior 19),
  (19, tq_iret Φ)]
set_option maxRecDepth 100000 in
theorem tk_X4_changedStore {p : Program} {l : Launch} {e : Env} {s s0 : State} {a0 : Array Value} {m : MethodId} {args : Array Value} {below : List Frame} {meth : Method} {c : Code} {D : va_G} {ad : Nat → Nat → Nat} {cA : Nat → ClassId} {A : Nat → Prop} {lv : Nat} {Φ : Post} (X : Cx p l s0 a0 s m args meth c cX4_changedStore 4 RX4 D ad cA A) (hr : meth.sig.returnType = (some .int)) : tabOK (K p l e (rmL lv) s m args below meth c D ad cA A 4 0 0 (MQ below (QcW Φ D ad cA A) args s 0 0 A)) (tb_X4_changedStore Φ) :=
  ⟨sq_iconst X (by decide) dX4_changedStore_0,
  sq_iload_n X rfl dX4_changedStore_1,
  sq_imul X dX4_changedStore_2,
  sq_istore_n X rfl (by decide) dX4_changedStore_3,
  sq_iload_n X rfl dX4_changedStore_4,
  sq_bipush X (by decide) dX4_changedStore_5,
  sq_iload_n X rfl dX4_changedStore_7,
  sq_ishl X dX4_changedStore_8,
  sq_iconst X (by decide) dX4_changedStore_9,
  sq_ixor X dX4_changedStore_10,
  sq_iand X dX4_changedStore_11,
  sq_iload_n X rfl dX4_changedStore_12,
  sq_bipush X (by decide) dX4_changedStore_13,
  sq_iand X dX4_changedStore_15,
  sq_iload_n X rfl dX4_changedStore_16,
  sq_ishl X dX4_changedStore_17,
  sq_ior X dX4_changedStore_18,
  sq_iret X hr dX4_changedStore_19, trivial⟩
def tb_X3_storeBehind (Φ : Post) (S_X3_ends : SpecT) : List (Nat × Tr) := [
  (0, tq_ald 0 1),
  (1, tq_ild 2 2),
  (2, tq_pf 3 1 5),
  (5, tq_ald 0 6),
  (6, tq_ild 3 7),
  (7, tq_pf 3 2 10),
  (10, tq_ald 0 11),
  (11, tq_ild 1 12),
  (12, tq_cv 3 2 S_X3_ends 15),
  (15, tq_if_eq 25 18),
  (18, tq_ald 0 19),
  (19, tq_gf 3 1 22),
  (22, tq_goto 26),
  (25, tq_push (-1) 26),
  (26, tq_iret Φ)]
set_option maxRecDepth 100000 in
theorem tk_X3_storeBehind {p : Program} {l : Launch} {e : Env} {s s0 : State} {a0 : Array Value} {m : MethodId} {args : Array Value} {below : List Frame} {meth : Method} {c : Code} {D : va_G} {ad : Nat → Nat → Nat} {cA : Nat → ClassId} {A : Nat → Prop} {lv : Nat} {Φ : Post} (X : Cx p l s0 a0 s m args meth c cX3_storeBehind 4 RX3 D ad cA A) (hr : meth.sig.returnType = (some .int)) {S_X3_ends : SpecT} {v_X3_ends : Nat} (h_X3_ends : Con l yX3_ends cX3_ends 4 (some .boolean) 2 v_X3_ends S_X3_ends) (g_X3_ends : v_X3_ends + 1 ≤ lv) : tabOK (K p l e (rmL lv) s m args below meth c D ad cA A 4 0 0 (MQ below (QcW Φ D ad cA A) args s 0 0 A)) (tb_X3_storeBehind Φ S_X3_ends) :=
  ⟨sq_aload_n X rfl dX3_storeBehind_0,
  sq_iload_n X rfl dX3_storeBehind_1,
  sq_pf X (ci := 3) rfl inX3 gdX3 tyX3 tyX3_ok nmX3 (by decide) fl_X3_9 rfl rfl dX3_storeBehind_2,
  sq_aload_n X rfl dX3_storeBehind_5,
  sq_iload_n X rfl dX3_storeBehind_6,
  sq_pf X (ci := 3) rfl inX3 gdX3 tyX3 tyX3_ok nmX3 (by decide) fl_X3_15 rfl rfl dX3_storeBehind_7,
  sq_aload_n X rfl dX3_storeBehind_10,
  sq_iload_n X rfl dX3_storeBehind_11,
  sq_cv X h_X3_ends ⟨_, _, rfl⟩ cw_X3_22 ⟨rfl, by decide, by decide, by decide +kernel⟩ (by decide +kernel) (lev_ok g_X3_ends (by decide)) ⟨Nat.zero_le _, Nat.zero_le _⟩ dX3_storeBehind_12,
  sq_if_eq X (by decide) dX3_storeBehind_15,
  sq_aload_n X rfl dX3_storeBehind_18,
  sq_gf X (ci := 3) rfl inX3 gdX3 (by decide) fl_X3_9 dX3_storeBehind_19,
  sq_goto X (by decide) dX3_storeBehind_22,
  sq_iconst X (by decide) dX3_storeBehind_25,
  sq_iret X hr dX3_storeBehind_26, trivial⟩
def tb_X3_ends (Φ : Post) (S_X2_numberIn S_X4_changedStore S_X3_ends S_X2_isTrueIn S_X3_loopEnds : SpecT) : List (Nat × Tr) := [
  (0, tq_ald 0 1),
  (1, tq_gf 3 2 4),
  (4, tq_if_ne 9 7),
  (7, tq_push 0 8),
  (8, tq_zret Φ),
  (9, tq_ald 0 10),
  (10, tq_dup 11),
  (11, tq_gf 3 2 14),
  (14, tq_push 1 15),
  (15, tq_isub 16),
  (16, tq_pf 3 2 19),
  (19, tq_ald 0 20),
  (20, tq_gf 3 0 23),
  (23, tq_gf 2 1 26),
  (26, tq_ild 1 27),
  (27, tq_iald 28),
  (28, tq_ist 2 29),
  (29, tq_ald 0 30),
  (30, tq_gf 3 0 33),
  (33, tq_gf 2 2 36),
  (36, tq_ild 1 37),
  (37, tq_iald 38),
  (38, tq_ist 3 39),
  (39, tq_ald 0 40),
  (40, tq_gf 3 0 43),
  (43, tq_gf 2 0 46),
  (46, tq_ild 1 47),
  (47, tq_iald 48),
  (48, tq_sw 163 [(11, 80), (12, 82), (13, 108), (14, 130)]),
  (80, tq_push 1 81),
  (81, tq_zret Φ),
  (82, tq_ald 0 83),
  (83, tq_ald 0 84),
  (84, tq_gf 3 1 87),
  (87, tq_ild 2 88),
  (88, tq_ald 0 89),
  (89, tq_gf 3 0 92),
  (92, tq_ild 3 93),
  (93, tq_ald 0 94),
  (94, tq_gf 3 1 97),
  (97, tq_cv 2 3 S_X2_numberIn 100),
  (100, tq_cs 3 S_X4_changedStore 103),
  (103, tq_pf 3 1 106),
  (106, tq_push 1 107),
  (107, tq_zret Φ),
  (108, tq_ald 0 109),
  (109, tq_ild 2 110),
  (110, tq_cv 3 2 S_X3_ends 113),
  (113, tq_if_eq 128 116),
  (116, tq_ald 0 117),
  (117, tq_ild 3 118),
  (118, tq_cv 3 2 S_X3_ends 121),
  (121, tq_if_eq 128 124),
  (124, tq_push 1 125),
  (125, tq_goto 129),
  (128, tq_push 0 129),
  (129, tq_zret Φ),
  (130, tq_ald 0 131),
  (131, tq_ald 0 132),
  (132, tq_gf 3 0 135),
  (135, tq_ild 2 136),
  (136, tq_ald 0 137),
  (137, tq_gf 3 1 140),
  (140, tq_cv 2 3 S_X2_isTrueIn 143),
  (143, tq_if_eq 150 146),
  (146, tq_ild 3 147),
  (147, tq_goto 159),
  (150, tq_ald 0 151),
  (151, tq_gf 3 0 154),
  (154, tq_gf 2 3 157),
  (157, tq_ild 1 158),
  (158, tq_iald 159),
  (159, tq_cv 3 2 S_X3_ends 162),
  (162, tq_zret Φ),
  (163, tq_ald 0 164),
  (164, tq_ild 2 165),
  (165, tq_ald 0 166),
  (166, tq_gf 3 0 169),
  (169, tq_gf 2 3 172),
  (172, tq_ild 1 173),
  (173, tq_iald 174),
  (174, tq_cv 3 3 S_X3_loopEnds 177),
  (177, tq_zret Φ)]
set_option maxRecDepth 100000 in
theorem tk_X3_ends {p : Program} {l : Launch} {e : Env} {s s0 : State} {a0 : Array Value} {m : MethodId} {args : Array Value} {below : List Frame} {meth : Method} {c : Code} {D : va_G} {ad : Nat → Nat → Nat} {cA : Nat → ClassId} {A : Nat → Prop} {lv : Nat} {Φ : Post} (X : Cx p l s0 a0 s m args meth c cX3_ends 4 RX3 D ad cA A) (hr : meth.sig.returnType = (some .boolean)) {S_X2_numberIn : SpecT} {v_X2_numberIn : Nat} (h_X2_numberIn : Con l yX2_numberIn cX2_numberIn 5 (some .int) 3 v_X2_numberIn S_X2_numberIn) (g_X2_numberIn : v_X2_numberIn + 1 ≤ lv) {S_X4_changedStore : SpecT} {v_X4_changedStore : Nat} (h_X4_changedStore : Con l yX4_changedStore cX4_changedStore 4 (some .int) 3 v_X4_changedStore S_X4_changedStore) (g_X4_changedStore : v_X4_changedStore + 1 ≤ lv) {S_X3_ends : SpecT} {v_X3_ends : Nat} (h_X3_ends : Con l yX3_ends cX3_ends 4 (some .boolean) 2 v_X3_ends S_X3_ends) (g_X3_ends : v_X3_ends + 1 ≤ lv) {S_X2_isTrueIn : SpecT} {v_X2_isTrueIn : Nat} (h_X2_isTrueIn : Con l yX2_isTrueIn cX2_isTrueIn 5 (some .boolean) 3 v_X2_isTrueIn S_X2_isTrueIn) (g_X2_isTrueIn : v_X2_isTrueIn + 1 ≤ lv) {S_X3_loopEnds : SpecT} {v_X3_loopEnds : Nat} (h_X3_loopEnds : Con l yX3_loopEnds cX3_loopEnds 4 (some .boolean) 3 v_X3_loopEnds S_X3_loopEnds) (g_X3_loopEnds : v_X3_loopEnds + 1 ≤ lv) : tabOK (K p l e (rmL lv) s m args below meth c D ad cA A 4 0 0 (MQ below (QcW Φ D ad cA A) args s 0 0 A)) (tb_X3_ends Φ S_X2_numberIn S_X4_changedStore S_X3_ends S_X2_isTrueIn S_X3_loopEnds) :=
  ⟨sq_aload_n X rfl dX3_ends_0,
  sq_gf X (ci := 3) rfl inX3 gdX3 (by decide) fl_X3_15 dX3_ends_1,
  sq_if_ne X (by decide) dX3_ends_4,
  sq_iconst X (by decide) dX3_ends_7,
  sq_zret X hr dX3_ends_8,
  sq_aload_n X rfl dX3_ends_9,
  sq_dup X dX3_ends_10,
  sq_gf X (ci := 3) rfl inX3 gdX3 (by decide) fl_X3_15 dX3_ends_11,
  sq_iconst X (by decide) dX3_ends_14,
  sq_isub X dX3_ends_15,
  sq_pf X (ci := 3) rfl inX3 gdX3 tyX3 tyX3_ok nmX3 (by decide) fl_X3_15 rfl rfl dX3_ends_16,
  sq_aload_n X rfl dX3_ends_19,
  sq_gf X (ci := 3) rfl inX3 gdX3 (by decide) fl_X3_18 dX3_ends_20,
  sq_gf X (ci := 2) rfl inX2 gdX2 (by decide) fl_X3_26 dX3_ends_23,
  sq_iload_n X rfl dX3_ends_26,
  sq_iald X dX3_ends_27,
  sq_istore_n X rfl (by decide) dX3_ends_28,
  sq_aload_n X rfl dX3_ends_29,
  sq_gf X (ci := 3) rfl inX3 gdX3 (by decide) fl_X3_18 dX3_ends_30,
  sq_gf X (ci := 2) rfl inX2 gdX2 (by decide) fl_X3_32 dX3_ends_33,
  sq_iload_n X rfl dX3_ends_36,
  sq_iald X dX3_ends_37,
  sq_istore_n X rfl (by decide) dX3_ends_38,
  sq_aload_n X rfl dX3_ends_39,
  sq_gf X (ci := 3) rfl inX3 gdX3 (by decide) fl_X3_18 dX3_ends_40,
  sq_gf X (ci := 2) rfl inX2 gdX2 (by decide) fl_X3_35 dX3_ends_43,
  sq_iload_n X rfl dX3_ends_46,
  sq_iald X dX3_ends_47,
  sq_sw X (by decide) rfl (by decide) (by decide) dX3_ends_48,
  sq_iconst X (by decide) dX3_ends_80,
  sq_zret X hr dX3_ends_81,
  sq_aload_n X rfl dX3_ends_82,
  sq_aload_n X rfl dX3_ends_83,
  sq_gf X (ci := 3) rfl inX3 gdX3 (by decide) fl_X3_9 dX3_ends_84,
  sq_iload_n X rfl dX3_ends_87,
  sq_aload_n X rfl dX3_ends_88,
  sq_gf X (ci := 3) rfl inX3 gdX3 (by decide) fl_X3_18 dX3_ends_89,
  sq_iload_n X rfl dX3_ends_92,
  sq_aload_n X rfl dX3_ends_93,
  sq_gf X (ci := 3) rfl inX3 gdX3 (by decide) fl_X3_9 dX3_ends_94,
  sq_cv X h_X2_numberIn ⟨_, _, rfl⟩ cw_X3_38 ⟨rfl, by decide, by decide, by decide +kernel⟩ (by decide +kernel) (lev_ok g_X2_numberIn (by decide)) ⟨Nat.zero_le _, Nat.zero_le _⟩ dX3_ends_97,
  sq_cn X h_X4_changedStore cw_X3_42n cw_X3_42 ⟨by decide, by decide, by decide +kernel⟩ (by decide +kernel) (lev_ok g_X4_changedStore (by decide)) ⟨Nat.zero_le _, Nat.zero_le _⟩ dX3_ends_100,
  sq_pf X (ci := 3) rfl inX3 gdX3 tyX3 tyX3_ok nmX3 (by decide) fl_X3_9 rfl rfl dX3_ends_103,
  sq_iconst X (by decide) dX3_ends_106,
  sq_zret X hr dX3_ends_107,
  sq_aload_n X rfl dX3_ends_108,
  sq_iload_n X rfl dX3_ends_109,
  sq_cv X h_X3_ends ⟨_, _, rfl⟩ cw_X3_22 ⟨rfl, by decide, by decide, by decide +kernel⟩ (by decide +kernel) (lev_ok g_X3_ends (by decide)) ⟨Nat.zero_le _, Nat.zero_le _⟩ dX3_ends_110,
  sq_if_eq X (by decide) dX3_ends_113,
  sq_aload_n X rfl dX3_ends_116,
  sq_iload_n X rfl dX3_ends_117,
  sq_cv X h_X3_ends ⟨_, _, rfl⟩ cw_X3_22 ⟨rfl, by decide, by decide, by decide +kernel⟩ (by decide +kernel) (lev_ok g_X3_ends (by decide)) ⟨Nat.zero_le _, Nat.zero_le _⟩ dX3_ends_118,
  sq_if_eq X (by decide) dX3_ends_121,
  sq_iconst X (by decide) dX3_ends_124,
  sq_goto X (by decide) dX3_ends_125,
  sq_iconst X (by decide) dX3_ends_128,
  sq_zret X hr dX3_ends_129,
  sq_aload_n X rfl dX3_ends_130,
  sq_aload_n X rfl dX3_ends_131,
  sq_gf X (ci := 3) rfl inX3 gdX3 (by decide) fl_X3_18 dX3_ends_132,
  sq_iload_n X rfl dX3_ends_135,
  sq_aload_n X rfl dX3_ends_136,
  sq_gf X (ci := 3) rfl inX3 gdX3 (by decide) fl_X3_9 dX3_ends_137,
  sq_cv X h_X2_isTrueIn ⟨_, _, rfl⟩ cw_X3_46 ⟨rfl, by decide, by decide, by decide +kernel⟩ (by decide +kernel) (lev_ok g_X2_isTrueIn (by decide)) ⟨Nat.zero_le _, Nat.zero_le _⟩ dX3_ends_140,
  sq_if_eq X (by decide) dX3_ends_143,
  sq_iload_n X rfl dX3_ends_146,
  sq_goto X (by decide) dX3_ends_147,
  sq_aload_n X rfl dX3_ends_150,
  sq_gf X (ci := 3) rfl inX3 gdX3 (by decide) fl_X3_18 dX3_ends_151,
  sq_gf X (ci := 2) rfl inX2 gdX2 (by decide) fl_X3_50 dX3_ends_154,
  sq_iload_n X rfl dX3_ends_157,
  sq_iald X dX3_ends_158,
  sq_cv X h_X3_ends ⟨_, _, rfl⟩ cw_X3_22 ⟨rfl, by decide, by decide, by decide +kernel⟩ (by decide +kernel) (lev_ok g_X3_ends (by decide)) ⟨Nat.zero_le _, Nat.zero_le _⟩ dX3_ends_159,
  sq_zret X hr dX3_ends_162,
  sq_aload_n X rfl dX3_ends_163,
  sq_iload_n X rfl dX3_ends_164,
  sq_aload_n X rfl dX3_ends_165,
  sq_gf X (ci := 3) rfl inX3 gdX3 (by decide) fl_X3_18 dX3_ends_166,
  sq_gf X (ci := 2) rfl inX2 gdX2 (by decide) fl_X3_50 dX3_ends_169,
  sq_iload_n X rfl dX3_ends_172,
  sq_iald X dX3_ends_173,
  sq_cv X h_X3_loopEnds ⟨_, _, rfl⟩ cw_X3_53 ⟨rfl, by decide, by decide, by decide +kernel⟩ (by decide +kernel) (lev_ok g_X3_loopEnds (by decide)) ⟨Nat.zero_le _, Nat.zero_le _⟩ dX3_ends_174,
  sq_zret X hr dX3_ends_177, trivial⟩
def tb_X3_loopEnds (Φ : Post) (S_X2_isTrueIn S_X3_ends : SpecT) : List (Nat × Tr) := [
  (0, tq_push 0 1),
  (1, tq_ist 3 2),
  (2, tq_ild 3 3),
  (3, tq_push 500 6),
  (6, tq_ic_gt 42 9),
  (9, tq_ald 0 10),
  (10, tq_gf 3 0 13),
  (13, tq_ild 1 14),
  (14, tq_ald 0 15),
  (15, tq_gf 3 1 18),
  (18, tq_cv 2 3 S_X2_isTrueIn 21),
  (21, tq_if_ne 26 24),
  (24, tq_push 1 25),
  (25, tq_zret Φ),
  (26, tq_ald 0 27),
  (27, tq_ild 2 28),
  (28, tq_cv 3 2 S_X3_ends 31),
  (31, tq_if_ne 36 34),
  (34, tq_push 0 35),
  (35, tq_zret Φ),
  (36, tq_iinc 3 1 39),
  (39, tq_goto 2),
  (42, tq_push 0 43),
  (43, tq_zret Φ)]
set_option maxRecDepth 100000 in
theorem tk_X3_loopEnds {p : Program} {l : Launch} {e : Env} {s s0 : State} {a0 : Array Value} {m : MethodId} {args : Array Value} {below : List Frame} {meth : Method} {c : Code} {D : va_G} {ad : Nat → Nat → Nat} {cA : Nat → ClassId} {A : Nat → Prop} {lv : Nat} {Φ : Post} (X : Cx p l s0 a0 s m args meth c cX3_loopEnds 4 RX3 D ad cA A) (hr : meth.sig.returnType = (some .boolean)) {S_X2_isTrueIn : SpecT} {v_X2_isTrueIn : Nat} (h_X2_isTrueIn : Con l yX2_isTrueIn cX2_isTrueIn 5 (some .boolean) 3 v_X2_isTrueIn S_X2_isTrueIn) (g_X2_isTrueIn : v_X2_isTrueIn + 1 ≤ lv) {S_X3_ends : SpecT} {v_X3_ends : Nat} (h_X3_ends : Con l yX3_ends cX3_ends 4 (some .boolean) 2 v_X3_ends S_X3_ends) (g_X3_ends : v_X3_ends + 1 ≤ lv) : tabOK (K p l e (rmL lv) s m args below meth c D ad cA A 4 0 0 (MQ below (QcW Φ D ad cA A) args s 0 0 A)) (tb_X3_loopEnds Φ S_X2_isTrueIn S_X3_ends) :=
  ⟨sq_iconst X (by decide) dX3_loopEnds_0,
  sq_istore_n X rfl (by decide) dX3_loopEnds_1,
  sq_iload_n X rfl dX3_loopEnds_2,
  sq_sipush X (by decide) dX3_loopEnds_3,
  sq_ic_gt X (by decide) dX3_loopEnds_6,
  sq_aload_n X rfl dX3_loopEnds_9,
  sq_gf X (ci := 3) rfl inX3 gdX3 (by decide) fl_X3_18 dX3_loopEnds_10,
  sq_iload_n X rfl dX3_loopEnds_13,
  sq_aload_n X rfl dX3_loopEnds_14,
  sq_gf X (ci := 3) rfl inX3 gdX3 (by decide) fl_X3_9 dX3_loopEnds_15,
  sq_cv X h_X2_isTrueIn ⟨_, _, rfl⟩ cw_X3_46 ⟨rfl, by decide, by decide, by decide +kernel⟩ (by decide +kernel) (lev_ok g_X2_isTrueIn (by decide)) ⟨Nat.zero_le _, Nat.zero_le _⟩ dX3_loopEnds_18,
  sq_if_ne X (by decide) dX3_loopEnds_21,
  sq_iconst X (by decide) dX3_loopEnds_24,
  sq_zret X hr dX3_loopEnds_25,
  sq_aload_n X rfl dX3_loopEnds_26,
  sq_iload_n X rfl dX3_loopEnds_27,
  sq_cv X h_X3_ends ⟨_, _, rfl⟩ cw_X3_22 ⟨rfl, by decide, by decide, by decide +kernel⟩ (by decide +kernel) (lev_ok g_X3_ends (by decide)) ⟨Nat.zero_le _, Nat.zero_le _⟩ dX3_loopEnds_28,
  sq_if_ne X (by decide) dX3_loopEnds_31,
  sq_iconst X (by decide) dX3_loopEnds_34,
  sq_zret X hr dX3_loopEnds_35,
  sq_iinc X (by decide) (by decide) dX3_loopEnds_36,
  sq_goto X (by decide) dX3_loopEnds_39,
  sq_iconst X (by decide) dX3_loopEnds_42,
  sq_zret X hr dX3_loopEnds_43, trivial⟩
def tb_X0_has (Φ : Post) : List (Nat × Tr) := [
  (0, tq_ild 1 1),
  (1, tq_if_lt 16 4),
  (4, tq_ild 1 5),
  (5, tq_ald 0 6),
  (6, tq_gf 0 3 9),
  (9, tq_ic_ge 16 12),
  (12, tq_push 1 13),
  (13, tq_goto 17),
  (16, tq_push 0 17),
  (17, tq_zret Φ)]
set_option maxRecDepth 100000 in
theorem tk_X0_has {p : Program} {l : Launch} {e : Env} {s s0 : State} {a0 : Array Value} {m : MethodId} {args : Array Value} {below : List Frame} {meth : Method} {c : Code} {D : va_G} {ad : Nat → Nat → Nat} {cA : Nat → ClassId} {A : Nat → Prop} {lv : Nat} {Φ : Post} (X : Cx p l s0 a0 s m args meth c cX0_has 2 RX0 D ad cA A) (hr : meth.sig.returnType = (some .boolean)) : tabOK (K p l e (rmL lv) s m args below meth c D ad cA A 2 0 0 (MQ below (QcW Φ D ad cA A) args s 0 0 A)) (tb_X0_has Φ) :=
  ⟨sq_iload_n X rfl dX0_has_0,
  sq_if_lt X (by decide) dX0_has_1,
  sq_iload_n X rfl dX0_has_4,
  sq_aload_n X rfl dX0_has_5,
  sq_gf X (ci := 0) rfl inX0 gdX0 (by decide) fl_X0_21 dX0_has_6,
  sq_ic_ge X (by decide) dX0_has_9,
  sq_iconst X (by decide) dX0_has_12,
  sq_goto X (by decide) dX0_has_13,
  sq_iconst X (by decide) dX0_has_16,
  sq_zret X hr dX0_has_17, trivial⟩
def tb_X0_howManyOf (Φ : Post) (S_X0_howManyOf : SpecT) : List (Nat × Tr) := [
  (0, tq_ald 0 1),
  (1, tq_gf 0 0 4),
  (4, tq_gf 2 2 7),
  (7, tq_ild 1 8),
  (8, tq_iald 9),
  (9, tq_ist 2 10),
  (10, tq_ald 0 11),
  (11, tq_gf 0 0 14),
  (14, tq_gf 2 3 17),
  (17, tq_ild 1 18),
  (18, tq_iald 19),
  (19, tq_ist 3 20),
  (20, tq_ald 0 21),
  (21, tq_gf 0 0 24),
  (24, tq_gf 2 0 27),
  (27, tq_ild 1 28),
  (28, tq_iald 29),
  (29, tq_sw 96 [(13, 56), (14, 76), (15, 88)]),
  (56, tq_ald 0 57),
  (57, tq_ald 0 58),
  (58, tq_gf 0 0 61),
  (61, tq_gf 2 1 64),
  (64, tq_ild 1 65),
  (65, tq_iald 66),
  (66, tq_cv 0 2 S_X0_howManyOf 69),
  (69, tq_ald 0 70),
  (70, tq_ild 2 71),
  (71, tq_cv 0 2 S_X0_howManyOf 74),
  (74, tq_iadd 75),
  (75, tq_iret Φ),
  (76, tq_ald 0 77),
  (77, tq_ild 2 78),
  (78, tq_cv 0 2 S_X0_howManyOf 81),
  (81, tq_ald 0 82),
  (82, tq_ild 3 83),
  (83, tq_cv 0 2 S_X0_howManyOf 86),
  (86, tq_iadd 87),
  (87, tq_iret Φ),
  (88, tq_push 2 89),
  (89, tq_ald 0 90),
  (90, tq_ild 3 91),
  (91, tq_cv 0 2 S_X0_howManyOf 94),
  (94, tq_iadd 95),
  (95, tq_iret Φ),
  (96, tq_push 0 97),
  (97, tq_iret Φ)]
set_option maxRecDepth 100000 in
theorem tk_X0_howManyOf {p : Program} {l : Launch} {e : Env} {s s0 : State} {a0 : Array Value} {m : MethodId} {args : Array Value} {below : List Frame} {meth : Method} {c : Code} {D : va_G} {ad : Nat → Nat → Nat} {cA : Nat → ClassId} {A : Nat → Prop} {lv : Nat} {Φ : Post} (X : Cx p l s0 a0 s m args meth c cX0_howManyOf 4 RX0 D ad cA A) (hr : meth.sig.returnType = (some .int)) {S_X0_howManyOf : SpecT} {v_X0_howManyOf : Nat} (h_X0_howManyOf : Con l yX0_howManyOf cX0_howManyOf 4 (some .int) 2 v_X0_howManyOf S_X0_howManyOf) (g_X0_howManyOf : v_X0_howManyOf + 1 ≤ lv) : tabOK (K p l e (rmL lv) s m args below meth c D ad cA A 4 0 0 (MQ below (QcW Φ D ad cA A) args s 0 0 A)) (tb_X0_howManyOf Φ S_X0_howManyOf) :=
  ⟨sq_aload_n X rfl dX0_howManyOf_0,
  sq_gf X (ci := 0) rfl inX0 gdX0 (by decide) fl_X0_25 dX0_howManyOf_1,
  sq_gf X (ci := 2) rfl inX2 gdX2 (by decide) fl_X0_30 dX0_howManyOf_4,
  sq_iload_n X rfl dX0_howManyOf_7,
  sq_iald X dX0_howManyOf_8,
  sq_istore_n X rfl (by decide) dX0_howManyOf_9,
  sq_aload_n X rfl dX0_howManyOf_10,
  sq_gf X (ci := 0) rfl inX0 gdX0 (by decide) fl_X0_25 dX0_howManyOf_11,
  sq_gf X (ci := 2) rfl inX2 gdX2 (by decide) fl_X0_35 dX0_howManyOf_14,
  sq_iload_n X rfl dX0_howManyOf_17,
  sq_iald X dX0_howManyOf_18,
  sq_istore_n X rfl (by decide) dX0_howManyOf_19,
  sq_aload_n X rfl dX0_howManyOf_20,
  sq_gf X (ci := 0) rfl inX0 gdX0 (by decide) fl_X0_25 dX0_howManyOf_21,
  sq_gf X (ci := 2) rfl inX2 gdX2 (by decide) fl_X0_38 dX0_howManyOf_24,
  sq_iload_n X rfl dX0_howManyOf_27,
  sq_iald X dX0_howManyOf_28,
  sq_sw X (by decide) rfl (by decide) (by decide) dX0_howManyOf_29,
  sq_aload_n X rfl dX0_howManyOf_56,
  sq_aload_n X rfl dX0_howManyOf_57,
  sq_gf X (ci := 0) rfl inX0 gdX0 (by decide) fl_X0_25 dX0_howManyOf_58,
  sq_gf X (ci := 2) rfl inX2 gdX2 (by decide) fl_X0_41 dX0_howManyOf_61,
  sq_iload_n X rfl dX0_howManyOf_64,
  sq_iald X dX0_howManyOf_65,
  sq_cv X h_X0_howManyOf ⟨_, _, rfl⟩ cw_X0_44 ⟨rfl, by decide, by decide, by decide +kernel⟩ (by decide +kernel) (lev_ok g_X0_howManyOf (by decide)) ⟨Nat.zero_le _, Nat.zero_le _⟩ dX0_howManyOf_66,
  sq_aload_n X rfl dX0_howManyOf_69,
  sq_iload_n X rfl dX0_howManyOf_70,
  sq_cv X h_X0_howManyOf ⟨_, _, rfl⟩ cw_X0_44 ⟨rfl, by decide, by decide, by decide +kernel⟩ (by decide +kernel) (lev_ok g_X0_howManyOf (by decide)) ⟨Nat.zero_le _, Nat.zero_le _⟩ dX0_howManyOf_71,
  sq_iadd X dX0_howManyOf_74,
  sq_iret X hr dX0_howManyOf_75,
  sq_aload_n X rfl dX0_howManyOf_76,
  sq_iload_n X rfl dX0_howManyOf_77,
  sq_cv X h_X0_howManyOf ⟨_, _, rfl⟩ cw_X0_44 ⟨rfl, by decide, by decide, by decide +kernel⟩ (by decide +kernel) (lev_ok g_X0_howManyOf (by decide)) ⟨Nat.zero_le _, Nat.zero_le _⟩ dX0_howManyOf_78,
  sq_aload_n X rfl dX0_howManyOf_81,
  sq_iload_n X rfl dX0_howManyOf_82,
  sq_cv X h_X0_howManyOf ⟨_, _, rfl⟩ cw_X0_44 ⟨rfl, by decide, by decide, by decide +kernel⟩ (by decide +kernel) (lev_ok g_X0_howManyOf (by decide)) ⟨Nat.zero_le _, Nat.zero_le _⟩ dX0_howManyOf_83,
  sq_iadd X dX0_howManyOf_86,
  sq_iret X hr dX0_howManyOf_87,
  sq_iconst X (by decide) dX0_howManyOf_88,
  sq_aload_n X rfl dX0_howManyOf_89,
  sq_iload_n X rfl dX0_howManyOf_90,
  sq_cv X h_X0_howManyOf ⟨_, _, rfl⟩ cw_X0_44 ⟨rfl, by decide, by decide, by decide +kernel⟩ (by decide +kernel) (lev_ok g_X0_howManyOf (by decide)) ⟨Nat.zero_le _, Nat.zero_le _⟩ dX0_howManyOf_91,
  sq_iadd X dX0_howManyOf_94,
  sq_iret X hr dX0_howManyOf_95,
  sq_iconst X (by decide) dX0_howManyOf_96,
  sq_iret X hr dX0_howManyOf_97, trivial⟩
def tb_X0_add (Φ : Post) : List (Nat × Tr) := [
  (0, tq_ald 0 1),
  (1, tq_gf 0 1 4),
  (4, tq_ald 0 5),
  (5, tq_gf 0 3 8),
  (8, tq_aald 9),
  (9, tq_ast 7 11),
  (11, tq_ald 7 13),
  (13, tq_ild 1 14),
  (14, tq_pf 1 0 17),
  (17, tq_ald 7 19),
  (19, tq_ild 2 20),
  (20, tq_pf 1 1 23),
  (23, tq_ald 7 25),
  (25, tq_ild 3 26),
  (26, tq_pz 1 2 29),
  (29, tq_ald 7 31),
  (31, tq_ild 5 33),
  (33, tq_ild 4 35),
  (35, tq_isub 36),
  (36, tq_pf 1 4 39),
  (39, tq_ald 0 40),
  (40, tq_gf 0 2 43),
  (43, tq_ild 4 45),
  (45, tq_ald 7 47),
  (47, tq_gf 1 3 50),
  (50, tq_push 0 51),
  (51, tq_ild 5 53),
  (53, tq_ild 4 55),
  (55, tq_isub 56),
  (56, tq_cpy 59),
  (59, tq_ald 7 61),
  (61, tq_ild 6 63),
  (63, tq_pf 1 5 66),
  (66, tq_ald 0 67),
  (67, tq_dup 68),
  (68, tq_gf 0 3 71),
  (71, tq_push 1 72),
  (72, tq_iadd 73),
  (73, tq_pf 0 3 76),
  (76, tq_vret Φ)]
set_option maxRecDepth 100000 in
theorem tk_X0_add {p : Program} {l : Launch} {e : Env} {s s0 : State} {a0 : Array Value} {m : MethodId} {args : Array Value} {below : List Frame} {meth : Method} {c : Code} {D : va_G} {ad : Nat → Nat → Nat} {cA : Nat → ClassId} {A : Nat → Prop} {lv : Nat} {Φ : Post} (X : Cx p l s0 a0 s m args meth c cX0_add 8 RX0 D ad cA A) (hr : meth.sig.returnType = none) (g_one : 1 ≤ lv) (g_cpy : 8 + (nativeFrameWords "java/lang/System" "arraycopy" 5 + 11) ≤ 60 * lv) : tabOK (K p l e (rmL lv) s m args below meth c D ad cA A 8 0 0 (MQ below (QcW Φ D ad cA A) args s 0 0 A)) (tb_X0_add Φ) :=
  ⟨sq_aload_n X rfl dX0_add_0,
  sq_gf X (ci := 0) rfl inX0 gdX0 (by decide) fl_X0_11 dX0_add_1,
  sq_aload_n X rfl dX0_add_4,
  sq_gf X (ci := 0) rfl inX0 gdX0 (by decide) fl_X0_21 dX0_add_5,
  sq_aald X dX0_add_8,
  sq_astore X (by decide) dX0_add_9,
  sq_aload X dX0_add_11,
  sq_iload_n X rfl dX0_add_13,
  sq_pf X (ci := 1) rfl inX1 gdX1 tyX1 tyX1_ok nmX1 (by decide) fl_X0_56 rfl rfl dX0_add_14,
  sq_aload X dX0_add_17,
  sq_iload_n X rfl dX0_add_19,
  sq_pf X (ci := 1) rfl inX1 gdX1 tyX1 tyX1_ok nmX1 (by decide) fl_X0_59 rfl rfl dX0_add_20,
  sq_aload X dX0_add_23,
  sq_iload_n X rfl dX0_add_25,
  sq_pz X (ci := 1) rfl inX1 gdX1 tyX1 tyX1_ok nmX1 (by decide) fl_X0_62 rfl rfl dX0_add_26,
  sq_aload X dX0_add_29,
  sq_iload X dX0_add_31,
  sq_iload X dX0_add_33,
  sq_isub X dX0_add_35,
  sq_pf X (ci := 1) rfl inX1 gdX1 tyX1 tyX1_ok nmX1 (by decide) fl_X0_66 rfl rfl dX0_add_36,
  sq_aload_n X rfl dX0_add_39,
  sq_gf X (ci := 0) rfl inX0 gdX0 (by decide) fl_X0_17 dX0_add_40,
  sq_iload X dX0_add_43,
  sq_aload X dX0_add_45,
  sq_gf X (ci := 1) rfl inX1 gdX1 (by decide) fl_X0_69 dX0_add_47,
  sq_iconst X (by decide) dX0_add_50,
  sq_iload X dX0_add_51,
  sq_iload X dX0_add_53,
  sq_isub X dX0_add_55,
  sq_cpy X ac_X0_72.1 ac_X0_72.2.1 ac_X0_72.2.2.1 ac_X0_72.2.2.2 ⟨g_one, g_cpy⟩ dX0_add_56,
  sq_aload X dX0_add_59,
  sq_iload X dX0_add_61,
  sq_pf X (ci := 1) rfl inX1 gdX1 tyX1 tyX1_ok nmX1 (by decide) fl_X0_78 rfl rfl dX0_add_63,
  sq_aload_n X rfl dX0_add_66,
  sq_dup X dX0_add_67,
  sq_gf X (ci := 0) rfl inX0 gdX0 (by decide) fl_X0_21 dX0_add_68,
  sq_iconst X (by decide) dX0_add_71,
  sq_iadd X dX0_add_72,
  sq_pf X (ci := 0) rfl inX0 gdX0 tyX0 tyX0_ok nmX0 (by decide) fl_X0_21 rfl rfl dX0_add_73,
  sq_vret X hr dX0_add_76, trivial⟩
def tb_X0_replaceBy (Φ : Post) (S_X0_add S_X0_gather : SpecT) : List (Nat × Tr) := [
  (0, tq_ald 0 1),
  (1, tq_push 0 2),
  (2, tq_pf 0 3 5),
  (5, tq_ald 0 6),
  (6, tq_gf 0 2 9),
  (9, tq_push 0 10),
  (10, tq_ild 2 11),
  (11, tq_iast 12),
  (12, tq_ald 0 13),
  (13, tq_ild 1 14),
  (14, tq_push (-1) 15),
  (15, tq_push 0 16),
  (16, tq_push 0 17),
  (17, tq_push 1 18),
  (18, tq_ild 3 19),
  (19, tq_cv 0 7 S_X0_add 22),
  (22, tq_ald 0 23),
  (23, tq_ild 2 24),
  (24, tq_push 0 25),
  (25, tq_push 0 26),
  (26, tq_ild 3 27),
  (27, tq_cv 0 5 S_X0_gather 30),
  (30, tq_vret Φ)]
set_option maxRecDepth 100000 in
theorem tk_X0_replaceBy {p : Program} {l : Launch} {e : Env} {s s0 : State} {a0 : Array Value} {m : MethodId} {args : Array Value} {below : List Frame} {meth : Method} {c : Code} {D : va_G} {ad : Nat → Nat → Nat} {cA : Nat → ClassId} {A : Nat → Prop} {lv : Nat} {Φ : Post} (X : Cx p l s0 a0 s m args meth c cX0_replaceBy 4 RX0 D ad cA A) (hr : meth.sig.returnType = none) {S_X0_add : SpecT} {v_X0_add : Nat} (h_X0_add : Con l yX0_add cX0_add 8 none 7 v_X0_add S_X0_add) (g_X0_add : v_X0_add + 1 ≤ lv) {S_X0_gather : SpecT} {v_X0_gather : Nat} (h_X0_gather : Con l yX0_gather cX0_gather 8 none 5 v_X0_gather S_X0_gather) (g_X0_gather : v_X0_gather + 1 ≤ lv) : tabOK (K p l e (rmL lv) s m args below meth c D ad cA A 4 0 0 (MQ below (QcW Φ D ad cA A) args s 0 0 A)) (tb_X0_replaceBy Φ S_X0_add S_X0_gather) :=
  ⟨sq_aload_n X rfl dX0_replaceBy_0,
  sq_iconst X (by decide) dX0_replaceBy_1,
  sq_pf X (ci := 0) rfl inX0 gdX0 tyX0 tyX0_ok nmX0 (by decide) fl_X0_21 rfl rfl dX0_replaceBy_2,
  sq_aload_n X rfl dX0_replaceBy_5,
  sq_gf X (ci := 0) rfl inX0 gdX0 (by decide) fl_X0_17 dX0_replaceBy_6,
  sq_iconst X (by decide) dX0_replaceBy_9,
  sq_iload_n X rfl dX0_replaceBy_10,
  sq_iast X dX0_replaceBy_11,
  sq_aload_n X rfl dX0_replaceBy_12,
  sq_iload_n X rfl dX0_replaceBy_13,
  sq_iconst X (by decide) dX0_replaceBy_14,
  sq_iconst X (by decide) dX0_replaceBy_15,
  sq_iconst X (by decide) dX0_replaceBy_16,
  sq_iconst X (by decide) dX0_replaceBy_17,
  sq_iload_n X rfl dX0_replaceBy_18,
  sq_cv X h_X0_add ⟨_, _, rfl⟩ cw_X0_48 ⟨rfl, by decide, by decide, by decide +kernel⟩ (by decide +kernel) (lev_ok g_X0_add (by decide)) ⟨Nat.zero_le _, Nat.zero_le _⟩ dX0_replaceBy_19,
  sq_aload_n X rfl dX0_replaceBy_22,
  sq_iload_n X rfl dX0_replaceBy_23,
  sq_iconst X (by decide) dX0_replaceBy_24,
  sq_iconst X (by decide) dX0_replaceBy_25,
  sq_iload_n X rfl dX0_replaceBy_26,
  sq_cv X h_X0_gather ⟨_, _, rfl⟩ cw_X0_52 ⟨rfl, by decide, by decide, by decide +kernel⟩ (by decide +kernel) (lev_ok g_X0_gather (by decide)) ⟨Nat.zero_le _, Nat.zero_le _⟩ dX0_replaceBy_27,
  sq_vret X hr dX0_replaceBy_30, trivial⟩
def tb_X0_gather (Φ : Post) (S_X0_gather S_X0_add : SpecT) : List (Nat × Tr) := [
  (0, tq_ald 0 1),
  (1, tq_gf 0 0 4),
  (4, tq_gf 2 1 7),
  (7, tq_ild 1 8),
  (8, tq_iald 9),
  (9, tq_ist 5 11),
  (11, tq_ald 0 12),
  (12, tq_gf 0 0 15),
  (15, tq_gf 2 2 18),
  (18, tq_ild 1 19),
  (19, tq_iald 20),
  (20, tq_ist 6 22),
  (22, tq_ald 0 23),
  (23, tq_gf 0 0 26),
  (26, tq_gf 2 3 29),
  (29, tq_ild 1 30),
  (30, tq_iald 31),
  (31, tq_ist 7 33),
  (33, tq_ald 0 34),
  (34, tq_gf 0 0 37),
  (37, tq_gf 2 0 40),
  (40, tq_ild 1 41),
  (41, tq_iald 42),
  (42, tq_sw 173 [(13, 68), (14, 101), (15, 124)]),
  (68, tq_ald 0 69),
  (69, tq_gf 0 2 72),
  (72, tq_ild 3 73),
  (73, tq_ild 6 75),
  (75, tq_iast 76),
  (76, tq_ald 0 77),
  (77, tq_ild 5 79),
  (79, tq_ild 2 80),
  (80, tq_ild 3 81),
  (81, tq_push 1 82),
  (82, tq_iadd 83),
  (83, tq_ild 4 85),
  (85, tq_cv 0 5 S_X0_gather 88),
  (88, tq_ald 0 89),
  (89, tq_ild 6 91),
  (91, tq_ild 2 92),
  (92, tq_ild 3 93),
  (93, tq_ild 4 95),
  (95, tq_cv 0 5 S_X0_gather 98),
  (98, tq_goto 173),
  (101, tq_ald 0 102),
  (102, tq_ild 6 104),
  (104, tq_ild 2 105),
  (105, tq_ild 3 106),
  (106, tq_ild 4 108),
  (108, tq_cv 0 5 S_X0_gather 111),
  (111, tq_ald 0 112),
  (112, tq_ild 7 114),
  (114, tq_ild 2 115),
  (115, tq_ild 3 116),
  (116, tq_ild 4 118),
  (118, tq_cv 0 5 S_X0_gather 121),
  (121, tq_goto 173),
  (124, tq_ald 0 125),
  (125, tq_gf 0 2 128),
  (128, tq_ild 3 129),
  (129, tq_ild 7 131),
  (131, tq_iast 132),
  (132, tq_ald 0 133),
  (133, tq_ild 6 135),
  (135, tq_ild 5 137),
  (137, tq_push 1 138),
  (138, tq_ild 3 139),
  (139, tq_ild 3 140),
  (140, tq_push 1 141),
  (141, tq_iadd 142),
  (142, tq_ild 6 144),
  (144, tq_cv 0 7 S_X0_add 147),
  (147, tq_ald 0 148),
  (148, tq_ild 6 150),
  (150, tq_ild 5 152),
  (152, tq_push 0 153),
  (153, tq_ild 2 154),
  (154, tq_ild 3 155),
  (155, tq_ild 4 157),
  (157, tq_cv 0 7 S_X0_add 160),
  (160, tq_ald 0 161),
  (161, tq_ild 7 163),
  (163, tq_ild 3 164),
  (164, tq_ild 3 165),
  (165, tq_ild 6 167),
  (167, tq_cv 0 5 S_X0_gather 170),
  (170, tq_goto 173),
  (173, tq_vret Φ)]
set_option maxRecDepth 100000 in
theorem tk_X0_gather {p : Program} {l : Launch} {e : Env} {s s0 : State} {a0 : Array Value} {m : MethodId} {args : Array Value} {below : List Frame} {meth : Method} {c : Code} {D : va_G} {ad : Nat → Nat → Nat} {cA : Nat → ClassId} {A : Nat → Prop} {lv : Nat} {Φ : Post} (X : Cx p l s0 a0 s m args meth c cX0_gather 8 RX0 D ad cA A) (hr : meth.sig.returnType = none) {S_X0_gather : SpecT} {v_X0_gather : Nat} (h_X0_gather : Con l yX0_gather cX0_gather 8 none 5 v_X0_gather S_X0_gather) (g_X0_gather : v_X0_gather + 1 ≤ lv) {S_X0_add : SpecT} {v_X0_add : Nat} (h_X0_add : Con l yX0_add cX0_add 8 none 7 v_X0_add S_X0_add) (g_X0_add : v_X0_add + 1 ≤ lv) : tabOK (K p l e (rmL lv) s m args below meth c D ad cA A 8 0 0 (MQ below (QcW Φ D ad cA A) args s 0 0 A)) (tb_X0_gather Φ S_X0_gather S_X0_add) :=
  ⟨sq_aload_n X rfl dX0_gather_0,
  sq_gf X (ci := 0) rfl inX0 gdX0 (by decide) fl_X0_25 dX0_gather_1,
  sq_gf X (ci := 2) rfl inX2 gdX2 (by decide) fl_X0_41 dX0_gather_4,
  sq_iload_n X rfl dX0_gather_7,
  sq_iald X dX0_gather_8,
  sq_istore X (by decide) dX0_gather_9,
  sq_aload_n X rfl dX0_gather_11,
  sq_gf X (ci := 0) rfl inX0 gdX0 (by decide) fl_X0_25 dX0_gather_12,
  sq_gf X (ci := 2) rfl inX2 gdX2 (by decide) fl_X0_30 dX0_gather_15,
  sq_iload_n X rfl dX0_gather_18,
  sq_iald X dX0_gather_19,
  sq_istore X (by decide) dX0_gather_20,
  sq_aload_n X rfl dX0_gather_22,
  sq_gf X (ci := 0) rfl inX0 gdX0 (by decide) fl_X0_25 dX0_gather_23,
  sq_gf X (ci := 2) rfl inX2 gdX2 (by decide) fl_X0_35 dX0_gather_26,
  sq_iload_n X rfl dX0_gather_29,
  sq_iald X dX0_gather_30,
  sq_istore X (by decide) dX0_gather_31,
  sq_aload_n X rfl dX0_gather_33,
  sq_gf X (ci := 0) rfl inX0 gdX0 (by decide) fl_X0_25 dX0_gather_34,
  sq_gf X (ci := 2) rfl inX2 gdX2 (by decide) fl_X0_38 dX0_gather_37,
  sq_iload_n X rfl dX0_gather_40,
  sq_iald X dX0_gather_41,
  sq_sw X (by decide) rfl (by decide) (by decide) dX0_gather_42,
  sq_aload_n X rfl dX0_gather_68,
  sq_gf X (ci := 0) rfl inX0 gdX0 (by decide) fl_X0_17 dX0_gather_69,
  sq_iload_n X rfl dX0_gather_72,
  sq_iload X dX0_gather_73,
  sq_iast X dX0_gather_75,
  sq_aload_n X rfl dX0_gather_76,
  sq_iload X dX0_gather_77,
  sq_iload_n X rfl dX0_gather_79,
  sq_iload_n X rfl dX0_gather_80,
  sq_iconst X (by decide) dX0_gather_81,
  sq_iadd X dX0_gather_82,
  sq_iload X dX0_gather_83,
  sq_cv X h_X0_gather ⟨_, _, rfl⟩ cw_X0_52 ⟨rfl, by decide, by decide, by decide +kernel⟩ (by decide +kernel) (lev_ok g_X0_gather (by decide)) ⟨Nat.zero_le _, Nat.zero_le _⟩ dX0_gather_85,
  sq_aload_n X rfl dX0_gather_88,
  sq_iload X dX0_gather_89,
  sq_iload_n X rfl dX0_gather_91,
  sq_iload_n X rfl dX0_gather_92,
  sq_iload X dX0_gather_93,
  sq_cv X h_X0_gather ⟨_, _, rfl⟩ cw_X0_52 ⟨rfl, by decide, by decide, by decide +kernel⟩ (by decide +kernel) (lev_ok g_X0_gather (by decide)) ⟨Nat.zero_le _, Nat.zero_le _⟩ dX0_gather_95,
  sq_goto X (by decide) dX0_gather_98,
  sq_aload_n X rfl dX0_gather_101,
  sq_iload X dX0_gather_102,
  sq_iload_n X rfl dX0_gather_104,
  sq_iload_n X rfl dX0_gather_105,
  sq_iload X dX0_gather_106,
  sq_cv X h_X0_gather ⟨_, _, rfl⟩ cw_X0_52 ⟨rfl, by decide, by decide, by decide +kernel⟩ (by decide +kernel) (lev_ok g_X0_gather (by decide)) ⟨Nat.zero_le _, Nat.zero_le _⟩ dX0_gather_108,
  sq_aload_n X rfl dX0_gather_111,
  sq_iload X dX0_gather_112,
  sq_iload_n X rfl dX0_gather_114,
  sq_iload_n X rfl dX0_gather_115,
  sq_iload X dX0_gather_116,
  sq_cv X h_X0_gather ⟨_, _, rfl⟩ cw_X0_52 ⟨rfl, by decide, by decide, by decide +kernel⟩ (by decide +kernel) (lev_ok g_X0_gather (by decide)) ⟨Nat.zero_le _, Nat.zero_le _⟩ dX0_gather_118,
  sq_goto X (by decide) dX0_gather_121,
  sq_aload_n X rfl dX0_gather_124,
  sq_gf X (ci := 0) rfl inX0 gdX0 (by decide) fl_X0_17 dX0_gather_125,
  sq_iload_n X rfl dX0_gather_128,
  sq_iload X dX0_gather_129,
  sq_iast X dX0_gather_131,
  sq_aload_n X rfl dX0_gather_132,
  sq_iload X dX0_gather_133,
  sq_iload X dX0_gather_135,
  sq_iconst X (by decide) dX0_gather_137,
  sq_iload_n X rfl dX0_gather_138,
  sq_iload_n X rfl dX0_gather_139,
  sq_iconst X (by decide) dX0_gather_140,
  sq_iadd X dX0_gather_141,
  sq_iload X dX0_gather_142,
  sq_cv X h_X0_add ⟨_, _, rfl⟩ cw_X0_48 ⟨rfl, by decide, by decide, by decide +kernel⟩ (by decide +kernel) (lev_ok g_X0_add (by decide)) ⟨Nat.zero_le _, Nat.zero_le _⟩ dX0_gather_144,
  sq_aload_n X rfl dX0_gather_147,
  sq_iload X dX0_gather_148,
  sq_iload X dX0_gather_150,
  sq_iconst X (by decide) dX0_gather_152,
  sq_iload_n X rfl dX0_gather_153,
  sq_iload_n X rfl dX0_gather_154,
  sq_iload X dX0_gather_155,
  sq_cv X h_X0_add ⟨_, _, rfl⟩ cw_X0_48 ⟨rfl, by decide, by decide, by decide +kernel⟩ (by decide +kernel) (lev_ok g_X0_add (by decide)) ⟨Nat.zero_le _, Nat.zero_le _⟩ dX0_gather_157,
  sq_aload_n X rfl dX0_gather_160,
  sq_iload X dX0_gather_161,
  sq_iload_n X rfl dX0_gather_163,
  sq_iload_n X rfl dX0_gather_164,
  sq_iload X dX0_gather_165,
  sq_cv X h_X0_gather ⟨_, _, rfl⟩ cw_X0_52 ⟨rfl, by decide, by decide, by decide +kernel⟩ (by decide +kernel) (lev_ok g_X0_gather (by decide)) ⟨Nat.zero_le _, Nat.zero_le _⟩ dX0_gather_167,
  sq_goto X (by decide) dX0_gather_170,
  sq_vret X hr dX0_gather_173, trivial⟩
def tb_X0_isKeptIn (Φ : Post) (S_X2_isTrueIn S_X0_goalHoldsBehindPath : SpecT) : List (Nat × Tr) := [
  (0, tq_ald 0 1),
  (1, tq_gf 0 1 4),
  (4, tq_ild 1 5),
  (5, tq_aald 6),
  (6, tq_ast 3 7),
  (7, tq_ald 0 8),
  (8, tq_gf 0 0 11),
  (11, tq_ald 3 12),
  (12, tq_gf 1 0 15),
  (15, tq_ild 2 16),
  (16, tq_cv 2 3 S_X2_isTrueIn 19),
  (19, tq_if_ne 24 22),
  (22, tq_push 1 23),
  (23, tq_zret Φ),
  (24, tq_ald 3 25),
  (25, tq_gf 1 1 28),
  (28, tq_push (-1) 29),
  (29, tq_ic_eq 53 32),
  (32, tq_ald 0 33),
  (33, tq_gf 0 0 36),
  (36, tq_ald 3 37),
  (37, tq_gf 1 1 40),
  (40, tq_ild 2 41),
  (41, tq_cv 2 3 S_X2_isTrueIn 44),
  (44, tq_ald 3 45),
  (45, tq_gf 1 2 48),
  (48, tq_ic_eq 53 51),
  (51, tq_push 1 52),
  (52, tq_zret Φ),
  (53, tq_ald 0 54),
  (54, tq_ald 3 55),
  (55, tq_ild 2 56),
  (56, tq_cv 0 3 S_X0_goalHoldsBehindPath 59),
  (59, tq_zret Φ)]
set_option maxRecDepth 100000 in
theorem tk_X0_isKeptIn {p : Program} {l : Launch} {e : Env} {s s0 : State} {a0 : Array Value} {m : MethodId} {args : Array Value} {below : List Frame} {meth : Method} {c : Code} {D : va_G} {ad : Nat → Nat → Nat} {cA : Nat → ClassId} {A : Nat → Prop} {lv : Nat} {Φ : Post} (X : Cx p l s0 a0 s m args meth c cX0_isKeptIn 4 RX0 D ad cA A) (hr : meth.sig.returnType = (some .boolean)) {S_X2_isTrueIn : SpecT} {v_X2_isTrueIn : Nat} (h_X2_isTrueIn : Con l yX2_isTrueIn cX2_isTrueIn 5 (some .boolean) 3 v_X2_isTrueIn S_X2_isTrueIn) (g_X2_isTrueIn : v_X2_isTrueIn + 1 ≤ lv) {S_X0_goalHoldsBehindPath : SpecT} {v_X0_goalHoldsBehindPath : Nat} (h_X0_goalHoldsBehindPath : Con l yX0_goalHoldsBehindPath cX0_goalHoldsBehindPath 5 (some .boolean) 3 v_X0_goalHoldsBehindPath S_X0_goalHoldsBehindPath) (g_X0_goalHoldsBehindPath : v_X0_goalHoldsBehindPath + 1 ≤ lv) : tabOK (K p l e (rmL lv) s m args below meth c D ad cA A 4 0 0 (MQ below (QcW Φ D ad cA A) args s 0 0 A)) (tb_X0_isKeptIn Φ S_X2_isTrueIn S_X0_goalHoldsBehindPath) :=
  ⟨sq_aload_n X rfl dX0_isKeptIn_0,
  sq_gf X (ci := 0) rfl inX0 gdX0 (by decide) fl_X0_11 dX0_isKeptIn_1,
  sq_iload_n X rfl dX0_isKeptIn_4,
  sq_aald X dX0_isKeptIn_5,
  sq_astore_n X rfl (by decide) dX0_isKeptIn_6,
  sq_aload_n X rfl dX0_isKeptIn_7,
  sq_gf X (ci := 0) rfl inX0 gdX0 (by decide) fl_X0_25 dX0_isKeptIn_8,
  sq_aload_n X rfl dX0_isKeptIn_11,
  sq_gf X (ci := 1) rfl inX1 gdX1 (by decide) fl_X0_56 dX0_isKeptIn_12,
  sq_iload_n X rfl dX0_isKeptIn_15,
  sq_cv X h_X2_isTrueIn ⟨_, _, rfl⟩ cw_X0_81 ⟨rfl, by decide, by decide, by decide +kernel⟩ (by decide +kernel) (lev_ok g_X2_isTrueIn (by decide)) ⟨Nat.zero_le _, Nat.zero_le _⟩ dX0_isKeptIn_16,
  sq_if_ne X (by decide) dX0_isKeptIn_19,
  sq_iconst X (by decide) dX0_isKeptIn_22,
  sq_zret X hr dX0_isKeptIn_23,
  sq_aload_n X rfl dX0_isKeptIn_24,
  sq_gf X (ci := 1) rfl inX1 gdX1 (by decide) fl_X0_59 dX0_isKeptIn_25,
  sq_iconst X (by decide) dX0_isKeptIn_28,
  sq_ic_eq X (by decide) dX0_isKeptIn_29,
  sq_aload_n X rfl dX0_isKeptIn_32,
  sq_gf X (ci := 0) rfl inX0 gdX0 (by decide) fl_X0_25 dX0_isKeptIn_33,
  sq_aload_n X rfl dX0_isKeptIn_36,
  sq_gf X (ci := 1) rfl inX1 gdX1 (by decide) fl_X0_59 dX0_isKeptIn_37,
  sq_iload_n X rfl dX0_isKeptIn_40,
  sq_cv X h_X2_isTrueIn ⟨_, _, rfl⟩ cw_X0_81 ⟨rfl, by decide, by decide, by decide +kernel⟩ (by decide +kernel) (lev_ok g_X2_isTrueIn (by decide)) ⟨Nat.zero_le _, Nat.zero_le _⟩ dX0_isKeptIn_41,
  sq_aload_n X rfl dX0_isKeptIn_44,
  sq_gf X (ci := 1) rfl inX1 gdX1 (by decide) fl_X0_62 dX0_isKeptIn_45,
  sq_ic_eq X (by decide) dX0_isKeptIn_48,
  sq_iconst X (by decide) dX0_isKeptIn_51,
  sq_zret X hr dX0_isKeptIn_52,
  sq_aload_n X rfl dX0_isKeptIn_53,
  sq_aload_n X rfl dX0_isKeptIn_54,
  sq_iload_n X rfl dX0_isKeptIn_55,
  sq_cv X h_X0_goalHoldsBehindPath ⟨_, _, rfl⟩ cw_X0_85 ⟨rfl, by decide, by decide, by decide +kernel⟩ (by decide +kernel) (lev_ok g_X0_goalHoldsBehindPath (by decide)) ⟨Nat.zero_le _, Nat.zero_le _⟩ dX0_isKeptIn_56,
  sq_zret X hr dX0_isKeptIn_59, trivial⟩
def tb_X0_goalHoldsBehindPath (Φ : Post) (S_X0_follow S_X2_isTrueIn : SpecT) : List (Nat × Tr) := [
  (0, tq_ild 2 1),
  (1, tq_ist 3 2),
  (2, tq_ald 1 3),
  (3, tq_gf 1 4 6),
  (6, tq_push 1 7),
  (7, tq_isub 8),
  (8, tq_ist 4 10),
  (10, tq_ild 4 12),
  (12, tq_if_lt 49 15),
  (15, tq_ald 0 16),
  (16, tq_ald 1 17),
  (17, tq_gf 1 3 20),
  (20, tq_ild 4 22),
  (22, tq_iald 23),
  (23, tq_ild 3 24),
  (24, tq_cv 0 3 S_X0_follow 27),
  (27, tq_ist 3 28),
  (28, tq_ild 3 29),
  (29, tq_if_ge 43 32),
  (32, tq_ild 3 33),
  (33, tq_push (-1) 34),
  (34, tq_ic_ne 41 37),
  (37, tq_push 1 38),
  (38, tq_goto 42),
  (41, tq_push 0 42),
  (42, tq_zret Φ),
  (43, tq_iinc 4 (-1) 46),
  (46, tq_goto 10),
  (49, tq_ald 0 50),
  (50, tq_gf 0 0 53),
  (53, tq_ald 1 54),
  (54, tq_gf 1 5 57),
  (57, tq_ild 3 58),
  (58, tq_cv 2 3 S_X2_isTrueIn 61),
  (61, tq_zret Φ)]
set_option maxRecDepth 100000 in
theorem tk_X0_goalHoldsBehindPath {p : Program} {l : Launch} {e : Env} {s s0 : State} {a0 : Array Value} {m : MethodId} {args : Array Value} {below : List Frame} {meth : Method} {c : Code} {D : va_G} {ad : Nat → Nat → Nat} {cA : Nat → ClassId} {A : Nat → Prop} {lv : Nat} {Φ : Post} (X : Cx p l s0 a0 s m args meth c cX0_goalHoldsBehindPath 5 RX0 D ad cA A) (hr : meth.sig.returnType = (some .boolean)) {S_X0_follow : SpecT} {v_X0_follow : Nat} (h_X0_follow : Con l yX0_follow cX0_follow 6 (some .int) 3 v_X0_follow S_X0_follow) (g_X0_follow : v_X0_follow + 1 ≤ lv) {S_X2_isTrueIn : SpecT} {v_X2_isTrueIn : Nat} (h_X2_isTrueIn : Con l yX2_isTrueIn cX2_isTrueIn 5 (some .boolean) 3 v_X2_isTrueIn S_X2_isTrueIn) (g_X2_isTrueIn : v_X2_isTrueIn + 1 ≤ lv) : tabOK (K p l e (rmL lv) s m args below meth c D ad cA A 5 0 0 (MQ below (QcW Φ D ad cA A) args s 0 0 A)) (tb_X0_goalHoldsBehindPath Φ S_X0_follow S_X2_isTrueIn) :=
  ⟨sq_iload_n X rfl dX0_goalHoldsBehindPath_0,
  sq_istore_n X rfl (by decide) dX0_goalHoldsBehindPath_1,
  sq_aload_n X rfl dX0_goalHoldsBehindPath_2,
  sq_gf X (ci := 1) rfl inX1 gdX1 (by decide) fl_X0_66 dX0_goalHoldsBehindPath_3,
  sq_iconst X (by decide) dX0_goalHoldsBehindPath_6,
  sq_isub X dX0_goalHoldsBehindPath_7,
  sq_istore X (by decide) dX0_goalHoldsBehindPath_8,
  sq_iload X dX0_goalHoldsBehindPath_10,
  sq_if_lt X (by decide) dX0_goalHoldsBehindPath_12,
  sq_aload_n X rfl dX0_goalHoldsBehindPath_15,
  sq_aload_n X rfl dX0_goalHoldsBehindPath_16,
  sq_gf X (ci := 1) rfl inX1 gdX1 (by decide) fl_X0_69 dX0_goalHoldsBehindPath_17,
  sq_iload X dX0_goalHoldsBehindPath_20,
  sq_iald X dX0_goalHoldsBehindPath_22,
  sq_iload_n X rfl dX0_goalHoldsBehindPath_23,
  sq_cv X h_X0_follow ⟨_, _, rfl⟩ cw_X0_89 ⟨rfl, by decide, by decide, by decide +kernel⟩ (by decide +kernel) (lev_ok g_X0_follow (by decide)) ⟨Nat.zero_le _, Nat.zero_le _⟩ dX0_goalHoldsBehindPath_24,
  sq_istore_n X rfl (by decide) dX0_goalHoldsBehindPath_27,
  sq_iload_n X rfl dX0_goalHoldsBehindPath_28,
  sq_if_ge X (by decide) dX0_goalHoldsBehindPath_29,
  sq_iload_n X rfl dX0_goalHoldsBehindPath_32,
  sq_iconst X (by decide) dX0_goalHoldsBehindPath_33,
  sq_ic_ne X (by decide) dX0_goalHoldsBehindPath_34,
  sq_iconst X (by decide) dX0_goalHoldsBehindPath_37,
  sq_goto X (by decide) dX0_goalHoldsBehindPath_38,
  sq_iconst X (by decide) dX0_goalHoldsBehindPath_41,
  sq_zret X hr dX0_goalHoldsBehindPath_42,
  sq_iinc X (by decide) (by decide) dX0_goalHoldsBehindPath_43,
  sq_goto X (by decide) dX0_goalHoldsBehindPath_46,
  sq_aload_n X rfl dX0_goalHoldsBehindPath_49,
  sq_gf X (ci := 0) rfl inX0 gdX0 (by decide) fl_X0_25 dX0_goalHoldsBehindPath_50,
  sq_aload_n X rfl dX0_goalHoldsBehindPath_53,
  sq_gf X (ci := 1) rfl inX1 gdX1 (by decide) fl_X0_78 dX0_goalHoldsBehindPath_54,
  sq_iload_n X rfl dX0_goalHoldsBehindPath_57,
  sq_cv X h_X2_isTrueIn ⟨_, _, rfl⟩ cw_X0_81 ⟨rfl, by decide, by decide, by decide +kernel⟩ (by decide +kernel) (lev_ok g_X2_isTrueIn (by decide)) ⟨Nat.zero_le _, Nat.zero_le _⟩ dX0_goalHoldsBehindPath_58,
  sq_zret X hr dX0_goalHoldsBehindPath_61, trivial⟩
def tb_X0_follow (Φ : Post) (S_X2_numberIn S_X4_changedStore S_X0_follow S_X2_isTrueIn : SpecT) : List (Nat × Tr) := [
  (0, tq_ald 0 1),
  (1, tq_gf 0 0 4),
  (4, tq_gf 2 1 7),
  (7, tq_ild 1 8),
  (8, tq_iald 9),
  (9, tq_ist 3 10),
  (10, tq_ald 0 11),
  (11, tq_gf 0 0 14),
  (14, tq_gf 2 2 17),
  (17, tq_ild 1 18),
  (18, tq_iald 19),
  (19, tq_ist 4 21),
  (21, tq_ald 0 22),
  (22, tq_gf 0 0 25),
  (25, tq_gf 2 0 28),
  (28, tq_ild 1 29),
  (29, tq_iald 30),
  (30, tq_sw 137 [(11, 60), (12, 62), (13, 78), (14, 105)]),
  (60, tq_ild 2 61),
  (61, tq_iret Φ),
  (62, tq_ild 2 63),
  (63, tq_ild 3 64),
  (64, tq_ald 0 65),
  (65, tq_gf 0 0 68),
  (68, tq_ild 4 70),
  (70, tq_ild 2 71),
  (71, tq_cv 2 3 S_X2_numberIn 74),
  (74, tq_cs 3 S_X4_changedStore 77),
  (77, tq_iret Φ),
  (78, tq_ald 0 79),
  (79, tq_ild 3 80),
  (80, tq_ild 2 81),
  (81, tq_cv 0 3 S_X0_follow 84),
  (84, tq_ist 5 86),
  (86, tq_ild 5 88),
  (88, tq_if_ge 96 91),
  (91, tq_ild 5 93),
  (93, tq_goto 104),
  (96, tq_ald 0 97),
  (97, tq_ild 4 99),
  (99, tq_ild 5 101),
  (101, tq_cv 0 3 S_X0_follow 104),
  (104, tq_iret Φ),
  (105, tq_ald 0 106),
  (106, tq_ald 0 107),
  (107, tq_gf 0 0 110),
  (110, tq_ild 3 111),
  (111, tq_ild 2 112),
  (112, tq_cv 2 3 S_X2_isTrueIn 115),
  (115, tq_if_eq 123 118),
  (118, tq_ild 4 120),
  (120, tq_goto 132),
  (123, tq_ald 0 124),
  (124, tq_gf 0 0 127),
  (127, tq_gf 2 3 130),
  (130, tq_ild 1 131),
  (131, tq_iald 132),
  (132, tq_ild 2 133),
  (133, tq_cv 0 3 S_X0_follow 136),
  (136, tq_iret Φ),
  (137, tq_ald 0 138),
  (138, tq_gf 0 0 141),
  (141, tq_ild 4 143),
  (143, tq_ild 2 144),
  (144, tq_cv 2 3 S_X2_isTrueIn 147),
  (147, tq_if_eq 154 150),
  (150, tq_push (-1) 151),
  (151, tq_goto 156),
  (154, tq_push (-2) 156),
  (156, tq_iret Φ)]
set_option maxRecDepth 100000 in
theorem tk_X0_follow {p : Program} {l : Launch} {e : Env} {s s0 : State} {a0 : Array Value} {m : MethodId} {args : Array Value} {below : List Frame} {meth : Method} {c : Code} {D : va_G} {ad : Nat → Nat → Nat} {cA : Nat → ClassId} {A : Nat → Prop} {lv : Nat} {Φ : Post} (X : Cx p l s0 a0 s m args meth c cX0_follow 6 RX0 D ad cA A) (hr : meth.sig.returnType = (some .int)) {S_X2_numberIn : SpecT} {v_X2_numberIn : Nat} (h_X2_numberIn : Con l yX2_numberIn cX2_numberIn 5 (some .int) 3 v_X2_numberIn S_X2_numberIn) (g_X2_numberIn : v_X2_numberIn + 1 ≤ lv) {S_X4_changedStore : SpecT} {v_X4_changedStore : Nat} (h_X4_changedStore : Con l yX4_changedStore cX4_changedStore 4 (some .int) 3 v_X4_changedStore S_X4_changedStore) (g_X4_changedStore : v_X4_changedStore + 1 ≤ lv) {S_X0_follow : SpecT} {v_X0_follow : Nat} (h_X0_follow : Con l yX0_follow cX0_follow 6 (some .int) 3 v_X0_follow S_X0_follow) (g_X0_follow : v_X0_follow + 1 ≤ lv) {S_X2_isTrueIn : SpecT} {v_X2_isTrueIn : Nat} (h_X2_isTrueIn : Con l yX2_isTrueIn cX2_isTrueIn 5 (some .boolean) 3 v_X2_isTrueIn S_X2_isTrueIn) (g_X2_isTrueIn : v_X2_isTrueIn + 1 ≤ lv) : tabOK (K p l e (rmL lv) s m args below meth c D ad cA A 6 0 0 (MQ below (QcW Φ D ad cA A) args s 0 0 A)) (tb_X0_follow Φ S_X2_numberIn S_X4_changedStore S_X0_follow S_X2_isTrueIn) :=
  ⟨sq_aload_n X rfl dX0_follow_0,
  sq_gf X (ci := 0) rfl inX0 gdX0 (by decide) fl_X0_25 dX0_follow_1,
  sq_gf X (ci := 2) rfl inX2 gdX2 (by decide) fl_X0_41 dX0_follow_4,
  sq_iload_n X rfl dX0_follow_7,
  sq_iald X dX0_follow_8,
  sq_istore_n X rfl (by decide) dX0_follow_9,
  sq_aload_n X rfl dX0_follow_10,
  sq_gf X (ci := 0) rfl inX0 gdX0 (by decide) fl_X0_25 dX0_follow_11,
  sq_gf X (ci := 2) rfl inX2 gdX2 (by decide) fl_X0_30 dX0_follow_14,
  sq_iload_n X rfl dX0_follow_17,
  sq_iald X dX0_follow_18,
  sq_istore X (by decide) dX0_follow_19,
  sq_aload_n X rfl dX0_follow_21,
  sq_gf X (ci := 0) rfl inX0 gdX0 (by decide) fl_X0_25 dX0_follow_22,
  sq_gf X (ci := 2) rfl inX2 gdX2 (by decide) fl_X0_38 dX0_follow_25,
  sq_iload_n X rfl dX0_follow_28,
  sq_iald X dX0_follow_29,
  sq_sw X (by decide) rfl (by decide) (by decide) dX0_follow_30,
  sq_iload_n X rfl dX0_follow_60,
  sq_iret X hr dX0_follow_61,
  sq_iload_n X rfl dX0_follow_62,
  sq_iload_n X rfl dX0_follow_63,
  sq_aload_n X rfl dX0_follow_64,
  sq_gf X (ci := 0) rfl inX0 gdX0 (by decide) fl_X0_25 dX0_follow_65,
  sq_iload X dX0_follow_68,
  sq_iload_n X rfl dX0_follow_70,
  sq_cv X h_X2_numberIn ⟨_, _, rfl⟩ cw_X0_93 ⟨rfl, by decide, by decide, by decide +kernel⟩ (by decide +kernel) (lev_ok g_X2_numberIn (by decide)) ⟨Nat.zero_le _, Nat.zero_le _⟩ dX0_follow_71,
  sq_cn X h_X4_changedStore cw_X0_96n cw_X0_96 ⟨by decide, by decide, by decide +kernel⟩ (by decide +kernel) (lev_ok g_X4_changedStore (by decide)) ⟨Nat.zero_le _, Nat.zero_le _⟩ dX0_follow_74,
  sq_iret X hr dX0_follow_77,
  sq_aload_n X rfl dX0_follow_78,
  sq_iload_n X rfl dX0_follow_79,
  sq_iload_n X rfl dX0_follow_80,
  sq_cv X h_X0_follow ⟨_, _, rfl⟩ cw_X0_89 ⟨rfl, by decide, by decide, by decide +kernel⟩ (by decide +kernel) (lev_ok g_X0_follow (by decide)) ⟨Nat.zero_le _, Nat.zero_le _⟩ dX0_follow_81,
  sq_istore X (by decide) dX0_follow_84,
  sq_iload X dX0_follow_86,
  sq_if_ge X (by decide) dX0_follow_88,
  sq_iload X dX0_follow_91,
  sq_goto X (by decide) dX0_follow_93,
  sq_aload_n X rfl dX0_follow_96,
  sq_iload X dX0_follow_97,
  sq_iload X dX0_follow_99,
  sq_cv X h_X0_follow ⟨_, _, rfl⟩ cw_X0_89 ⟨rfl, by decide, by decide, by decide +kernel⟩ (by decide +kernel) (lev_ok g_X0_follow (by decide)) ⟨Nat.zero_le _, Nat.zero_le _⟩ dX0_follow_101,
  sq_iret X hr dX0_follow_104,
  sq_aload_n X rfl dX0_follow_105,
  sq_aload_n X rfl dX0_follow_106,
  sq_gf X (ci := 0) rfl inX0 gdX0 (by decide) fl_X0_25 dX0_follow_107,
  sq_iload_n X rfl dX0_follow_110,
  sq_iload_n X rfl dX0_follow_111,
  sq_cv X h_X2_isTrueIn ⟨_, _, rfl⟩ cw_X0_81 ⟨rfl, by decide, by decide, by decide +kernel⟩ (by decide +kernel) (lev_ok g_X2_isTrueIn (by decide)) ⟨Nat.zero_le _, Nat.zero_le _⟩ dX0_follow_112,
  sq_if_eq X (by decide) dX0_follow_115,
  sq_iload X dX0_follow_118,
  sq_goto X (by decide) dX0_follow_120,
  sq_aload_n X rfl dX0_follow_123,
  sq_gf X (ci := 0) rfl inX0 gdX0 (by decide) fl_X0_25 dX0_follow_124,
  sq_gf X (ci := 2) rfl inX2 gdX2 (by decide) fl_X0_35 dX0_follow_127,
  sq_iload_n X rfl dX0_follow_130,
  sq_iald X dX0_follow_131,
  sq_iload_n X rfl dX0_follow_132,
  sq_cv X h_X0_follow ⟨_, _, rfl⟩ cw_X0_89 ⟨rfl, by decide, by decide, by decide +kernel⟩ (by decide +kernel) (lev_ok g_X0_follow (by decide)) ⟨Nat.zero_le _, Nat.zero_le _⟩ dX0_follow_133,
  sq_iret X hr dX0_follow_136,
  sq_aload_n X rfl dX0_follow_137,
  sq_gf X (ci := 0) rfl inX0 gdX0 (by decide) fl_X0_25 dX0_follow_138,
  sq_iload X dX0_follow_141,
  sq_iload_n X rfl dX0_follow_143,
  sq_cv X h_X2_isTrueIn ⟨_, _, rfl⟩ cw_X0_81 ⟨rfl, by decide, by decide, by decide +kernel⟩ (by decide +kernel) (lev_ok g_X2_isTrueIn (by decide)) ⟨Nat.zero_le _, Nat.zero_le _⟩ dX0_follow_144,
  sq_if_eq X (by decide) dX0_follow_147,
  sq_iconst X (by decide) dX0_follow_150,
  sq_goto X (by decide) dX0_follow_151,
  sq_bipush X (by decide) dX0_follow_154,
  sq_iret X hr dX0_follow_156, trivial⟩
def tb_X0_leastBroken (Φ : Post) (S_X0_isKeptIn : SpecT) : List (Nat × Tr) := [
  (0, tq_push 0 1),
  (1, tq_ist 2 2),
  (2, tq_ild 2 3),
  (3, tq_push 4095 6),
  (6, tq_ic_gt 26 9),
  (9, tq_ald 0 10),
  (10, tq_ild 1 11),
  (11, tq_ild 2 12),
  (12, tq_cv 0 3 S_X0_isKeptIn 15),
  (15, tq_if_ne 20 18),
  (18, tq_ild 2 19),
  (19, tq_iret Φ),
  (20, tq_iinc 2 1 23),
  (23, tq_goto 2),
  (26, tq_push (-1) 27),
  (27, tq_iret Φ)]
set_option maxRecDepth 100000 in
theorem tk_X0_leastBroken {p : Program} {l : Launch} {e : Env} {s s0 : State} {a0 : Array Value} {m : MethodId} {args : Array Value} {below : List Frame} {meth : Method} {c : Code} {D : va_G} {ad : Nat → Nat → Nat} {cA : Nat → ClassId} {A : Nat → Prop} {lv : Nat} {Φ : Post} (X : Cx p l s0 a0 s m args meth c cX0_leastBroken 3 RX0 D ad cA A) (hr : meth.sig.returnType = (some .int)) {S_X0_isKeptIn : SpecT} {v_X0_isKeptIn : Nat} (h_X0_isKeptIn : Con l yX0_isKeptIn cX0_isKeptIn 4 (some .boolean) 3 v_X0_isKeptIn S_X0_isKeptIn) (g_X0_isKeptIn : v_X0_isKeptIn + 1 ≤ lv) : tabOK (K p l e (rmL lv) s m args below meth c D ad cA A 3 0 0 (MQ below (QcW Φ D ad cA A) args s 0 0 A)) (tb_X0_leastBroken Φ S_X0_isKeptIn) :=
  ⟨sq_iconst X (by decide) dX0_leastBroken_0,
  sq_istore_n X rfl (by decide) dX0_leastBroken_1,
  sq_iload_n X rfl dX0_leastBroken_2,
  sq_sipush X (by decide) dX0_leastBroken_3,
  sq_ic_gt X (by decide) dX0_leastBroken_6,
  sq_aload_n X rfl dX0_leastBroken_9,
  sq_iload_n X rfl dX0_leastBroken_10,
  sq_iload_n X rfl dX0_leastBroken_11,
  sq_cv X h_X0_isKeptIn ⟨_, _, rfl⟩ cw_X0_100 ⟨rfl, by decide, by decide, by decide +kernel⟩ (by decide +kernel) (lev_ok g_X0_isKeptIn (by decide)) ⟨Nat.zero_le _, Nat.zero_le _⟩ dX0_leastBroken_12,
  sq_if_ne X (by decide) dX0_leastBroken_15,
  sq_iload_n X rfl dX0_leastBroken_18,
  sq_iret X hr dX0_leastBroken_19,
  sq_iinc X (by decide) (by decide) dX0_leastBroken_20,
  sq_goto X (by decide) dX0_leastBroken_23,
  sq_iconst X (by decide) dX0_leastBroken_26,
  sq_iret X hr dX0_leastBroken_27, trivial⟩
def tb_X0_howManyBroken (Φ : Post) (S_X0_isKeptIn : SpecT) : List (Nat × Tr) := [
  (0, tq_push 0 1),
  (1, tq_ist 4 3),
  (3, tq_ild 2 4),
  (4, tq_ist 5 6),
  (6, tq_ild 5 8),
  (8, tq_ild 3 9),
  (9, tq_ic_gt 31 12),
  (12, tq_ald 0 13),
  (13, tq_ild 1 14),
  (14, tq_ild 5 16),
  (16, tq_cv 0 3 S_X0_isKeptIn 19),
  (19, tq_if_ne 25 22),
  (22, tq_iinc 4 1 25),
  (25, tq_iinc 5 1 28),
  (28, tq_goto 6),
  (31, tq_ild 4 33),
  (33, tq_iret Φ)]
set_option maxRecDepth 100000 in
theorem tk_X0_howManyBroken {p : Program} {l : Launch} {e : Env} {s s0 : State} {a0 : Array Value} {m : MethodId} {args : Array Value} {below : List Frame} {meth : Method} {c : Code} {D : va_G} {ad : Nat → Nat → Nat} {cA : Nat → ClassId} {A : Nat → Prop} {lv : Nat} {Φ : Post} (X : Cx p l s0 a0 s m args meth c cX0_howManyBroken 6 RX0 D ad cA A) (hr : meth.sig.returnType = (some .int)) {S_X0_isKeptIn : SpecT} {v_X0_isKeptIn : Nat} (h_X0_isKeptIn : Con l yX0_isKeptIn cX0_isKeptIn 4 (some .boolean) 3 v_X0_isKeptIn S_X0_isKeptIn) (g_X0_isKeptIn : v_X0_isKeptIn + 1 ≤ lv) : tabOK (K p l e (rmL lv) s m args below meth c D ad cA A 6 0 0 (MQ below (QcW Φ D ad cA A) args s 0 0 A)) (tb_X0_howManyBroken Φ S_X0_isKeptIn) :=
  ⟨sq_iconst X (by decide) dX0_howManyBroken_0,
  sq_istore X (by decide) dX0_howManyBroken_1,
  sq_iload_n X rfl dX0_howManyBroken_3,
  sq_istore X (by decide) dX0_howManyBroken_4,
  sq_iload X dX0_howManyBroken_6,
  sq_iload_n X rfl dX0_howManyBroken_8,
  sq_ic_gt X (by decide) dX0_howManyBroken_9,
  sq_aload_n X rfl dX0_howManyBroken_12,
  sq_iload_n X rfl dX0_howManyBroken_13,
  sq_iload X dX0_howManyBroken_14,
  sq_cv X h_X0_isKeptIn ⟨_, _, rfl⟩ cw_X0_100 ⟨rfl, by decide, by decide, by decide +kernel⟩ (by decide +kernel) (lev_ok g_X0_isKeptIn (by decide)) ⟨Nat.zero_le _, Nat.zero_le _⟩ dX0_howManyBroken_16,
  sq_if_ne X (by decide) dX0_howManyBroken_19,
  sq_iinc X (by decide) (by decide) dX0_howManyBroken_22,
  sq_iinc X (by decide) (by decide) dX0_howManyBroken_25,
  sq_goto X (by decide) dX0_howManyBroken_28,
  sq_iload X dX0_howManyBroken_31,
  sq_iret X hr dX0_howManyBroken_33, trivial⟩
def tb_X0_howManyBrokenPairs (Φ : Post) (S_X0_howManyBroken : SpecT) : List (Nat × Tr) := [
  (0, tq_push 0 1),
  (1, tq_ist 1 2),
  (2, tq_push 0 3),
  (3, tq_ist 2 4),
  (4, tq_ild 2 5),
  (5, tq_ald 0 6),
  (6, tq_gf 0 3 9),
  (9, tq_ic_ge 30 12),
  (12, tq_ild 1 13),
  (13, tq_ald 0 14),
  (14, tq_ild 2 15),
  (15, tq_push 0 16),
  (16, tq_push 4095 19),
  (19, tq_cv 0 4 S_X0_howManyBroken 22),
  (22, tq_iadd 23),
  (23, tq_ist 1 24),
  (24, tq_iinc 2 1 27),
  (27, tq_goto 4),
  (30, tq_ild 1 31),
  (31, tq_iret Φ)]
set_option maxRecDepth 100000 in
theorem tk_X0_howManyBrokenPairs {p : Program} {l : Launch} {e : Env} {s s0 : State} {a0 : Array Value} {m : MethodId} {args : Array Value} {below : List Frame} {meth : Method} {c : Code} {D : va_G} {ad : Nat → Nat → Nat} {cA : Nat → ClassId} {A : Nat → Prop} {lv : Nat} {Φ : Post} (X : Cx p l s0 a0 s m args meth c cX0_howManyBrokenPairs 3 RX0 D ad cA A) (hr : meth.sig.returnType = (some .int)) {S_X0_howManyBroken : SpecT} {v_X0_howManyBroken : Nat} (h_X0_howManyBroken : Con l yX0_howManyBroken cX0_howManyBroken 6 (some .int) 4 v_X0_howManyBroken S_X0_howManyBroken) (g_X0_howManyBroken : v_X0_howManyBroken + 1 ≤ lv) : tabOK (K p l e (rmL lv) s m args below meth c D ad cA A 3 0 0 (MQ below (QcW Φ D ad cA A) args s 0 0 A)) (tb_X0_howManyBrokenPairs Φ S_X0_howManyBroken) :=
  ⟨sq_iconst X (by decide) dX0_howManyBrokenPairs_0,
  sq_istore_n X rfl (by decide) dX0_howManyBrokenPairs_1,
  sq_iconst X (by decide) dX0_howManyBrokenPairs_2,
  sq_istore_n X rfl (by decide) dX0_howManyBrokenPairs_3,
  sq_iload_n X rfl dX0_howManyBrokenPairs_4,
  sq_aload_n X rfl dX0_howManyBrokenPairs_5,
  sq_gf X (ci := 0) rfl inX0 gdX0 (by decide) fl_X0_21 dX0_howManyBrokenPairs_6,
  sq_ic_ge X (by decide) dX0_howManyBrokenPairs_9,
  sq_iload_n X rfl dX0_howManyBrokenPairs_12,
  sq_aload_n X rfl dX0_howManyBrokenPairs_13,
  sq_iload_n X rfl dX0_howManyBrokenPairs_14,
  sq_iconst X (by decide) dX0_howManyBrokenPairs_15,
  sq_sipush X (by decide) dX0_howManyBrokenPairs_16,
  sq_cv X h_X0_howManyBroken ⟨_, _, rfl⟩ cw_X0_103 ⟨rfl, by decide, by decide, by decide +kernel⟩ (by decide +kernel) (lev_ok g_X0_howManyBroken (by decide)) ⟨Nat.zero_le _, Nat.zero_le _⟩ dX0_howManyBrokenPairs_19,
  sq_iadd X dX0_howManyBrokenPairs_22,
  sq_istore_n X rfl (by decide) dX0_howManyBrokenPairs_23,
  sq_iinc X (by decide) (by decide) dX0_howManyBrokenPairs_24,
  sq_goto X (by decide) dX0_howManyBrokenPairs_27,
  sq_iload_n X rfl dX0_howManyBrokenPairs_30,
  sq_iret X hr dX0_howManyBrokenPairs_31, trivial⟩
def tb_X0_howManyValid (Φ : Post) (S_X0_leastBroken : SpecT) : List (Nat × Tr) := [
  (0, tq_push 0 1),
  (1, tq_ist 1 2),
  (2, tq_push 0 3),
  (3, tq_ist 2 4),
  (4, tq_ild 2 5),
  (5, tq_ald 0 6),
  (6, tq_gf 0 3 9),
  (9, tq_ic_ge 30 12),
  (12, tq_ald 0 13),
  (13, tq_ild 2 14),
  (14, tq_cv 0 2 S_X0_leastBroken 17),
  (17, tq_push (-1) 18),
  (18, tq_ic_ne 24 21),
  (21, tq_iinc 1 1 24),
  (24, tq_iinc 2 1 27),
  (27, tq_goto 4),
  (30, tq_ild 1 31),
  (31, tq_iret Φ)]
set_option maxRecDepth 100000 in
theorem tk_X0_howManyValid {p : Program} {l : Launch} {e : Env} {s s0 : State} {a0 : Array Value} {m : MethodId} {args : Array Value} {below : List Frame} {meth : Method} {c : Code} {D : va_G} {ad : Nat → Nat → Nat} {cA : Nat → ClassId} {A : Nat → Prop} {lv : Nat} {Φ : Post} (X : Cx p l s0 a0 s m args meth c cX0_howManyValid 3 RX0 D ad cA A) (hr : meth.sig.returnType = (some .int)) {S_X0_leastBroken : SpecT} {v_X0_leastBroken : Nat} (h_X0_leastBroken : Con l yX0_leastBroken cX0_leastBroken 3 (some .int) 2 v_X0_leastBroken S_X0_leastBroken) (g_X0_leastBroken : v_X0_leastBroken + 1 ≤ lv) : tabOK (K p l e (rmL lv) s m args below meth c D ad cA A 3 0 0 (MQ below (QcW Φ D ad cA A) args s 0 0 A)) (tb_X0_howManyValid Φ S_X0_leastBroken) :=
  ⟨sq_iconst X (by decide) dX0_howManyValid_0,
  sq_istore_n X rfl (by decide) dX0_howManyValid_1,
  sq_iconst X (by decide) dX0_howManyValid_2,
  sq_istore_n X rfl (by decide) dX0_howManyValid_3,
  sq_iload_n X rfl dX0_howManyValid_4,
  sq_aload_n X rfl dX0_howManyValid_5,
  sq_gf X (ci := 0) rfl inX0 gdX0 (by decide) fl_X0_21 dX0_howManyValid_6,
  sq_ic_ge X (by decide) dX0_howManyValid_9,
  sq_aload_n X rfl dX0_howManyValid_12,
  sq_iload_n X rfl dX0_howManyValid_13,
  sq_cv X h_X0_leastBroken ⟨_, _, rfl⟩ cw_X0_106 ⟨rfl, by decide, by decide, by decide +kernel⟩ (by decide +kernel) (lev_ok g_X0_leastBroken (by decide)) ⟨Nat.zero_le _, Nat.zero_le _⟩ dX0_howManyValid_14,
  sq_iconst X (by decide) dX0_howManyValid_17,
  sq_ic_ne X (by decide) dX0_howManyValid_18,
  sq_iinc X (by decide) (by decide) dX0_howManyValid_21,
  sq_iinc X (by decide) (by decide) dX0_howManyValid_24,
  sq_goto X (by decide) dX0_howManyValid_27,
  sq_iload_n X rfl dX0_howManyValid_30,
  sq_iret X hr dX0_howManyValid_31, trivial⟩
end
section
set_option maxRecDepth 100000 in
theorem fl_X5_78 : Cond.fieldLink RX5 78 (TX5 0).1 (TX5 0).2.1 (TX5 0).2.2.1 ∈ lw_tbl := List.mem_of_getElem? (i := 444) rfl
set_option maxRecDepth 100000 in
theorem fl_X5_82 : Cond.fieldLink RX5 82 (TX5 1).1 (TX5 1).2.1 (TX5 1).2.2.1 ∈ lw_tbl := List.mem_of_getElem? (i := 445) rfl
set_option maxRecDepth 100000 in
theorem cw_X5_85 : ∀ w ∈ va_wsS RX5 85 yX5_in [.code yX5_in cX5_in 3 (some .boolean)], w ∈ lw_tbl := memC4 (List.mem_of_getElem? (i := 543) rfl) (List.mem_of_getElem? (i := 544) rfl) (List.mem_of_getElem? (i := 35) rfl) (List.mem_of_getElem? (i := 545) rfl)
set_option maxRecDepth 100000 in
theorem fl_X5_7 : Cond.fieldLink RX5 7 (TX5 2).1 (TX5 2).2.1 (TX5 2).2.2.1 ∈ lw_tbl := List.mem_of_getElem? (i := 446) rfl
set_option maxRecDepth 100000 in
theorem cw_X5_89 : ∀ w ∈ wsV RX5 89 RX5 yX5_isKind [.code yX5_isKind cX5_isKind 4 (some .boolean)], w ∈ lw_tbl := memC5 (List.mem_of_getElem? (i := 550) rfl) (List.mem_of_getElem? (i := 552) rfl) (List.mem_of_getElem? (i := 11) rfl) (List.mem_of_getElem? (i := 35) rfl) (List.mem_of_getElem? (i := 553) rfl)
set_option maxRecDepth 100000 in
theorem cw_X5_92 : ∀ w ∈ wsV RX5 92 RX5 yX5_isExpression [.code yX5_isExpression cX5_isExpression 2 (some .boolean)], w ∈ lw_tbl := memC5 (List.mem_of_getElem? (i := 546) rfl) (List.mem_of_getElem? (i := 548) rfl) (List.mem_of_getElem? (i := 10) rfl) (List.mem_of_getElem? (i := 35) rfl) (List.mem_of_getElem? (i := 549) rfl)
set_option maxRecDepth 100000 in
theorem cw_X5_96 : ∀ w ∈ wsV RX5 96 RX5 yX5_isCondition [.code yX5_isCondition cX5_isCondition 2 (some .boolean)], w ∈ lw_tbl := memC5 (List.mem_of_getElem? (i := 554) rfl) (List.mem_of_getElem? (i := 556) rfl) (List.mem_of_getElem? (i := 12) rfl) (List.mem_of_getElem? (i := 35) rfl) (List.mem_of_getElem? (i := 557) rfl)
set_option maxRecDepth 100000 in
theorem cw_X5_99 : ∀ w ∈ wsV RX5 99 RX5 yX5_isCommand [.code yX5_isCommand cX5_isCommand 2 (some .boolean)], w ∈ lw_tbl := memC5 (List.mem_of_getElem? (i := 558) rfl) (List.mem_of_getElem? (i := 560) rfl) (List.mem_of_getElem? (i := 13) rfl) (List.mem_of_getElem? (i := 35) rfl) (List.mem_of_getElem? (i := 561) rfl)
set_option maxRecDepth 100000 in
theorem fl_X5_22 : Cond.fieldLink RX5 22 (TX5 6).1 (TX5 6).2.1 (TX5 6).2.2.1 ∈ lw_tbl := List.mem_of_getElem? (i := 450) rfl
set_option maxRecDepth 100000 in
theorem cw_X5_102 : ∀ w ∈ wsV RX5 102 RX5 yX5_fitting [.code yX5_fitting cX5_fitting 5 (some .boolean)], w ∈ lw_tbl := memC5 (List.mem_of_getElem? (i := 539) rfl) (List.mem_of_getElem? (i := 541) rfl) (List.mem_of_getElem? (i := 9) rfl) (List.mem_of_getElem? (i := 35) rfl) (List.mem_of_getElem? (i := 542) rfl)
set_option maxRecDepth 100000 in
theorem cw_X5_106 : ∀ w ∈ wsV RX5 106 RX5 yX5_refuse [.code yX5_refuse cX5_refuse 2 (some .int)], w ∈ lw_tbl := memC5 (List.mem_of_getElem? (i := 562) rfl) (List.mem_of_getElem? (i := 564) rfl) (List.mem_of_getElem? (i := 14) rfl) (List.mem_of_getElem? (i := 35) rfl) (List.mem_of_getElem? (i := 565) rfl)
set_option maxRecDepth 100000 in
theorem cw_X5_110 : ∀ w ∈ va_wsS RX5 110 yX5_firstIsNode [.code yX5_firstIsNode cX5_firstIsNode 1 (some .boolean)], w ∈ lw_tbl := memC4 (List.mem_of_getElem? (i := 566) rfl) (List.mem_of_getElem? (i := 567) rfl) (List.mem_of_getElem? (i := 35) rfl) (List.mem_of_getElem? (i := 568) rfl)
set_option maxRecDepth 100000 in
theorem cw_X5_113 : ∀ w ∈ wsV RX5 113 RX5 yX5_heightWith [.code yX5_heightWith cX5_heightWith 3 (some .int)], w ∈ lw_tbl := memC5 (List.mem_of_getElem? (i := 569) rfl) (List.mem_of_getElem? (i := 571) rfl) (List.mem_of_getElem? (i := 15) rfl) (List.mem_of_getElem? (i := 35) rfl) (List.mem_of_getElem? (i := 572) rfl)
set_option maxRecDepth 100000 in
theorem cw_X5_117 : ∀ w ∈ va_wsS RX5 117 yX5_secondIsNode [.code yX5_secondIsNode cX5_secondIsNode 1 (some .boolean)], w ∈ lw_tbl := memC4 (List.mem_of_getElem? (i := 573) rfl) (List.mem_of_getElem? (i := 574) rfl) (List.mem_of_getElem? (i := 35) rfl) (List.mem_of_getElem? (i := 575) rfl)
set_option maxRecDepth 100000 in
theorem fl_X5_13 : Cond.fieldLink RX5 13 (TX5 3).1 (TX5 3).2.1 (TX5 3).2.2.1 ∈ lw_tbl := List.mem_of_getElem? (i := 447) rfl
set_option maxRecDepth 100000 in
theorem fl_X5_16 : Cond.fieldLink RX5 16 (TX5 4).1 (TX5 4).2.1 (TX5 4).2.2.1 ∈ lw_tbl := List.mem_of_getElem? (i := 448) rfl
set_option maxRecDepth 100000 in
theorem fl_X5_19 : Cond.fieldLink RX5 19 (TX5 5).1 (TX5 5).2.1 (TX5 5).2.2.1 ∈ lw_tbl := List.mem_of_getElem? (i := 449) rfl
set_option maxRecDepth 100000 in
theorem fl_X5_25 : Cond.fieldLink RX5 25 (TX5 7).1 (TX5 7).2.1 (TX5 7).2.2.1 ∈ lw_tbl := List.mem_of_getElem? (i := 451) rfl
set_option maxRecDepth 100000 in
theorem fl_X5_29 : Cond.fieldLink RX5 29 (TX5 8).1 (TX5 8).2.1 (TX5 8).2.2.1 ∈ lw_tbl := List.mem_of_getElem? (i := 452) rfl
set_option maxRecDepth 100000 in
theorem cw_X5_120 : ∀ w ∈ wsV RX5 120 RX5 yX5_reckon [.code yX5_reckon cX5_reckon 6 (some .int)], w ∈ lw_tbl := memC5 (List.mem_of_getElem? (i := 584) rfl) (List.mem_of_getElem? (i := 586) rfl) (List.mem_of_getElem? (i := 17) rfl) (List.mem_of_getElem? (i := 35) rfl) (List.mem_of_getElem? (i := 587) rfl)
set_option maxRecDepth 100000 in
theorem cw_X5_123 : ∀ w ∈ va_wsS RX5 123 yX5_variable [.code yX5_variable cX5_variable 2 (some .int)], w ∈ lw_tbl := memC4 (List.mem_of_getElem? (i := 588) rfl) (List.mem_of_getElem? (i := 589) rfl) (List.mem_of_getElem? (i := 35) rfl) (List.mem_of_getElem? (i := 590) rfl)
set_option maxRecDepth 100000 in
theorem cw_X5_126 : ∀ w ∈ wsV RX5 126 RX5 yX5_give [.code yX5_give cX5_give 4 (some .int)], w ∈ lw_tbl := memC5 (List.mem_of_getElem? (i := 580) rfl) (List.mem_of_getElem? (i := 582) rfl) (List.mem_of_getElem? (i := 16) rfl) (List.mem_of_getElem? (i := 35) rfl) (List.mem_of_getElem? (i := 583) rfl)
set_option maxRecDepth 100000 in
theorem cw_X5_129 : ∀ w ∈ wsV RX5 129 RX5 yX5_isTrue [.code yX5_isTrue cX5_isTrue 3 (some .boolean)], w ∈ lw_tbl := memC5 (List.mem_of_getElem? (i := 595) rfl) (List.mem_of_getElem? (i := 597) rfl) (List.mem_of_getElem? (i := 18) rfl) (List.mem_of_getElem? (i := 35) rfl) (List.mem_of_getElem? (i := 598) rfl)
set_option maxRecDepth 100000 in
theorem fl_X5_75 : Cond.fieldLink RX5 75 (TX5 27).1 (TX5 27).2.1 (TX5 27).2.2.1 ∈ lw_tbl := List.mem_of_getElem? (i := 471) rfl
set_option maxRecDepth 100000 in
theorem cw_X5_133 : ∀ w ∈ wsV RX5 133 RX5 yX5_changed [.code yX5_changed cX5_changed 4 (some .int)], w ∈ lw_tbl := memC5 (List.mem_of_getElem? (i := 603) rfl) (List.mem_of_getElem? (i := 605) rfl) (List.mem_of_getElem? (i := 19) rfl) (List.mem_of_getElem? (i := 35) rfl) (List.mem_of_getElem? (i := 606) rfl)
set_option maxRecDepth 100000 in
theorem fl_X5_56 : Cond.fieldLink RX5 56 (TX5 21).1 (TX5 21).2.1 (TX5 21).2.2.1 ∈ lw_tbl := List.mem_of_getElem? (i := 465) rfl
set_option maxRecDepth 100000 in
theorem fl_X5_136 : Cond.fieldLink RX5 136 (TX5 17).1 (TX5 17).2.1 (TX5 17).2.2.1 ∈ lw_tbl := List.mem_of_getElem? (i := 461) rfl
set_option maxRecDepth 100000 in
theorem fl_X5_59 : Cond.fieldLink RX5 59 (TX5 22).1 (TX5 22).2.1 (TX5 22).2.2.1 ∈ lw_tbl := List.mem_of_getElem? (i := 466) rfl
set_option maxRecDepth 100000 in
theorem fl_X5_139 : Cond.fieldLink RX5 139 (TX5 16).1 (TX5 16).2.1 (TX5 16).2.2.1 ∈ lw_tbl := List.mem_of_getElem? (i := 460) rfl
set_option maxRecDepth 100000 in
theorem fl_X5_47 : Cond.fieldLink RX5 47 (TX5 18).1 (TX5 18).2.1 (TX5 18).2.2.1 ∈ lw_tbl := List.mem_of_getElem? (i := 462) rfl
set_option maxRecDepth 100000 in
theorem fl_X5_50 : Cond.fieldLink RX5 50 (TX5 19).1 (TX5 19).2.1 (TX5 19).2.2.1 ∈ lw_tbl := List.mem_of_getElem? (i := 463) rfl
set_option maxRecDepth 100000 in
theorem fl_X5_53 : Cond.fieldLink RX5 53 (TX5 20).1 (TX5 20).2.1 (TX5 20).2.2.1 ∈ lw_tbl := List.mem_of_getElem? (i := 464) rfl
set_option maxRecDepth 100000 in
theorem cw_X5_142 : ∀ w ∈ wsV RX5 142 RX5 yX5_newTarget [.code yX5_newTarget cX5_newTarget 3 (some .int)], w ∈ lw_tbl := memC5 (List.mem_of_getElem? (i := 615) rfl) (List.mem_of_getElem? (i := 617) rfl) (List.mem_of_getElem? (i := 21) rfl) (List.mem_of_getElem? (i := 35) rfl) (List.mem_of_getElem? (i := 618) rfl)
set_option maxRecDepth 100000 in
theorem cw_X5_144 : ∀ w ∈ wsV RX5 144 RX5 yX5_duty [.code yX5_duty cX5_duty 4 none], w ∈ lw_tbl := memC5 (List.mem_of_getElem? (i := 619) rfl) (List.mem_of_getElem? (i := 621) rfl) (List.mem_of_getElem? (i := 22) rfl) (List.mem_of_getElem? (i := 35) rfl) (List.mem_of_getElem? (i := 622) rfl)
set_option maxRecDepth 100000 in
theorem fl_X5_62 : Cond.fieldLink RX5 62 (TX5 23).1 (TX5 23).2.1 (TX5 23).2.2.1 ∈ lw_tbl := List.mem_of_getElem? (i := 467) rfl
set_option maxRecDepth 100000 in
theorem fl_X5_65 : Cond.fieldLink RX5 65 (TX5 24).1 (TX5 24).2.1 (TX5 24).2.2.1 ∈ lw_tbl := List.mem_of_getElem? (i := 468) rfl
set_option maxRecDepth 100000 in
theorem cw_X5_148 : ∀ w ∈ wsV RX5 148 RX5 yX5_open [.code yX5_open cX5_open 4 (some .int)], w ∈ lw_tbl := memC5 (List.mem_of_getElem? (i := 623) rfl) (List.mem_of_getElem? (i := 625) rfl) (List.mem_of_getElem? (i := 23) rfl) (List.mem_of_getElem? (i := 35) rfl) (List.mem_of_getElem? (i := 626) rfl)
set_option maxRecDepth 100000 in
theorem cw_X5_152 : ∀ w ∈ wsV RX5 152 RX5 yX5_makeDuties [.code yX5_makeDuties cX5_makeDuties 9 none], w ∈ lw_tbl := memC5 (List.mem_of_getElem? (i := 611) rfl) (List.mem_of_getElem? (i := 613) rfl) (List.mem_of_getElem? (i := 20) rfl) (List.mem_of_getElem? (i := 35) rfl) (List.mem_of_getElem? (i := 614) rfl)
set_option maxRecDepth 100000 in
theorem fl_X5_155 : Cond.fieldLink RX5 155 (TX5 12).1 (TX5 12).2.1 (TX5 12).2.2.1 ∈ lw_tbl := List.mem_of_getElem? (i := 456) rfl
set_option maxRecDepth 100000 in
theorem fl_X5_158 : Cond.fieldLink RX5 158 (TX5 9).1 (TX5 9).2.1 (TX5 9).2.2.1 ∈ lw_tbl := List.mem_of_getElem? (i := 453) rfl
set_option maxRecDepth 100000 in
theorem fl_X5_38 : Cond.fieldLink RX5 38 (TX5 13).1 (TX5 13).2.1 (TX5 13).2.2.1 ∈ lw_tbl := List.mem_of_getElem? (i := 457) rfl
set_option maxRecDepth 100000 in
theorem fl_X5_41 : Cond.fieldLink RX5 41 (TX5 14).1 (TX5 14).2.1 (TX5 14).2.2.1 ∈ lw_tbl := List.mem_of_getElem? (i := 458) rfl
set_option maxRecDepth 100000 in
theorem fl_X5_44 : Cond.fieldLink RX5 44 (TX5 15).1 (TX5 15).2.1 (TX5 15).2.2.1 ∈ lw_tbl := List.mem_of_getElem? (i := 459) rfl
set_option maxRecDepth 100000 in
theorem fl_X5_68 : Cond.fieldLink RX5 68 (TX5 25).1 (TX5 25).2.1 (TX5 25).2.2.1 ∈ lw_tbl := List.mem_of_getElem? (i := 469) rfl
set_option maxRecDepth 100000 in
theorem fl_X5_32 : Cond.fieldLink RX5 32 (TX5 10).1 (TX5 10).2.1 (TX5 10).2.2.1 ∈ lw_tbl := List.mem_of_getElem? (i := 454) rfl
set_option maxRecDepth 100000 in
theorem fl_X5_35 : Cond.fieldLink RX5 35 (TX5 11).1 (TX5 11).2.1 (TX5 11).2.2.1 ∈ lw_tbl := List.mem_of_getElem? (i := 455) rfl
set_option maxRecDepth 100000 in
theorem cw_X5_161 : ∀ w ∈ wsV RX5 161 RX5 yX5_reaches [.code yX5_reaches cX5_reaches 7 (some .boolean)], w ∈ lw_tbl := memC5 (List.mem_of_getElem? (i := 635) rfl) (List.mem_of_getElem? (i := 637) rfl) (List.mem_of_getElem? (i := 25) rfl) (List.mem_of_getElem? (i := 35) rfl) (List.mem_of_getElem? (i := 638) rfl)
set_option maxRecDepth 100000 in
theorem cw_X5_164 : ∀ w ∈ wsV RX5 164 RX5 yX5_keeps [.code yX5_keeps cX5_keeps 5 (some .boolean)], w ∈ lw_tbl := memC5 (List.mem_of_getElem? (i := 631) rfl) (List.mem_of_getElem? (i := 633) rfl) (List.mem_of_getElem? (i := 24) rfl) (List.mem_of_getElem? (i := 35) rfl) (List.mem_of_getElem? (i := 634) rfl)
set_option maxRecDepth 100000 in
theorem fl_X5_72 : Cond.fieldLink RX5 72 (TX5 26).1 (TX5 26).2.1 (TX5 26).2.2.1 ∈ lw_tbl := List.mem_of_getElem? (i := 470) rfl
set_option maxRecDepth 100000 in
theorem cw_X5_167 : ∀ w ∈ wsV RX5 167 RX5 yX5_look [.code yX5_look cX5_look 5 none], w ∈ lw_tbl := memC5 (List.mem_of_getElem? (i := 643) rfl) (List.mem_of_getElem? (i := 645) rfl) (List.mem_of_getElem? (i := 26) rfl) (List.mem_of_getElem? (i := 35) rfl) (List.mem_of_getElem? (i := 646) rfl)
set_option maxRecDepth 100000 in
theorem cw_X5_171 : ∀ w ∈ wsV RX5 171 RX5 yX5_isBad [.code yX5_isBad cX5_isBad 3 (some .boolean)], w ∈ lw_tbl := memC5 (List.mem_of_getElem? (i := 647) rfl) (List.mem_of_getElem? (i := 649) rfl) (List.mem_of_getElem? (i := 27) rfl) (List.mem_of_getElem? (i := 35) rfl) (List.mem_of_getElem? (i := 650) rfl)
set_option maxRecDepth 100000 in
theorem cw_X5_174 : ∀ w ∈ wsV RX5 174 RX5 yX5_countBad [.code yX5_countBad cX5_countBad 6 (some .int)], w ∈ lw_tbl := memC5 (List.mem_of_getElem? (i := 655) rfl) (List.mem_of_getElem? (i := 657) rfl) (List.mem_of_getElem? (i := 28) rfl) (List.mem_of_getElem? (i := 35) rfl) (List.mem_of_getElem? (i := 658) rfl)
def tb_X5_thrown (Φ : Post) : List (Nat × Tr) := [
  (0, tq_ald 0 1),
  (1, tq_gf 5 0 4),
  (4, tq_iret Φ)]
set_option maxRecDepth 100000 in
theorem tk_X5_thrown {p : Program} {l : Launch} {e : Env} {s s0 : State} {a0 : Array Value} {m : MethodId} {args : Array Value} {below : List Frame} {meth : Method} {c : Code} {D : va_G} {ad : Nat → Nat → Nat} {cA : Nat → ClassId} {A : Nat → Prop} {lv : Nat} {Φ : Post} (X : Cx p l s0 a0 s m args meth c cX5_thrown 1 RX5 D ad cA A) (hr : meth.sig.returnType = (some .int)) : tabOK (K p l e (rmL lv) s m args below meth c D ad cA A 1 0 0 (MQ below (QcW Φ D ad cA A) args s 0 0 A)) (tb_X5_thrown Φ) :=
  ⟨sq_aload_n X rfl dX5_thrown_0,
  sq_gf X (ci := 5) rfl inX5 gdX5 (by decide) fl_X5_78 dX5_thrown_1,
  sq_iret X hr dX5_thrown_4, trivial⟩
def tb_X5_refuse (Φ : Post) : List (Nat × Tr) := [
  (0, tq_ald 0 1),
  (1, tq_ild 1 2),
  (2, tq_pf 5 0 5),
  (5, tq_push 0 6),
  (6, tq_iret Φ)]
set_option maxRecDepth 100000 in
theorem tk_X5_refuse {p : Program} {l : Launch} {e : Env} {s s0 : State} {a0 : Array Value} {m : MethodId} {args : Array Value} {below : List Frame} {meth : Method} {c : Code} {D : va_G} {ad : Nat → Nat → Nat} {cA : Nat → ClassId} {A : Nat → Prop} {lv : Nat} {Φ : Post} (X : Cx p l s0 a0 s m args meth c cX5_refuse 2 RX5 D ad cA A) (hr : meth.sig.returnType = (some .int)) : tabOK (K p l e (rmL lv) s m args below meth c D ad cA A 2 0 0 (MQ below (QcW Φ D ad cA A) args s 0 0 A)) (tb_X5_refuse Φ) :=
  ⟨sq_aload_n X rfl dX5_refuse_0,
  sq_iload_n X rfl dX5_refuse_1,
  sq_pf X (ci := 5) rfl inX5 gdX5 tyX5 tyX5_ok nmX5 (by decide) fl_X5_78 rfl rfl dX5_refuse_2,
  sq_iconst X (by decide) dX5_refuse_5,
  sq_iret X hr dX5_refuse_6, trivial⟩
def tb_X5_in (Φ : Post) : List (Nat × Tr) := [
  (0, tq_ild 0 1),
  (1, tq_ild 1 2),
  (2, tq_ic_lt 14 5),
  (5, tq_ild 0 6),
  (6, tq_ild 2 7),
  (7, tq_ic_gt 14 10),
  (10, tq_push 1 11),
  (11, tq_goto 15),
  (14, tq_push 0 15),
  (15, tq_zret Φ)]
set_option maxRecDepth 100000 in
theorem tk_X5_in {p : Program} {l : Launch} {e : Env} {s s0 : State} {a0 : Array Value} {m : MethodId} {args : Array Value} {below : List Frame} {meth : Method} {c : Code} {D : va_G} {ad : Nat → Nat → Nat} {cA : Nat → ClassId} {A : Nat → Prop} {lv : Nat} {Φ : Post} (X : Cx p l s0 a0 s m args meth c cX5_in 3 RX5 D ad cA A) (hr : meth.sig.returnType = (some .boolean)) : tabOK (K p l e (rmL lv) s m args below meth c D ad cA A 3 0 0 (MQ below (QcW Φ D ad cA A) args s 0 0 A)) (tb_X5_in Φ) :=
  ⟨sq_iload_n X rfl dX5_in_0,
  sq_iload_n X rfl dX5_in_1,
  sq_ic_lt X (by decide) dX5_in_2,
  sq_iload_n X rfl dX5_in_5,
  sq_iload_n X rfl dX5_in_6,
  sq_ic_gt X (by decide) dX5_in_7,
  sq_iconst X (by decide) dX5_in_10,
  sq_goto X (by decide) dX5_in_11,
  sq_iconst X (by decide) dX5_in_14,
  sq_zret X hr dX5_in_15, trivial⟩
def tb_X5_isKind (Φ : Post) (S_X5_in : SpecT) : List (Nat × Tr) := [
  (0, tq_ild 1 1),
  (1, tq_push 0 2),
  (2, tq_ald 0 3),
  (3, tq_gf 5 1 6),
  (6, tq_push 1 7),
  (7, tq_isub 8),
  (8, tq_cs 3 S_X5_in 11),
  (11, tq_if_eq 50 14),
  (14, tq_ald 0 15),
  (15, tq_gf 5 2 18),
  (18, tq_ild 1 19),
  (19, tq_push 0 20),
  (20, tq_ald 0 21),
  (21, tq_gf 5 1 24),
  (24, tq_push 1 25),
  (25, tq_isub 26),
  (26, tq_cs 3 S_X5_in 29),
  (29, tq_if_eq 36 32),
  (32, tq_ild 1 33),
  (33, tq_goto 37),
  (36, tq_push 0 37),
  (37, tq_iald 38),
  (38, tq_ild 2 39),
  (39, tq_ild 3 40),
  (40, tq_cs 3 S_X5_in 43),
  (43, tq_if_eq 50 46),
  (46, tq_push 1 47),
  (47, tq_goto 51),
  (50, tq_push 0 51),
  (51, tq_zret Φ)]
set_option maxRecDepth 100000 in
theorem tk_X5_isKind {p : Program} {l : Launch} {e : Env} {s s0 : State} {a0 : Array Value} {m : MethodId} {args : Array Value} {below : List Frame} {meth : Method} {c : Code} {D : va_G} {ad : Nat → Nat → Nat} {cA : Nat → ClassId} {A : Nat → Prop} {lv : Nat} {Φ : Post} (X : Cx p l s0 a0 s m args meth c cX5_isKind 4 RX5 D ad cA A) (hr : meth.sig.returnType = (some .boolean)) {S_X5_in : SpecT} {v_X5_in : Nat} (h_X5_in : Con l yX5_in cX5_in 3 (some .boolean) 3 v_X5_in S_X5_in) (g_X5_in : v_X5_in + 1 ≤ lv) : tabOK (K p l e (rmL lv) s m args below meth c D ad cA A 4 0 0 (MQ below (QcW Φ D ad cA A) args s 0 0 A)) (tb_X5_isKind Φ S_X5_in) :=
  ⟨sq_iload_n X rfl dX5_isKind_0,
  sq_iconst X (by decide) dX5_isKind_1,
  sq_aload_n X rfl dX5_isKind_2,
  sq_gf X (ci := 5) rfl inX5 gdX5 (by decide) fl_X5_82 dX5_isKind_3,
  sq_iconst X (by decide) dX5_isKind_6,
  sq_isub X dX5_isKind_7,
  sq_cs X h_X5_in cw_X5_85 ⟨by decide, by decide, by decide +kernel⟩ (by decide +kernel) (lev_ok g_X5_in (by decide)) ⟨Nat.zero_le _, Nat.zero_le _⟩ dX5_isKind_8,
  sq_if_eq X (by decide) dX5_isKind_11,
  sq_aload_n X rfl dX5_isKind_14,
  sq_gf X (ci := 5) rfl inX5 gdX5 (by decide) fl_X5_7 dX5_isKind_15,
  sq_iload_n X rfl dX5_isKind_18,
  sq_iconst X (by decide) dX5_isKind_19,
  sq_aload_n X rfl dX5_isKind_20,
  sq_gf X (ci := 5) rfl inX5 gdX5 (by decide) fl_X5_82 dX5_isKind_21,
  sq_iconst X (by decide) dX5_isKind_24,
  sq_isub X dX5_isKind_25,
  sq_cs X h_X5_in cw_X5_85 ⟨by decide, by decide, by decide +kernel⟩ (by decide +kernel) (lev_ok g_X5_in (by decide)) ⟨Nat.zero_le _, Nat.zero_le _⟩ dX5_isKind_26,
  sq_if_eq X (by decide) dX5_isKind_29,
  sq_iload_n X rfl dX5_isKind_32,
  sq_goto X (by decide) dX5_isKind_33,
  sq_iconst X (by decide) dX5_isKind_36,
  sq_iald X dX5_isKind_37,
  sq_iload_n X rfl dX5_isKind_38,
  sq_iload_n X rfl dX5_isKind_39,
  sq_cs X h_X5_in cw_X5_85 ⟨by decide, by decide, by decide +kernel⟩ (by decide +kernel) (lev_ok g_X5_in (by decide)) ⟨Nat.zero_le _, Nat.zero_le _⟩ dX5_isKind_40,
  sq_if_eq X (by decide) dX5_isKind_43,
  sq_iconst X (by decide) dX5_isKind_46,
  sq_goto X (by decide) dX5_isKind_47,
  sq_iconst X (by decide) dX5_isKind_50,
  sq_zret X hr dX5_isKind_51, trivial⟩
def tb_X5_isExpression (Φ : Post) (S_X5_isKind : SpecT) : List (Nat × Tr) := [
  (0, tq_ald 0 1),
  (1, tq_ild 1 2),
  (2, tq_push 0 3),
  (3, tq_push 4 4),
  (4, tq_cv 5 4 S_X5_isKind 7),
  (7, tq_zret Φ)]
set_option maxRecDepth 100000 in
theorem tk_X5_isExpression {p : Program} {l : Launch} {e : Env} {s s0 : State} {a0 : Array Value} {m : MethodId} {args : Array Value} {below : List Frame} {meth : Method} {c : Code} {D : va_G} {ad : Nat → Nat → Nat} {cA : Nat → ClassId} {A : Nat → Prop} {lv : Nat} {Φ : Post} (X : Cx p l s0 a0 s m args meth c cX5_isExpression 2 RX5 D ad cA A) (hr : meth.sig.returnType = (some .boolean)) {S_X5_isKind : SpecT} {v_X5_isKind : Nat} (h_X5_isKind : Con l yX5_isKind cX5_isKind 4 (some .boolean) 4 v_X5_isKind S_X5_isKind) (g_X5_isKind : v_X5_isKind + 1 ≤ lv) : tabOK (K p l e (rmL lv) s m args below meth c D ad cA A 2 0 0 (MQ below (QcW Φ D ad cA A) args s 0 0 A)) (tb_X5_isExpression Φ S_X5_isKind) :=
  ⟨sq_aload_n X rfl dX5_isExpression_0,
  sq_iload_n X rfl dX5_isExpression_1,
  sq_iconst X (by decide) dX5_isExpression_2,
  sq_iconst X (by decide) dX5_isExpression_3,
  sq_cv X h_X5_isKind ⟨_, _, rfl⟩ cw_X5_89 ⟨rfl, by decide, by decide, by decide +kernel⟩ (by decide +kernel) (lev_ok g_X5_isKind (by decide)) ⟨Nat.zero_le _, Nat.zero_le _⟩ dX5_isExpression_4,
  sq_zret X hr dX5_isExpression_7, trivial⟩
def tb_X5_isCondition (Φ : Post) (S_X5_isKind : SpecT) : List (Nat × Tr) := [
  (0, tq_ald 0 1),
  (1, tq_ild 1 2),
  (2, tq_push 5 3),
  (3, tq_push 10 5),
  (5, tq_cv 5 4 S_X5_isKind 8),
  (8, tq_zret Φ)]
set_option maxRecDepth 100000 in
theorem tk_X5_isCondition {p : Program} {l : Launch} {e : Env} {s s0 : State} {a0 : Array Value} {m : MethodId} {args : Array Value} {below : List Frame} {meth : Method} {c : Code} {D : va_G} {ad : Nat → Nat → Nat} {cA : Nat → ClassId} {A : Nat → Prop} {lv : Nat} {Φ : Post} (X : Cx p l s0 a0 s m args meth c cX5_isCondition 2 RX5 D ad cA A) (hr : meth.sig.returnType = (some .boolean)) {S_X5_isKind : SpecT} {v_X5_isKind : Nat} (h_X5_isKind : Con l yX5_isKind cX5_isKind 4 (some .boolean) 4 v_X5_isKind S_X5_isKind) (g_X5_isKind : v_X5_isKind + 1 ≤ lv) : tabOK (K p l e (rmL lv) s m args below meth c D ad cA A 2 0 0 (MQ below (QcW Φ D ad cA A) args s 0 0 A)) (tb_X5_isCondition Φ S_X5_isKind) :=
  ⟨sq_aload_n X rfl dX5_isCondition_0,
  sq_iload_n X rfl dX5_isCondition_1,
  sq_iconst X (by decide) dX5_isCondition_2,
  sq_bipush X (by decide) dX5_isCondition_3,
  sq_cv X h_X5_isKind ⟨_, _, rfl⟩ cw_X5_89 ⟨rfl, by decide, by decide, by decide +kernel⟩ (by decide +kernel) (lev_ok g_X5_isKind (by decide)) ⟨Nat.zero_le _, Nat.zero_le _⟩ dX5_isCondition_5,
  sq_zret X hr dX5_isCondition_8, trivial⟩
def tb_X5_isCommand (Φ : Post) (S_X5_isKind : SpecT) : List (Nat × Tr) := [
  (0, tq_ald 0 1),
  (1, tq_ild 1 2),
  (2, tq_push 11 4),
  (4, tq_push 15 6),
  (6, tq_cv 5 4 S_X5_isKind 9),
  (9, tq_zret Φ)]
set_option maxRecDepth 100000 in
theorem tk_X5_isCommand {p : Program} {l : Launch} {e : Env} {s s0 : State} {a0 : Array Value} {m : MethodId} {args : Array Value} {below : List Frame} {meth : Method} {c : Code} {D : va_G} {ad : Nat → Nat → Nat} {cA : Nat → ClassId} {A : Nat → Prop} {lv : Nat} {Φ : Post} (X : Cx p l s0 a0 s m args meth c cX5_isCommand 2 RX5 D ad cA A) (hr : meth.sig.returnType = (some .boolean)) {S_X5_isKind : SpecT} {v_X5_isKind : Nat} (h_X5_isKind : Con l yX5_isKind cX5_isKind 4 (some .boolean) 4 v_X5_isKind S_X5_isKind) (g_X5_isKind : v_X5_isKind + 1 ≤ lv) : tabOK (K p l e (rmL lv) s m args below meth c D ad cA A 2 0 0 (MQ below (QcW Φ D ad cA A) args s 0 0 A)) (tb_X5_isCommand Φ S_X5_isKind) :=
  ⟨sq_aload_n X rfl dX5_isCommand_0,
  sq_iload_n X rfl dX5_isCommand_1,
  sq_bipush X (by decide) dX5_isCommand_2,
  sq_bipush X (by decide) dX5_isCommand_4,
  sq_cv X h_X5_isKind ⟨_, _, rfl⟩ cw_X5_89 ⟨rfl, by decide, by decide, by decide +kernel⟩ (by decide +kernel) (lev_ok g_X5_isKind (by decide)) ⟨Nat.zero_le _, Nat.zero_le _⟩ dX5_isCommand_6,
  sq_zret X hr dX5_isCommand_9, trivial⟩
def tb_X5_fitting (Φ : Post) (S_X5_in S_X5_isExpression S_X5_isCondition S_X5_isCommand : SpecT) : List (Nat × Tr) := [
  (0, tq_ild 1 1),
  (1, tq_sw 304 [(0, 80), (1, 89), (2, 96), (3, 96), (4, 118), (5, 96), (6, 96), (7, 143), (8, 167), (9, 173), (10, 173), (11, 195), (12, 197), (13, 220), (14, 242), (15, 273)]),
  (80, tq_ild 2 81),
  (81, tq_push (-100) 83),
  (83, tq_push 100 85),
  (85, tq_cs 3 S_X5_in 88),
  (88, tq_zret Φ),
  (89, tq_ild 2 90),
  (90, tq_push 0 91),
  (91, tq_push 2 92),
  (92, tq_cs 3 S_X5_in 95),
  (95, tq_zret Φ),
  (96, tq_ald 0 97),
  (97, tq_ild 2 98),
  (98, tq_cv 5 2 S_X5_isExpression 101),
  (101, tq_if_eq 116 104),
  (104, tq_ald 0 105),
  (105, tq_ild 3 106),
  (106, tq_cv 5 2 S_X5_isExpression 109),
  (109, tq_if_eq 116 112),
  (112, tq_push 1 113),
  (113, tq_goto 117),
  (116, tq_push 0 117),
  (117, tq_zret Φ),
  (118, tq_ild 2 119),
  (119, tq_push (-16) 121),
  (121, tq_push 16 123),
  (123, tq_cs 3 S_X5_in 126),
  (126, tq_if_eq 141 129),
  (129, tq_ald 0 130),
  (130, tq_ild 3 131),
  (131, tq_cv 5 2 S_X5_isExpression 134),
  (134, tq_if_eq 141 137),
  (137, tq_push 1 138),
  (138, tq_goto 142),
  (141, tq_push 0 142),
  (142, tq_zret Φ),
  (143, tq_ild 2 144),
  (144, tq_push 1 145),
  (145, tq_push 16 147),
  (147, tq_cs 3 S_X5_in 150),
  (150, tq_if_eq 165 153),
  (153, tq_ald 0 154),
  (154, tq_ild 3 155),
  (155, tq_cv 5 2 S_X5_isExpression 158),
  (158, tq_if_eq 165 161),
  (161, tq_push 1 162),
  (162, tq_goto 166),
  (165, tq_push 0 166),
  (166, tq_zret Φ),
  (167, tq_ald 0 168),
  (168, tq_ild 2 169),
  (169, tq_cv 5 2 S_X5_isCondition 172),
  (172, tq_zret Φ),
  (173, tq_ald 0 174),
  (174, tq_ild 2 175),
  (175, tq_cv 5 2 S_X5_isCondition 178),
  (178, tq_if_eq 193 181),
  (181, tq_ald 0 182),
  (182, tq_ild 3 183),
  (183, tq_cv 5 2 S_X5_isCondition 186),
  (186, tq_if_eq 193 189),
  (189, tq_push 1 190),
  (190, tq_goto 194),
  (193, tq_push 0 194),
  (194, tq_zret Φ),
  (195, tq_push 1 196),
  (196, tq_zret Φ),
  (197, tq_ild 2 198),
  (198, tq_push 0 199),
  (199, tq_push 2 200),
  (200, tq_cs 3 S_X5_in 203),
  (203, tq_if_eq 218 206),
  (206, tq_ald 0 207),
  (207, tq_ild 3 208),
  (208, tq_cv 5 2 S_X5_isExpression 211),
  (211, tq_if_eq 218 214),
  (214, tq_push 1 215),
  (215, tq_goto 219),
  (218, tq_push 0 219),
  (219, tq_zret Φ),
  (220, tq_ald 0 221),
  (221, tq_ild 2 222),
  (222, tq_cv 5 2 S_X5_isCommand 225),
  (225, tq_if_eq 240 228),
  (228, tq_ald 0 229),
  (229, tq_ild 3 230),
  (230, tq_cv 5 2 S_X5_isCommand 233),
  (233, tq_if_eq 240 236),
  (236, tq_push 1 237),
  (237, tq_goto 241),
  (240, tq_push 0 241),
  (241, tq_zret Φ),
  (242, tq_ald 0 243),
  (243, tq_ild 2 244),
  (244, tq_cv 5 2 S_X5_isCondition 247),
  (247, tq_if_eq 271 250),
  (250, tq_ald 0 251),
  (251, tq_ild 3 252),
  (252, tq_cv 5 2 S_X5_isCommand 255),
  (255, tq_if_eq 271 258),
  (258, tq_ald 0 259),
  (259, tq_ild 4 261),
  (261, tq_cv 5 2 S_X5_isCommand 264),
  (264, tq_if_eq 271 267),
  (267, tq_push 1 268),
  (268, tq_goto 272),
  (271, tq_push 0 272),
  (272, tq_zret Φ),
  (273, tq_ald 0 274),
  (274, tq_ild 2 275),
  (275, tq_cv 5 2 S_X5_isCondition 278),
  (278, tq_if_eq 302 281),
  (281, tq_ald 0 282),
  (282, tq_ild 3 283),
  (283, tq_cv 5 2 S_X5_isCondition 286),
  (286, tq_if_eq 302 289),
  (289, tq_ald 0 290),
  (290, tq_ild 4 292),
  (292, tq_cv 5 2 S_X5_isCommand 295),
  (295, tq_if_eq 302 298),
  (298, tq_push 1 299),
  (299, tq_goto 303),
  (302, tq_push 0 303),
  (303, tq_zret Φ),
  (304, tq_push 0 305),
  (305, tq_zret Φ)]
set_option maxRecDepth 100000 in
theorem tk_X5_fitting {p : Program} {l : Launch} {e : Env} {s s0 : State} {a0 : Array Value} {m : MethodId} {args : Array Value} {below : List Frame} {meth : Method} {c : Code} {D : va_G} {ad : Nat → Nat → Nat} {cA : Nat → ClassId} {A : Nat → Prop} {lv : Nat} {Φ : Post} (X : Cx p l s0 a0 s m args meth c cX5_fitting 5 RX5 D ad cA A) (hr : meth.sig.returnType = (some .boolean)) {S_X5_in : SpecT} {v_X5_in : Nat} (h_X5_in : Con l yX5_in cX5_in 3 (some .boolean) 3 v_X5_in S_X5_in) (g_X5_in : v_X5_in + 1 ≤ lv) {S_X5_isExpression : SpecT} {v_X5_isExpression : Nat} (h_X5_isExpression : Con l yX5_isExpression cX5_isExpression 2 (some .boolean) 2 v_X5_isExpression S_X5_isExpression) (g_X5_isExpression : v_X5_isExpression + 1 ≤ lv) {S_X5_isCondition : SpecT} {v_X5_isCondition : Nat} (h_X5_isCondition : Con l yX5_isCondition cX5_isCondition 2 (some .boolean) 2 v_X5_isCondition S_X5_isCondition) (g_X5_isCondition : v_X5_isCondition + 1 ≤ lv) {S_X5_isCommand : SpecT} {v_X5_isCommand : Nat} (h_X5_isCommand : Con l yX5_isCommand cX5_isCommand 2 (some .boolean) 2 v_X5_isCommand S_X5_isCommand) (g_X5_isCommand : v_X5_isCommand + 1 ≤ lv) : tabOK (K p l e (rmL lv) s m args below meth c D ad cA A 5 0 0 (MQ below (QcW Φ D ad cA A) args s 0 0 A)) (tb_X5_fitting Φ S_X5_in S_X5_isExpression S_X5_isCondition S_X5_isCommand) :=
  ⟨sq_iload_n X rfl dX5_fitting_0,
  sq_sw X (by decide) rfl (by decide) (by decide) dX5_fitting_1,
  sq_iload_n X rfl dX5_fitting_80,
  sq_bipush X (by decide) dX5_fitting_81,
  sq_bipush X (by decide) dX5_fitting_83,
  sq_cs X h_X5_in cw_X5_85 ⟨by decide, by decide, by decide +kernel⟩ (by decide +kernel) (lev_ok g_X5_in (by decide)) ⟨Nat.zero_le _, Nat.zero_le _⟩ dX5_fitting_85,
  sq_zret X hr dX5_fitting_88,
  sq_iload_n X rfl dX5_fitting_89,
  sq_iconst X (by decide) dX5_fitting_90,
  sq_iconst X (by decide) dX5_fitting_91,
  sq_cs X h_X5_in cw_X5_85 ⟨by decide, by decide, by decide +kernel⟩ (by decide +kernel) (lev_ok g_X5_in (by decide)) ⟨Nat.zero_le _, Nat.zero_le _⟩ dX5_fitting_92,
  sq_zret X hr dX5_fitting_95,
  sq_aload_n X rfl dX5_fitting_96,
  sq_iload_n X rfl dX5_fitting_97,
  sq_cv X h_X5_isExpression ⟨_, _, rfl⟩ cw_X5_92 ⟨rfl, by decide, by decide, by decide +kernel⟩ (by decide +kernel) (lev_ok g_X5_isExpression (by decide)) ⟨Nat.zero_le _, Nat.zero_le _⟩ dX5_fitting_98,
  sq_if_eq X (by decide) dX5_fitting_101,
  sq_aload_n X rfl dX5_fitting_104,
  sq_iload_n X rfl dX5_fitting_105,
  sq_cv X h_X5_isExpression ⟨_, _, rfl⟩ cw_X5_92 ⟨rfl, by decide, by decide, by decide +kernel⟩ (by decide +kernel) (lev_ok g_X5_isExpression (by decide)) ⟨Nat.zero_le _, Nat.zero_le _⟩ dX5_fitting_106,
  sq_if_eq X (by decide) dX5_fitting_109,
  sq_iconst X (by decide) dX5_fitting_112,
  sq_goto X (by decide) dX5_fitting_113,
  sq_iconst X (by decide) dX5_fitting_116,
  sq_zret X hr dX5_fitting_117,
  sq_iload_n X rfl dX5_fitting_118,
  sq_bipush X (by decide) dX5_fitting_119,
  sq_bipush X (by decide) dX5_fitting_121,
  sq_cs X h_X5_in cw_X5_85 ⟨by decide, by decide, by decide +kernel⟩ (by decide +kernel) (lev_ok g_X5_in (by decide)) ⟨Nat.zero_le _, Nat.zero_le _⟩ dX5_fitting_123,
  sq_if_eq X (by decide) dX5_fitting_126,
  sq_aload_n X rfl dX5_fitting_129,
  sq_iload_n X rfl dX5_fitting_130,
  sq_cv X h_X5_isExpression ⟨_, _, rfl⟩ cw_X5_92 ⟨rfl, by decide, by decide, by decide +kernel⟩ (by decide +kernel) (lev_ok g_X5_isExpression (by decide)) ⟨Nat.zero_le _, Nat.zero_le _⟩ dX5_fitting_131,
  sq_if_eq X (by decide) dX5_fitting_134,
  sq_iconst X (by decide) dX5_fitting_137,
  sq_goto X (by decide) dX5_fitting_138,
  sq_iconst X (by decide) dX5_fitting_141,
  sq_zret X hr dX5_fitting_142,
  sq_iload_n X rfl dX5_fitting_143,
  sq_iconst X (by decide) dX5_fitting_144,
  sq_bipush X (by decide) dX5_fitting_145,
  sq_cs X h_X5_in cw_X5_85 ⟨by decide, by decide, by decide +kernel⟩ (by decide +kernel) (lev_ok g_X5_in (by decide)) ⟨Nat.zero_le _, Nat.zero_le _⟩ dX5_fitting_147,
  sq_if_eq X (by decide) dX5_fitting_150,
  sq_aload_n X rfl dX5_fitting_153,
  sq_iload_n X rfl dX5_fitting_154,
  sq_cv X h_X5_isExpression ⟨_, _, rfl⟩ cw_X5_92 ⟨rfl, by decide, by decide, by decide +kernel⟩ (by decide +kernel) (lev_ok g_X5_isExpression (by decide)) ⟨Nat.zero_le _, Nat.zero_le _⟩ dX5_fitting_155,
  sq_if_eq X (by decide) dX5_fitting_158,
  sq_iconst X (by decide) dX5_fitting_161,
  sq_goto X (by decide) dX5_fitting_162,
  sq_iconst X (by decide) dX5_fitting_165,
  sq_zret X hr dX5_fitting_166,
  sq_aload_n X rfl dX5_fitting_167,
  sq_iload_n X rfl dX5_fitting_168,
  sq_cv X h_X5_isCondition ⟨_, _, rfl⟩ cw_X5_96 ⟨rfl, by decide, by decide, by decide +kernel⟩ (by decide +kernel) (lev_ok g_X5_isCondition (by decide)) ⟨Nat.zero_le _, Nat.zero_le _⟩ dX5_fitting_169,
  sq_zret X hr dX5_fitting_172,
  sq_aload_n X rfl dX5_fitting_173,
  sq_iload_n X rfl dX5_fitting_174,
  sq_cv X h_X5_isCondition ⟨_, _, rfl⟩ cw_X5_96 ⟨rfl, by decide, by decide, by decide +kernel⟩ (by decide +kernel) (lev_ok g_X5_isCondition (by decide)) ⟨Nat.zero_le _, Nat.zero_le _⟩ dX5_fitting_175,
  sq_if_eq X (by decide) dX5_fitting_178,
  sq_aload_n X rfl dX5_fitting_181,
  sq_iload_n X rfl dX5_fitting_182,
  sq_cv X h_X5_isCondition ⟨_, _, rfl⟩ cw_X5_96 ⟨rfl, by decide, by decide, by decide +kernel⟩ (by decide +kernel) (lev_ok g_X5_isCondition (by decide)) ⟨Nat.zero_le _, Nat.zero_le _⟩ dX5_fitting_183,
  sq_if_eq X (by decide) dX5_fitting_186,
  sq_iconst X (by decide) dX5_fitting_189,
  sq_goto X (by decide) dX5_fitting_190,
  sq_iconst X (by decide) dX5_fitting_193,
  sq_zret X hr dX5_fitting_194,
  sq_iconst X (by decide) dX5_fitting_195,
  sq_zret X hr dX5_fitting_196,
  sq_iload_n X rfl dX5_fitting_197,
  sq_iconst X (by decide) dX5_fitting_198,
  sq_iconst X (by decide) dX5_fitting_199,
  sq_cs X h_X5_in cw_X5_85 ⟨by decide, by decide, by decide +kernel⟩ (by decide +kernel) (lev_ok g_X5_in (by decide)) ⟨Nat.zero_le _, Nat.zero_le _⟩ dX5_fitting_200,
  sq_if_eq X (by decide) dX5_fitting_203,
  sq_aload_n X rfl dX5_fitting_206,
  sq_iload_n X rfl dX5_fitting_207,
  sq_cv X h_X5_isExpression ⟨_, _, rfl⟩ cw_X5_92 ⟨rfl, by decide, by decide, by decide +kernel⟩ (by decide +kernel) (lev_ok g_X5_isExpression (by decide)) ⟨Nat.zero_le _, Nat.zero_le _⟩ dX5_fitting_208,
  sq_if_eq X (by decide) dX5_fitting_211,
  sq_iconst X (by decide) dX5_fitting_214,
  sq_goto X (by decide) dX5_fitting_215,
  sq_iconst X (by decide) dX5_fitting_218,
  sq_zret X hr dX5_fitting_219,
  sq_aload_n X rfl dX5_fitting_220,
  sq_iload_n X rfl dX5_fitting_221,
  sq_cv X h_X5_isCommand ⟨_, _, rfl⟩ cw_X5_99 ⟨rfl, by decide, by decide, by decide +kernel⟩ (by decide +kernel) (lev_ok g_X5_isCommand (by decide)) ⟨Nat.zero_le _, Nat.zero_le _⟩ dX5_fitting_222,
  sq_if_eq X (by decide) dX5_fitting_225,
  sq_aload_n X rfl dX5_fitting_228,
  sq_iload_n X rfl dX5_fitting_229,
  sq_cv X h_X5_isCommand ⟨_, _, rfl⟩ cw_X5_99 ⟨rfl, by decide, by decide, by decide +kernel⟩ (by decide +kernel) (lev_ok g_X5_isCommand (by decide)) ⟨Nat.zero_le _, Nat.zero_le _⟩ dX5_fitting_230,
  sq_if_eq X (by decide) dX5_fitting_233,
  sq_iconst X (by decide) dX5_fitting_236,
  sq_goto X (by decide) dX5_fitting_237,
  sq_iconst X (by decide) dX5_fitting_240,
  sq_zret X hr dX5_fitting_241,
  sq_aload_n X rfl dX5_fitting_242,
  sq_iload_n X rfl dX5_fitting_243,
  sq_cv X h_X5_isCondition ⟨_, _, rfl⟩ cw_X5_96 ⟨rfl, by decide, by decide, by decide +kernel⟩ (by decide +kernel) (lev_ok g_X5_isCondition (by decide)) ⟨Nat.zero_le _, Nat.zero_le _⟩ dX5_fitting_244,
  sq_if_eq X (by decide) dX5_fitting_247,
  sq_aload_n X rfl dX5_fitting_250,
  sq_iload_n X rfl dX5_fitting_251,
  sq_cv X h_X5_isCommand ⟨_, _, rfl⟩ cw_X5_99 ⟨rfl, by decide, by decide, by decide +kernel⟩ (by decide +kernel) (lev_ok g_X5_isCommand (by decide)) ⟨Nat.zero_le _, Nat.zero_le _⟩ dX5_fitting_252,
  sq_if_eq X (by decide) dX5_fitting_255,
  sq_aload_n X rfl dX5_fitting_258,
  sq_iload X dX5_fitting_259,
  sq_cv X h_X5_isCommand ⟨_, _, rfl⟩ cw_X5_99 ⟨rfl, by decide, by decide, by decide +kernel⟩ (by decide +kernel) (lev_ok g_X5_isCommand (by decide)) ⟨Nat.zero_le _, Nat.zero_le _⟩ dX5_fitting_261,
  sq_if_eq X (by decide) dX5_fitting_264,
  sq_iconst X (by decide) dX5_fitting_267,
  sq_goto X (by decide) dX5_fitting_268,
  sq_iconst X (by decide) dX5_fitting_271,
  sq_zret X hr dX5_fitting_272,
  sq_aload_n X rfl dX5_fitting_273,
  sq_iload_n X rfl dX5_fitting_274,
  sq_cv X h_X5_isCondition ⟨_, _, rfl⟩ cw_X5_96 ⟨rfl, by decide, by decide, by decide +kernel⟩ (by decide +kernel) (lev_ok g_X5_isCondition (by decide)) ⟨Nat.zero_le _, Nat.zero_le _⟩ dX5_fitting_275,
  sq_if_eq X (by decide) dX5_fitting_278,
  sq_aload_n X rfl dX5_fitting_281,
  sq_iload_n X rfl dX5_fitting_282,
  sq_cv X h_X5_isCondition ⟨_, _, rfl⟩ cw_X5_96 ⟨rfl, by decide, by decide, by decide +kernel⟩ (by decide +kernel) (lev_ok g_X5_isCondition (by decide)) ⟨Nat.zero_le _, Nat.zero_le _⟩ dX5_fitting_283,
  sq_if_eq X (by decide) dX5_fitting_286,
  sq_aload_n X rfl dX5_fitting_289,
  sq_iload X dX5_fitting_290,
  sq_cv X h_X5_isCommand ⟨_, _, rfl⟩ cw_X5_99 ⟨rfl, by decide, by decide, by decide +kernel⟩ (by decide +kernel) (lev_ok g_X5_isCommand (by decide)) ⟨Nat.zero_le _, Nat.zero_le _⟩ dX5_fitting_292,
  sq_if_eq X (by decide) dX5_fitting_295,
  sq_iconst X (by decide) dX5_fitting_298,
  sq_goto X (by decide) dX5_fitting_299,
  sq_iconst X (by decide) dX5_fitting_302,
  sq_zret X hr dX5_fitting_303,
  sq_iconst X (by decide) dX5_fitting_304,
  sq_zret X hr dX5_fitting_305, trivial⟩
def tb_X5_firstIsNode (Φ : Post) (S_X5_in : SpecT) : List (Nat × Tr) := [
  (0, tq_ild 0 1),
  (1, tq_push 2 2),
  (2, tq_ic_eq 38 5),
  (5, tq_ild 0 6),
  (6, tq_push 3 7),
  (7, tq_ic_eq 38 10),
  (10, tq_ild 0 11),
  (11, tq_push 5 12),
  (12, tq_ic_eq 38 15),
  (15, tq_ild 0 16),
  (16, tq_push 6 18),
  (18, tq_ic_eq 38 21),
  (21, tq_ild 0 22),
  (22, tq_push 8 24),
  (24, tq_push 10 26),
  (26, tq_cs 3 S_X5_in 29),
  (29, tq_if_ne 38 32),
  (32, tq_ild 0 33),
  (33, tq_push 12 35),
  (35, tq_ic_le 42 38),
  (38, tq_push 1 39),
  (39, tq_goto 43),
  (42, tq_push 0 43),
  (43, tq_zret Φ)]
set_option maxRecDepth 100000 in
theorem tk_X5_firstIsNode {p : Program} {l : Launch} {e : Env} {s s0 : State} {a0 : Array Value} {m : MethodId} {args : Array Value} {below : List Frame} {meth : Method} {c : Code} {D : va_G} {ad : Nat → Nat → Nat} {cA : Nat → ClassId} {A : Nat → Prop} {lv : Nat} {Φ : Post} (X : Cx p l s0 a0 s m args meth c cX5_firstIsNode 1 RX5 D ad cA A) (hr : meth.sig.returnType = (some .boolean)) {S_X5_in : SpecT} {v_X5_in : Nat} (h_X5_in : Con l yX5_in cX5_in 3 (some .boolean) 3 v_X5_in S_X5_in) (g_X5_in : v_X5_in + 1 ≤ lv) : tabOK (K p l e (rmL lv) s m args below meth c D ad cA A 1 0 0 (MQ below (QcW Φ D ad cA A) args s 0 0 A)) (tb_X5_firstIsNode Φ S_X5_in) :=
  ⟨sq_iload_n X rfl dX5_firstIsNode_0,
  sq_iconst X (by decide) dX5_firstIsNode_1,
  sq_ic_eq X (by decide) dX5_firstIsNode_2,
  sq_iload_n X rfl dX5_firstIsNode_5,
  sq_iconst X (by decide) dX5_firstIsNode_6,
  sq_ic_eq X (by decide) dX5_firstIsNode_7,
  sq_iload_n X rfl dX5_firstIsNode_10,
  sq_iconst X (by decide) dX5_firstIsNode_11,
  sq_ic_eq X (by decide) dX5_firstIsNode_12,
  sq_iload_n X rfl dX5_firstIsNode_15,
  sq_bipush X (by decide) dX5_firstIsNode_16,
  sq_ic_eq X (by decide) dX5_firstIsNode_18,
  sq_iload_n X rfl dX5_firstIsNode_21,
  sq_bipush X (by decide) dX5_firstIsNode_22,
  sq_bipush X (by decide) dX5_firstIsNode_24,
  sq_cs X h_X5_in cw_X5_85 ⟨by decide, by decide, by decide +kernel⟩ (by decide +kernel) (lev_ok g_X5_in (by decide)) ⟨Nat.zero_le _, Nat.zero_le _⟩ dX5_firstIsNode_26,
  sq_if_ne X (by decide) dX5_firstIsNode_29,
  sq_iload_n X rfl dX5_firstIsNode_32,
  sq_bipush X (by decide) dX5_firstIsNode_33,
  sq_ic_le X (by decide) dX5_firstIsNode_35,
  sq_iconst X (by decide) dX5_firstIsNode_38,
  sq_goto X (by decide) dX5_firstIsNode_39,
  sq_iconst X (by decide) dX5_firstIsNode_42,
  sq_zret X hr dX5_firstIsNode_43, trivial⟩
def tb_X5_secondIsNode (Φ : Post) (S_X5_in : SpecT) : List (Nat × Tr) := [
  (0, tq_ild 0 1),
  (1, tq_push 2 2),
  (2, tq_push 7 4),
  (4, tq_cs 3 S_X5_in 7),
  (7, tq_if_ne 28 10),
  (10, tq_ild 0 11),
  (11, tq_push 9 13),
  (13, tq_ic_eq 28 16),
  (16, tq_ild 0 17),
  (17, tq_push 10 19),
  (19, tq_ic_eq 28 22),
  (22, tq_ild 0 23),
  (23, tq_push 11 25),
  (25, tq_ic_le 32 28),
  (28, tq_push 1 29),
  (29, tq_goto 33),
  (32, tq_push 0 33),
  (33, tq_zret Φ)]
set_option maxRecDepth 100000 in
theorem tk_X5_secondIsNode {p : Program} {l : Launch} {e : Env} {s s0 : State} {a0 : Array Value} {m : MethodId} {args : Array Value} {below : List Frame} {meth : Method} {c : Code} {D : va_G} {ad : Nat → Nat → Nat} {cA : Nat → ClassId} {A : Nat → Prop} {lv : Nat} {Φ : Post} (X : Cx p l s0 a0 s m args meth c cX5_secondIsNode 1 RX5 D ad cA A) (hr : meth.sig.returnType = (some .boolean)) {S_X5_in : SpecT} {v_X5_in : Nat} (h_X5_in : Con l yX5_in cX5_in 3 (some .boolean) 3 v_X5_in S_X5_in) (g_X5_in : v_X5_in + 1 ≤ lv) : tabOK (K p l e (rmL lv) s m args below meth c D ad cA A 1 0 0 (MQ below (QcW Φ D ad cA A) args s 0 0 A)) (tb_X5_secondIsNode Φ S_X5_in) :=
  ⟨sq_iload_n X rfl dX5_secondIsNode_0,
  sq_iconst X (by decide) dX5_secondIsNode_1,
  sq_bipush X (by decide) dX5_secondIsNode_2,
  sq_cs X h_X5_in cw_X5_85 ⟨by decide, by decide, by decide +kernel⟩ (by decide +kernel) (lev_ok g_X5_in (by decide)) ⟨Nat.zero_le _, Nat.zero_le _⟩ dX5_secondIsNode_4,
  sq_if_ne X (by decide) dX5_secondIsNode_7,
  sq_iload_n X rfl dX5_secondIsNode_10,
  sq_bipush X (by decide) dX5_secondIsNode_11,
  sq_ic_eq X (by decide) dX5_secondIsNode_13,
  sq_iload_n X rfl dX5_secondIsNode_16,
  sq_bipush X (by decide) dX5_secondIsNode_17,
  sq_ic_eq X (by decide) dX5_secondIsNode_19,
  sq_iload_n X rfl dX5_secondIsNode_22,
  sq_bipush X (by decide) dX5_secondIsNode_23,
  sq_ic_le X (by decide) dX5_secondIsNode_25,
  sq_iconst X (by decide) dX5_secondIsNode_28,
  sq_goto X (by decide) dX5_secondIsNode_29,
  sq_iconst X (by decide) dX5_secondIsNode_32,
  sq_zret X hr dX5_secondIsNode_33, trivial⟩
def tb_X5_heightWith (Φ : Post) : List (Nat × Tr) := [
  (0, tq_ald 0 1),
  (1, tq_gf 5 6 4),
  (4, tq_ild 2 5),
  (5, tq_iald 6),
  (6, tq_push 1 7),
  (7, tq_iadd 8),
  (8, tq_ild 1 9),
  (9, tq_ic_le 23 12),
  (12, tq_ald 0 13),
  (13, tq_gf 5 6 16),
  (16, tq_ild 2 17),
  (17, tq_iald 18),
  (18, tq_push 1 19),
  (19, tq_iadd 20),
  (20, tq_goto 24),
  (23, tq_ild 1 24),
  (24, tq_iret Φ)]
set_option maxRecDepth 100000 in
theorem tk_X5_heightWith {p : Program} {l : Launch} {e : Env} {s s0 : State} {a0 : Array Value} {m : MethodId} {args : Array Value} {below : List Frame} {meth : Method} {c : Code} {D : va_G} {ad : Nat → Nat → Nat} {cA : Nat → ClassId} {A : Nat → Prop} {lv : Nat} {Φ : Post} (X : Cx p l s0 a0 s m args meth c cX5_heightWith 3 RX5 D ad cA A) (hr : meth.sig.returnType = (some .int)) : tabOK (K p l e (rmL lv) s m args below meth c D ad cA A 3 0 0 (MQ below (QcW Φ D ad cA A) args s 0 0 A)) (tb_X5_heightWith Φ) :=
  ⟨sq_aload_n X rfl dX5_heightWith_0,
  sq_gf X (ci := 5) rfl inX5 gdX5 (by decide) fl_X5_22 dX5_heightWith_1,
  sq_iload_n X rfl dX5_heightWith_4,
  sq_iald X dX5_heightWith_5,
  sq_iconst X (by decide) dX5_heightWith_6,
  sq_iadd X dX5_heightWith_7,
  sq_iload_n X rfl dX5_heightWith_8,
  sq_ic_le X (by decide) dX5_heightWith_9,
  sq_aload_n X rfl dX5_heightWith_12,
  sq_gf X (ci := 5) rfl inX5 gdX5 (by decide) fl_X5_22 dX5_heightWith_13,
  sq_iload_n X rfl dX5_heightWith_16,
  sq_iald X dX5_heightWith_17,
  sq_iconst X (by decide) dX5_heightWith_18,
  sq_iadd X dX5_heightWith_19,
  sq_goto X (by decide) dX5_heightWith_20,
  sq_iload_n X rfl dX5_heightWith_23,
  sq_iret X hr dX5_heightWith_24, trivial⟩
def tb_X5_make (Φ : Post) (S_X5_fitting S_X5_refuse S_X5_firstIsNode S_X5_heightWith S_X5_secondIsNode : SpecT) : List (Nat × Tr) := [
  (0, tq_ald 0 1),
  (1, tq_push 0 2),
  (2, tq_pf 5 0 5),
  (5, tq_ald 0 6),
  (6, tq_ild 1 7),
  (7, tq_ild 2 8),
  (8, tq_ild 3 9),
  (9, tq_ild 4 11),
  (11, tq_cv 5 5 S_X5_fitting 14),
  (14, tq_if_ne 23 17),
  (17, tq_ald 0 18),
  (18, tq_push 1 19),
  (19, tq_cv 5 2 S_X5_refuse 22),
  (22, tq_iret Φ),
  (23, tq_push 1 24),
  (24, tq_ist 5 26),
  (26, tq_ild 1 27),
  (27, tq_cs 1 S_X5_firstIsNode 30),
  (30, tq_if_eq 43 33),
  (33, tq_ald 0 34),
  (34, tq_ild 5 36),
  (36, tq_ild 2 37),
  (37, tq_cv 5 3 S_X5_heightWith 40),
  (40, tq_goto 45),
  (43, tq_ild 5 45),
  (45, tq_ist 5 47),
  (47, tq_ild 1 48),
  (48, tq_cs 1 S_X5_secondIsNode 51),
  (51, tq_if_eq 64 54),
  (54, tq_ald 0 55),
  (55, tq_ild 5 57),
  (57, tq_ild 3 58),
  (58, tq_cv 5 3 S_X5_heightWith 61),
  (61, tq_goto 66),
  (64, tq_ild 5 66),
  (66, tq_ist 5 68),
  (68, tq_ild 1 69),
  (69, tq_push 13 71),
  (71, tq_ic_le 85 74),
  (74, tq_ald 0 75),
  (75, tq_ild 5 77),
  (77, tq_ild 4 79),
  (79, tq_cv 5 3 S_X5_heightWith 82),
  (82, tq_goto 87),
  (85, tq_ild 5 87),
  (87, tq_ist 5 89),
  (89, tq_ald 0 90),
  (90, tq_gf 5 1 93),
  (93, tq_push 60 95),
  (95, tq_ic_eq 105 98),
  (98, tq_ild 5 100),
  (100, tq_push 6 102),
  (102, tq_ic_le 111 105),
  (105, tq_ald 0 106),
  (106, tq_push 2 107),
  (107, tq_cv 5 2 S_X5_refuse 110),
  (110, tq_iret Φ),
  (111, tq_ald 0 112),
  (112, tq_gf 5 2 115),
  (115, tq_ald 0 116),
  (116, tq_gf 5 1 119),
  (119, tq_ild 1 120),
  (120, tq_iast 121),
  (121, tq_ald 0 122),
  (122, tq_gf 5 3 125),
  (125, tq_ald 0 126),
  (126, tq_gf 5 1 129),
  (129, tq_ild 2 130),
  (130, tq_iast 131),
  (131, tq_ald 0 132),
  (132, tq_gf 5 4 135),
  (135, tq_ald 0 136),
  (136, tq_gf 5 1 139),
  (139, tq_ild 3 140),
  (140, tq_iast 141),
  (141, tq_ald 0 142),
  (142, tq_gf 5 5 145),
  (145, tq_ald 0 146),
  (146, tq_gf 5 1 149),
  (149, tq_ild 4 151),
  (151, tq_iast 152),
  (152, tq_ald 0 153),
  (153, tq_gf 5 6 156),
  (156, tq_ald 0 157),
  (157, tq_gf 5 1 160),
  (160, tq_ild 5 162),
  (162, tq_iast 163),
  (163, tq_ald 0 164),
  (164, tq_gf 5 7 167),
  (167, tq_ald 0 168),
  (168, tq_gf 5 1 171),
  (171, tq_pushL 1 172),
  (172, tq_ald 0 173),
  (173, tq_gf 5 1 176),
  (176, tq_lshl 177),
  (177, tq_ild 1 178),
  (178, tq_cs 1 S_X5_firstIsNode 181),
  (181, tq_if_eq 193 184),
  (184, tq_ald 0 185),
  (185, tq_gf 5 7 188),
  (188, tq_ild 2 189),
  (189, tq_lald 190),
  (190, tq_goto 194),
  (193, tq_pushL 0 194),
  (194, tq_lor 195),
  (195, tq_ild 1 196),
  (196, tq_cs 1 S_X5_secondIsNode 199),
  (199, tq_if_eq 211 202),
  (202, tq_ald 0 203),
  (203, tq_gf 5 7 206),
  (206, tq_ild 3 207),
  (207, tq_lald 208),
  (208, tq_goto 212),
  (211, tq_pushL 0 212),
  (212, tq_lor 213),
  (213, tq_last 214),
  (214, tq_ald 0 215),
  (215, tq_dup 216),
  (216, tq_gf 5 1 219),
  (219, tq_push 1 220),
  (220, tq_iadd 221),
  (221, tq_pf 5 1 224),
  (224, tq_ald 0 225),
  (225, tq_gf 5 1 228),
  (228, tq_push 1 229),
  (229, tq_isub 230),
  (230, tq_iret Φ)]
set_option maxRecDepth 100000 in
theorem tk_X5_make {p : Program} {l : Launch} {e : Env} {s s0 : State} {a0 : Array Value} {m : MethodId} {args : Array Value} {below : List Frame} {meth : Method} {c : Code} {D : va_G} {ad : Nat → Nat → Nat} {cA : Nat → ClassId} {A : Nat → Prop} {lv : Nat} {Φ : Post} (X : Cx p l s0 a0 s m args meth c cX5_make 6 RX5 D ad cA A) (hr : meth.sig.returnType = (some .int)) {S_X5_fitting : SpecT} {v_X5_fitting : Nat} (h_X5_fitting : Con l yX5_fitting cX5_fitting 5 (some .boolean) 5 v_X5_fitting S_X5_fitting) (g_X5_fitting : v_X5_fitting + 1 ≤ lv) {S_X5_refuse : SpecT} {v_X5_refuse : Nat} (h_X5_refuse : Con l yX5_refuse cX5_refuse 2 (some .int) 2 v_X5_refuse S_X5_refuse) (g_X5_refuse : v_X5_refuse + 1 ≤ lv) {S_X5_firstIsNode : SpecT} {v_X5_firstIsNode : Nat} (h_X5_firstIsNode : Con l yX5_firstIsNode cX5_firstIsNode 1 (some .boolean) 1 v_X5_firstIsNode S_X5_firstIsNode) (g_X5_firstIsNode : v_X5_firstIsNode + 1 ≤ lv) {S_X5_heightWith : SpecT} {v_X5_heightWith : Nat} (h_X5_heightWith : Con l yX5_heightWith cX5_heightWith 3 (some .int) 3 v_X5_heightWith S_X5_heightWith) (g_X5_heightWith : v_X5_heightWith + 1 ≤ lv) {S_X5_secondIsNode : SpecT} {v_X5_secondIsNode : Nat} (h_X5_secondIsNode : Con l yX5_secondIsNode cX5_secondIsNode 1 (some .boolean) 1 v_X5_secondIsNode S_X5_secondIsNode) (g_X5_secondIsNode : v_X5_secondIsNode + 1 ≤ lv) : tabOK (K p l e (rmL lv) s m args below meth c D ad cA A 6 0 0 (MQ below (QcW Φ D ad cA A) args s 0 0 A)) (tb_X5_make Φ S_X5_fitting S_X5_refuse S_X5_firstIsNode S_X5_heightWith S_X5_secondIsNode) :=
  ⟨sq_aload_n X rfl dX5_make_0,
  sq_iconst X (by decide) dX5_make_1,
  sq_pf X (ci := 5) rfl inX5 gdX5 tyX5 tyX5_ok nmX5 (by decide) fl_X5_78 rfl rfl dX5_make_2,
  sq_aload_n X rfl dX5_make_5,
  sq_iload_n X rfl dX5_make_6,
  sq_iload_n X rfl dX5_make_7,
  sq_iload_n X rfl dX5_make_8,
  sq_iload X dX5_make_9,
  sq_cv X h_X5_fitting ⟨_, _, rfl⟩ cw_X5_102 ⟨rfl, by decide, by decide, by decide +kernel⟩ (by decide +kernel) (lev_ok g_X5_fitting (by decide)) ⟨Nat.zero_le _, Nat.zero_le _⟩ dX5_make_11,
  sq_if_ne X (by decide) dX5_make_14,
  sq_aload_n X rfl dX5_make_17,
  sq_iconst X (by decide) dX5_make_18,
  sq_cv X h_X5_refuse ⟨_, _, rfl⟩ cw_X5_106 ⟨rfl, by decide, by decide, by decide +kernel⟩ (by decide +kernel) (lev_ok g_X5_refuse (by decide)) ⟨Nat.zero_le _, Nat.zero_le _⟩ dX5_make_19,
  sq_iret X hr dX5_make_22,
  sq_iconst X (by decide) dX5_make_23,
  sq_istore X (by decide) dX5_make_24,
  sq_iload_n X rfl dX5_make_26,
  sq_cs X h_X5_firstIsNode cw_X5_110 ⟨by decide, by decide, by decide +kernel⟩ (by decide +kernel) (lev_ok g_X5_firstIsNode (by decide)) ⟨Nat.zero_le _, Nat.zero_le _⟩ dX5_make_27,
  sq_if_eq X (by decide) dX5_make_30,
  sq_aload_n X rfl dX5_make_33,
  sq_iload X dX5_make_34,
  sq_iload_n X rfl dX5_make_36,
  sq_cv X h_X5_heightWith ⟨_, _, rfl⟩ cw_X5_113 ⟨rfl, by decide, by decide, by decide +kernel⟩ (by decide +kernel) (lev_ok g_X5_heightWith (by decide)) ⟨Nat.zero_le _, Nat.zero_le _⟩ dX5_make_37,
  sq_goto X (by decide) dX5_make_40,
  sq_iload X dX5_make_43,
  sq_istore X (by decide) dX5_make_45,
  sq_iload_n X rfl dX5_make_47,
  sq_cs X h_X5_secondIsNode cw_X5_117 ⟨by decide, by decide, by decide +kernel⟩ (by decide +kernel) (lev_ok g_X5_secondIsNode (by decide)) ⟨Nat.zero_le _, Nat.zero_le _⟩ dX5_make_48,
  sq_if_eq X (by decide) dX5_make_51,
  sq_aload_n X rfl dX5_make_54,
  sq_iload X dX5_make_55,
  sq_iload_n X rfl dX5_make_57,
  sq_cv X h_X5_heightWith ⟨_, _, rfl⟩ cw_X5_113 ⟨rfl, by decide, by decide, by decide +kernel⟩ (by decide +kernel) (lev_ok g_X5_heightWith (by decide)) ⟨Nat.zero_le _, Nat.zero_le _⟩ dX5_make_58,
  sq_goto X (by decide) dX5_make_61,
  sq_iload X dX5_make_64,
  sq_istore X (by decide) dX5_make_66,
  sq_iload_n X rfl dX5_make_68,
  sq_bipush X (by decide) dX5_make_69,
  sq_ic_le X (by decide) dX5_make_71,
  sq_aload_n X rfl dX5_make_74,
  sq_iload X dX5_make_75,
  sq_iload X dX5_make_77,
  sq_cv X h_X5_heightWith ⟨_, _, rfl⟩ cw_X5_113 ⟨rfl, by decide, by decide, by decide +kernel⟩ (by decide +kernel) (lev_ok g_X5_heightWith (by decide)) ⟨Nat.zero_le _, Nat.zero_le _⟩ dX5_make_79,
  sq_goto X (by decide) dX5_make_82,
  sq_iload X dX5_make_85,
  sq_istore X (by decide) dX5_make_87,
  sq_aload_n X rfl dX5_make_89,
  sq_gf X (ci := 5) rfl inX5 gdX5 (by decide) fl_X5_82 dX5_make_90,
  sq_bipush X (by decide) dX5_make_93,
  sq_ic_eq X (by decide) dX5_make_95,
  sq_iload X dX5_make_98,
  sq_bipush X (by decide) dX5_make_100,
  sq_ic_le X (by decide) dX5_make_102,
  sq_aload_n X rfl dX5_make_105,
  sq_iconst X (by decide) dX5_make_106,
  sq_cv X h_X5_refuse ⟨_, _, rfl⟩ cw_X5_106 ⟨rfl, by decide, by decide, by decide +kernel⟩ (by decide +kernel) (lev_ok g_X5_refuse (by decide)) ⟨Nat.zero_le _, Nat.zero_le _⟩ dX5_make_107,
  sq_iret X hr dX5_make_110,
  sq_aload_n X rfl dX5_make_111,
  sq_gf X (ci := 5) rfl inX5 gdX5 (by decide) fl_X5_7 dX5_make_112,
  sq_aload_n X rfl dX5_make_115,
  sq_gf X (ci := 5) rfl inX5 gdX5 (by decide) fl_X5_82 dX5_make_116,
  sq_iload_n X rfl dX5_make_119,
  sq_iast X dX5_make_120,
  sq_aload_n X rfl dX5_make_121,
  sq_gf X (ci := 5) rfl inX5 gdX5 (by decide) fl_X5_13 dX5_make_122,
  sq_aload_n X rfl dX5_make_125,
  sq_gf X (ci := 5) rfl inX5 gdX5 (by decide) fl_X5_82 dX5_make_126,
  sq_iload_n X rfl dX5_make_129,
  sq_iast X dX5_make_130,
  sq_aload_n X rfl dX5_make_131,
  sq_gf X (ci := 5) rfl inX5 gdX5 (by decide) fl_X5_16 dX5_make_132,
  sq_aload_n X rfl dX5_make_135,
  sq_gf X (ci := 5) rfl inX5 gdX5 (by decide) fl_X5_82 dX5_make_136,
  sq_iload_n X rfl dX5_make_139,
  sq_iast X dX5_make_140,
  sq_aload_n X rfl dX5_make_141,
  sq_gf X (ci := 5) rfl inX5 gdX5 (by decide) fl_X5_19 dX5_make_142,
  sq_aload_n X rfl dX5_make_145,
  sq_gf X (ci := 5) rfl inX5 gdX5 (by decide) fl_X5_82 dX5_make_146,
  sq_iload X dX5_make_149,
  sq_iast X dX5_make_151,
  sq_aload_n X rfl dX5_make_152,
  sq_gf X (ci := 5) rfl inX5 gdX5 (by decide) fl_X5_22 dX5_make_153,
  sq_aload_n X rfl dX5_make_156,
  sq_gf X (ci := 5) rfl inX5 gdX5 (by decide) fl_X5_82 dX5_make_157,
  sq_iload X dX5_make_160,
  sq_iast X dX5_make_162,
  sq_aload_n X rfl dX5_make_163,
  sq_gf X (ci := 5) rfl inX5 gdX5 (by decide) fl_X5_25 dX5_make_164,
  sq_aload_n X rfl dX5_make_167,
  sq_gf X (ci := 5) rfl inX5 gdX5 (by decide) fl_X5_82 dX5_make_168,
  sq_lconst X (by decide) dX5_make_171,
  sq_aload_n X rfl dX5_make_172,
  sq_gf X (ci := 5) rfl inX5 gdX5 (by decide) fl_X5_82 dX5_make_173,
  sq_lshl X dX5_make_176,
  sq_iload_n X rfl dX5_make_177,
  sq_cs X h_X5_firstIsNode cw_X5_110 ⟨by decide, by decide, by decide +kernel⟩ (by decide +kernel) (lev_ok g_X5_firstIsNode (by decide)) ⟨Nat.zero_le _, Nat.zero_le _⟩ dX5_make_178,
  sq_if_eq X (by decide) dX5_make_181,
  sq_aload_n X rfl dX5_make_184,
  sq_gf X (ci := 5) rfl inX5 gdX5 (by decide) fl_X5_25 dX5_make_185,
  sq_iload_n X rfl dX5_make_188,
  sq_lald X dX5_make_189,
  sq_goto X (by decide) dX5_make_190,
  sq_lconst X (by decide) dX5_make_193,
  sq_lor X dX5_make_194,
  sq_iload_n X rfl dX5_make_195,
  sq_cs X h_X5_secondIsNode cw_X5_117 ⟨by decide, by decide, by decide +kernel⟩ (by decide +kernel) (lev_ok g_X5_secondIsNode (by decide)) ⟨Nat.zero_le _, Nat.zero_le _⟩ dX5_make_196,
  sq_if_eq X (by decide) dX5_make_199,
  sq_aload_n X rfl dX5_make_202,
  sq_gf X (ci := 5) rfl inX5 gdX5 (by decide) fl_X5_25 dX5_make_203,
  sq_iload_n X rfl dX5_make_206,
  sq_lald X dX5_make_207,
  sq_goto X (by decide) dX5_make_208,
  sq_lconst X (by decide) dX5_make_211,
  sq_lor X dX5_make_212,
  sq_last X dX5_make_213,
  sq_aload_n X rfl dX5_make_214,
  sq_dup X dX5_make_215,
  sq_gf X (ci := 5) rfl inX5 gdX5 (by decide) fl_X5_82 dX5_make_216,
  sq_iconst X (by decide) dX5_make_219,
  sq_iadd X dX5_make_220,
  sq_pf X (ci := 5) rfl inX5 gdX5 tyX5 tyX5_ok nmX5 (by decide) fl_X5_82 rfl rfl dX5_make_221,
  sq_aload_n X rfl dX5_make_224,
  sq_gf X (ci := 5) rfl inX5 gdX5 (by decide) fl_X5_82 dX5_make_225,
  sq_iconst X (by decide) dX5_make_228,
  sq_isub X dX5_make_229,
  sq_iret X hr dX5_make_230, trivial⟩
def tb_X5_variable (Φ : Post) : List (Nat × Tr) := [
  (0, tq_ild 0 1),
  (1, tq_push 4 2),
  (2, tq_ild 1 3),
  (3, tq_imul 4),
  (4, tq_ishr 5),
  (5, tq_push 15 7),
  (7, tq_iand 8),
  (8, tq_iret Φ)]
set_option maxRecDepth 100000 in
theorem tk_X5_variable {p : Program} {l : Launch} {e : Env} {s s0 : State} {a0 : Array Value} {m : MethodId} {args : Array Value} {below : List Frame} {meth : Method} {c : Code} {D : va_G} {ad : Nat → Nat → Nat} {cA : Nat → ClassId} {A : Nat → Prop} {lv : Nat} {Φ : Post} (X : Cx p l s0 a0 s m args meth c cX5_variable 2 RX5 D ad cA A) (hr : meth.sig.returnType = (some .int)) : tabOK (K p l e (rmL lv) s m args below meth c D ad cA A 2 0 0 (MQ below (QcW Φ D ad cA A) args s 0 0 A)) (tb_X5_variable Φ) :=
  ⟨sq_iload_n X rfl dX5_variable_0,
  sq_iconst X (by decide) dX5_variable_1,
  sq_iload_n X rfl dX5_variable_2,
  sq_imul X dX5_variable_3,
  sq_ishr X dX5_variable_4,
  sq_bipush X (by decide) dX5_variable_5,
  sq_iand X dX5_variable_7,
  sq_iret X hr dX5_variable_8, trivial⟩
def tb_X5_give (Φ : Post) (S_X5_reckon : SpecT) : List (Nat × Tr) := [
  (0, tq_push 0 1),
  (1, tq_ist 3 2),
  (2, tq_ild 3 3),
  (3, tq_ild 1 4),
  (4, tq_ic_gt 40 7),
  (7, tq_ald 0 8),
  (8, tq_gf 5 7 11),
  (11, tq_ild 1 12),
  (12, tq_lald 13),
  (13, tq_ild 3 14),
  (14, tq_lshr 15),
  (15, tq_pushL 1 16),
  (16, tq_land 17),
  (17, tq_pushL 1 18),
  (18, tq_lcmp 19),
  (19, tq_if_ne 34 22),
  (22, tq_ald 0 23),
  (23, tq_gf 5 8 26),
  (26, tq_ild 3 27),
  (27, tq_ald 0 28),
  (28, tq_ild 3 29),
  (29, tq_ild 2 30),
  (30, tq_cv 5 3 S_X5_reckon 33),
  (33, tq_iast 34),
  (34, tq_iinc 3 1 37),
  (37, tq_goto 2),
  (40, tq_ald 0 41),
  (41, tq_gf 5 8 44),
  (44, tq_ild 1 45),
  (45, tq_iald 46),
  (46, tq_iret Φ)]
set_option maxRecDepth 100000 in
theorem tk_X5_give {p : Program} {l : Launch} {e : Env} {s s0 : State} {a0 : Array Value} {m : MethodId} {args : Array Value} {below : List Frame} {meth : Method} {c : Code} {D : va_G} {ad : Nat → Nat → Nat} {cA : Nat → ClassId} {A : Nat → Prop} {lv : Nat} {Φ : Post} (X : Cx p l s0 a0 s m args meth c cX5_give 4 RX5 D ad cA A) (hr : meth.sig.returnType = (some .int)) {S_X5_reckon : SpecT} {v_X5_reckon : Nat} (h_X5_reckon : Con l yX5_reckon cX5_reckon 6 (some .int) 3 v_X5_reckon S_X5_reckon) (g_X5_reckon : v_X5_reckon + 1 ≤ lv) : tabOK (K p l e (rmL lv) s m args below meth c D ad cA A 4 0 0 (MQ below (QcW Φ D ad cA A) args s 0 0 A)) (tb_X5_give Φ S_X5_reckon) :=
  ⟨sq_iconst X (by decide) dX5_give_0,
  sq_istore_n X rfl (by decide) dX5_give_1,
  sq_iload_n X rfl dX5_give_2,
  sq_iload_n X rfl dX5_give_3,
  sq_ic_gt X (by decide) dX5_give_4,
  sq_aload_n X rfl dX5_give_7,
  sq_gf X (ci := 5) rfl inX5 gdX5 (by decide) fl_X5_25 dX5_give_8,
  sq_iload_n X rfl dX5_give_11,
  sq_lald X dX5_give_12,
  sq_iload_n X rfl dX5_give_13,
  sq_lshr X dX5_give_14,
  sq_lconst X (by decide) dX5_give_15,
  sq_land X dX5_give_16,
  sq_lconst X (by decide) dX5_give_17,
  sq_lcmp X dX5_give_18,
  sq_if_ne X (by decide) dX5_give_19,
  sq_aload_n X rfl dX5_give_22,
  sq_gf X (ci := 5) rfl inX5 gdX5 (by decide) fl_X5_29 dX5_give_23,
  sq_iload_n X rfl dX5_give_26,
  sq_aload_n X rfl dX5_give_27,
  sq_iload_n X rfl dX5_give_28,
  sq_iload_n X rfl dX5_give_29,
  sq_cv X h_X5_reckon ⟨_, _, rfl⟩ cw_X5_120 ⟨rfl, by decide, by decide, by decide +kernel⟩ (by decide +kernel) (lev_ok g_X5_reckon (by decide)) ⟨Nat.zero_le _, Nat.zero_le _⟩ dX5_give_30,
  sq_iast X dX5_give_33,
  sq_iinc X (by decide) (by decide) dX5_give_34,
  sq_goto X (by decide) dX5_give_37,
  sq_aload_n X rfl dX5_give_40,
  sq_gf X (ci := 5) rfl inX5 gdX5 (by decide) fl_X5_29 dX5_give_41,
  sq_iload_n X rfl dX5_give_44,
  sq_iald X dX5_give_45,
  sq_iret X hr dX5_give_46, trivial⟩
def tb_X5_reckon (Φ : Post) (S_X5_firstIsNode S_X5_secondIsNode S_X5_variable : SpecT) : List (Nat × Tr) := [
  (0, tq_ald 0 1),
  (1, tq_gf 5 3 4),
  (4, tq_ild 1 5),
  (5, tq_iald 6),
  (6, tq_ist 3 7),
  (7, tq_ald 0 8),
  (8, tq_gf 5 2 11),
  (11, tq_ild 1 12),
  (12, tq_iald 13),
  (13, tq_cs 1 S_X5_firstIsNode 16),
  (16, tq_if_eq 28 19),
  (19, tq_ald 0 20),
  (20, tq_gf 5 8 23),
  (23, tq_ild 3 24),
  (24, tq_iald 25),
  (25, tq_goto 29),
  (28, tq_ild 3 29),
  (29, tq_ist 4 31),
  (31, tq_ald 0 32),
  (32, tq_gf 5 2 35),
  (35, tq_ild 1 36),
  (36, tq_iald 37),
  (37, tq_cs 1 S_X5_secondIsNode 40),
  (40, tq_if_eq 57 43),
  (43, tq_ald 0 44),
  (44, tq_gf 5 8 47),
  (47, tq_ald 0 48),
  (48, tq_gf 5 4 51),
  (51, tq_ild 1 52),
  (52, tq_iald 53),
  (53, tq_iald 54),
  (54, tq_goto 58),
  (57, tq_push 0 58),
  (58, tq_ist 5 60),
  (60, tq_ald 0 61),
  (61, tq_gf 5 2 64),
  (64, tq_ild 1 65),
  (65, tq_iald 66),
  (66, tq_sw 195 [(0, 120), (1, 122), (2, 128), (3, 134), (4, 140), (5, 145), (6, 158), (7, 171), (8, 184), (9, 189)]),
  (120, tq_ild 3 121),
  (121, tq_iret Φ),
  (122, tq_ild 2 123),
  (123, tq_ild 3 124),
  (124, tq_cs 2 S_X5_variable 127),
  (127, tq_iret Φ),
  (128, tq_ild 4 130),
  (130, tq_ild 5 132),
  (132, tq_iadd 133),
  (133, tq_iret Φ),
  (134, tq_ild 4 136),
  (136, tq_ild 5 138),
  (138, tq_isub 139),
  (139, tq_iret Φ),
  (140, tq_ild 3 141),
  (141, tq_ild 5 143),
  (143, tq_imul 144),
  (144, tq_iret Φ),
  (145, tq_ild 4 147),
  (147, tq_ild 5 149),
  (149, tq_ic_ge 156 152),
  (152, tq_push 1 153),
  (153, tq_goto 157),
  (156, tq_push 0 157),
  (157, tq_iret Φ),
  (158, tq_ild 4 160),
  (160, tq_ild 5 162),
  (162, tq_ic_ne 169 165),
  (165, tq_push 1 166),
  (166, tq_goto 170),
  (169, tq_push 0 170),
  (170, tq_iret Φ),
  (171, tq_ild 5 173),
  (173, tq_ild 3 174),
  (174, tq_irem 175),
  (175, tq_if_ne 182 178),
  (178, tq_push 1 179),
  (179, tq_goto 183),
  (182, tq_push 0 183),
  (183, tq_iret Φ),
  (184, tq_push 1 185),
  (185, tq_ild 4 187),
  (187, tq_isub 188),
  (188, tq_iret Φ),
  (189, tq_ild 4 191),
  (191, tq_ild 5 193),
  (193, tq_iand 194),
  (194, tq_iret Φ),
  (195, tq_ild 4 197),
  (197, tq_ild 5 199),
  (199, tq_ior 200),
  (200, tq_iret Φ)]
set_option maxRecDepth 100000 in
theorem tk_X5_reckon {p : Program} {l : Launch} {e : Env} {s s0 : State} {a0 : Array Value} {m : MethodId} {args : Array Value} {below : List Frame} {meth : Method} {c : Code} {D : va_G} {ad : Nat → Nat → Nat} {cA : Nat → ClassId} {A : Nat → Prop} {lv : Nat} {Φ : Post} (X : Cx p l s0 a0 s m args meth c cX5_reckon 6 RX5 D ad cA A) (hr : meth.sig.returnType = (some .int)) {S_X5_firstIsNode : SpecT} {v_X5_firstIsNode : Nat} (h_X5_firstIsNode : Con l yX5_firstIsNode cX5_firstIsNode 1 (some .boolean) 1 v_X5_firstIsNode S_X5_firstIsNode) (g_X5_firstIsNode : v_X5_firstIsNode + 1 ≤ lv) {S_X5_secondIsNode : SpecT} {v_X5_secondIsNode : Nat} (h_X5_secondIsNode : Con l yX5_secondIsNode cX5_secondIsNode 1 (some .boolean) 1 v_X5_secondIsNode S_X5_secondIsNode) (g_X5_secondIsNode : v_X5_secondIsNode + 1 ≤ lv) {S_X5_variable : SpecT} {v_X5_variable : Nat} (h_X5_variable : Con l yX5_variable cX5_variable 2 (some .int) 2 v_X5_variable S_X5_variable) (g_X5_variable : v_X5_variable + 1 ≤ lv) : tabOK (K p l e (rmL lv) s m args below meth c D ad cA A 6 0 0 (MQ below (QcW Φ D ad cA A) args s 0 0 A)) (tb_X5_reckon Φ S_X5_firstIsNode S_X5_secondIsNode S_X5_variable) :=
  ⟨sq_aload_n X rfl dX5_reckon_0,
  sq_gf X (ci := 5) rfl inX5 gdX5 (by decide) fl_X5_13 dX5_reckon_1,
  sq_iload_n X rfl dX5_reckon_4,
  sq_iald X dX5_reckon_5,
  sq_istore_n X rfl (by decide) dX5_reckon_6,
  sq_aload_n X rfl dX5_reckon_7,
  sq_gf X (ci := 5) rfl inX5 gdX5 (by decide) fl_X5_7 dX5_reckon_8,
  sq_iload_n X rfl dX5_reckon_11,
  sq_iald X dX5_reckon_12,
  sq_cs X h_X5_firstIsNode cw_X5_110 ⟨by decide, by decide, by decide +kernel⟩ (by decide +kernel) (lev_ok g_X5_firstIsNode (by decide)) ⟨Nat.zero_le _, Nat.zero_le _⟩ dX5_reckon_13,
  sq_if_eq X (by decide) dX5_reckon_16,
  sq_aload_n X rfl dX5_reckon_19,
  sq_gf X (ci := 5) rfl inX5 gdX5 (by decide) fl_X5_29 dX5_reckon_20,
  sq_iload_n X rfl dX5_reckon_23,
  sq_iald X dX5_reckon_24,
  sq_goto X (by decide) dX5_reckon_25,
  sq_iload_n X rfl dX5_reckon_28,
  sq_istore X (by decide) dX5_reckon_29,
  sq_aload_n X rfl dX5_reckon_31,
  sq_gf X (ci := 5) rfl inX5 gdX5 (by decide) fl_X5_7 dX5_reckon_32,
  sq_iload_n X rfl dX5_reckon_35,
  sq_iald X dX5_reckon_36,
  sq_cs X h_X5_secondIsNode cw_X5_117 ⟨by decide, by decide, by decide +kernel⟩ (by decide +kernel) (lev_ok g_X5_secondIsNode (by decide)) ⟨Nat.zero_le _, Nat.zero_le _⟩ dX5_reckon_37,
  sq_if_eq X (by decide) dX5_reckon_40,
  sq_aload_n X rfl dX5_reckon_43,
  sq_gf X (ci := 5) rfl inX5 gdX5 (by decide) fl_X5_29 dX5_reckon_44,
  sq_aload_n X rfl dX5_reckon_47,
  sq_gf X (ci := 5) rfl inX5 gdX5 (by decide) fl_X5_16 dX5_reckon_48,
  sq_iload_n X rfl dX5_reckon_51,
  sq_iald X dX5_reckon_52,
  sq_iald X dX5_reckon_53,
  sq_goto X (by decide) dX5_reckon_54,
  sq_iconst X (by decide) dX5_reckon_57,
  sq_istore X (by decide) dX5_reckon_58,
  sq_aload_n X rfl dX5_reckon_60,
  sq_gf X (ci := 5) rfl inX5 gdX5 (by decide) fl_X5_7 dX5_reckon_61,
  sq_iload_n X rfl dX5_reckon_64,
  sq_iald X dX5_reckon_65,
  sq_sw X (by decide) rfl (by decide) (by decide) dX5_reckon_66,
  sq_iload_n X rfl dX5_reckon_120,
  sq_iret X hr dX5_reckon_121,
  sq_iload_n X rfl dX5_reckon_122,
  sq_iload_n X rfl dX5_reckon_123,
  sq_cs X h_X5_variable cw_X5_123 ⟨by decide, by decide, by decide +kernel⟩ (by decide +kernel) (lev_ok g_X5_variable (by decide)) ⟨Nat.zero_le _, Nat.zero_le _⟩ dX5_reckon_124,
  sq_iret X hr dX5_reckon_127,
  sq_iload X dX5_reckon_128,
  sq_iload X dX5_reckon_130,
  sq_iadd X dX5_reckon_132,
  sq_iret X hr dX5_reckon_133,
  sq_iload X dX5_reckon_134,
  sq_iload X dX5_reckon_136,
  sq_isub X dX5_reckon_138,
  sq_iret X hr dX5_reckon_139,
  sq_iload_n X rfl dX5_reckon_140,
  sq_iload X dX5_reckon_141,
  sq_imul X dX5_reckon_143,
  sq_iret X hr dX5_reckon_144,
  sq_iload X dX5_reckon_145,
  sq_iload X dX5_reckon_147,
  sq_ic_ge X (by decide) dX5_reckon_149,
  sq_iconst X (by decide) dX5_reckon_152,
  sq_goto X (by decide) dX5_reckon_153,
  sq_iconst X (by decide) dX5_reckon_156,
  sq_iret X hr dX5_reckon_157,
  sq_iload X dX5_reckon_158,
  sq_iload X dX5_reckon_160,
  sq_ic_ne X (by decide) dX5_reckon_162,
  sq_iconst X (by decide) dX5_reckon_165,
  sq_goto X (by decide) dX5_reckon_166,
  sq_iconst X (by decide) dX5_reckon_169,
  sq_iret X hr dX5_reckon_170,
  sq_iload X dX5_reckon_171,
  sq_iload_n X rfl dX5_reckon_173,
  sq_irem X dX5_reckon_174,
  sq_if_ne X (by decide) dX5_reckon_175,
  sq_iconst X (by decide) dX5_reckon_178,
  sq_goto X (by decide) dX5_reckon_179,
  sq_iconst X (by decide) dX5_reckon_182,
  sq_iret X hr dX5_reckon_183,
  sq_iconst X (by decide) dX5_reckon_184,
  sq_iload X dX5_reckon_185,
  sq_isub X dX5_reckon_187,
  sq_iret X hr dX5_reckon_188,
  sq_iload X dX5_reckon_189,
  sq_iload X dX5_reckon_191,
  sq_iand X dX5_reckon_193,
  sq_iret X hr dX5_reckon_194,
  sq_iload X dX5_reckon_195,
  sq_iload X dX5_reckon_197,
  sq_ior X dX5_reckon_199,
  sq_iret X hr dX5_reckon_200, trivial⟩
def tb_X5_isTrue (Φ : Post) (S_X5_give : SpecT) : List (Nat × Tr) := [
  (0, tq_ald 0 1),
  (1, tq_ild 1 2),
  (2, tq_ild 2 3),
  (3, tq_cv 5 3 S_X5_give 6),
  (6, tq_push 1 7),
  (7, tq_ic_ne 14 10),
  (10, tq_push 1 11),
  (11, tq_goto 15),
  (14, tq_push 0 15),
  (15, tq_zret Φ)]
set_option maxRecDepth 100000 in
theorem tk_X5_isTrue {p : Program} {l : Launch} {e : Env} {s s0 : State} {a0 : Array Value} {m : MethodId} {args : Array Value} {below : List Frame} {meth : Method} {c : Code} {D : va_G} {ad : Nat → Nat → Nat} {cA : Nat → ClassId} {A : Nat → Prop} {lv : Nat} {Φ : Post} (X : Cx p l s0 a0 s m args meth c cX5_isTrue 3 RX5 D ad cA A) (hr : meth.sig.returnType = (some .boolean)) {S_X5_give : SpecT} {v_X5_give : Nat} (h_X5_give : Con l yX5_give cX5_give 4 (some .int) 3 v_X5_give S_X5_give) (g_X5_give : v_X5_give + 1 ≤ lv) : tabOK (K p l e (rmL lv) s m args below meth c D ad cA A 3 0 0 (MQ below (QcW Φ D ad cA A) args s 0 0 A)) (tb_X5_isTrue Φ S_X5_give) :=
  ⟨sq_aload_n X rfl dX5_isTrue_0,
  sq_iload_n X rfl dX5_isTrue_1,
  sq_iload_n X rfl dX5_isTrue_2,
  sq_cv X h_X5_give ⟨_, _, rfl⟩ cw_X5_126 ⟨rfl, by decide, by decide, by decide +kernel⟩ (by decide +kernel) (lev_ok g_X5_give (by decide)) ⟨Nat.zero_le _, Nat.zero_le _⟩ dX5_isTrue_3,
  sq_iconst X (by decide) dX5_isTrue_6,
  sq_ic_ne X (by decide) dX5_isTrue_7,
  sq_iconst X (by decide) dX5_isTrue_10,
  sq_goto X (by decide) dX5_isTrue_11,
  sq_iconst X (by decide) dX5_isTrue_14,
  sq_zret X hr dX5_isTrue_15, trivial⟩
def tb_X5_changed (Φ : Post) (S_X5_give : SpecT) : List (Nat × Tr) := [
  (0, tq_ald 0 1),
  (1, tq_ald 0 2),
  (2, tq_gf 5 4 5),
  (5, tq_ild 1 6),
  (6, tq_iald 7),
  (7, tq_ild 2 8),
  (8, tq_cv 5 3 S_X5_give 11),
  (11, tq_push 15 13),
  (13, tq_iand 14),
  (14, tq_ist 3 15),
  (15, tq_ild 2 16),
  (16, tq_push 15 18),
  (18, tq_push 4 19),
  (19, tq_ald 0 20),
  (20, tq_gf 5 3 23),
  (23, tq_ild 1 24),
  (24, tq_iald 25),
  (25, tq_imul 26),
  (26, tq_ishl 27),
  (27, tq_push (-1) 28),
  (28, tq_ixor 29),
  (29, tq_iand 30),
  (30, tq_ild 3 31),
  (31, tq_push 4 32),
  (32, tq_ald 0 33),
  (33, tq_gf 5 3 36),
  (36, tq_ild 1 37),
  (37, tq_iald 38),
  (38, tq_imul 39),
  (39, tq_ishl 40),
  (40, tq_ior 41),
  (41, tq_iret Φ)]
set_option maxRecDepth 100000 in
theorem tk_X5_changed {p : Program} {l : Launch} {e : Env} {s s0 : State} {a0 : Array Value} {m : MethodId} {args : Array Value} {below : List Frame} {meth : Method} {c : Code} {D : va_G} {ad : Nat → Nat → Nat} {cA : Nat → ClassId} {A : Nat → Prop} {lv : Nat} {Φ : Post} (X : Cx p l s0 a0 s m args meth c cX5_changed 4 RX5 D ad cA A) (hr : meth.sig.returnType = (some .int)) {S_X5_give : SpecT} {v_X5_give : Nat} (h_X5_give : Con l yX5_give cX5_give 4 (some .int) 3 v_X5_give S_X5_give) (g_X5_give : v_X5_give + 1 ≤ lv) : tabOK (K p l e (rmL lv) s m args below meth c D ad cA A 4 0 0 (MQ below (QcW Φ D ad cA A) args s 0 0 A)) (tb_X5_changed Φ S_X5_give) :=
  ⟨sq_aload_n X rfl dX5_changed_0,
  sq_aload_n X rfl dX5_changed_1,
  sq_gf X (ci := 5) rfl inX5 gdX5 (by decide) fl_X5_16 dX5_changed_2,
  sq_iload_n X rfl dX5_changed_5,
  sq_iald X dX5_changed_6,
  sq_iload_n X rfl dX5_changed_7,
  sq_cv X h_X5_give ⟨_, _, rfl⟩ cw_X5_126 ⟨rfl, by decide, by decide, by decide +kernel⟩ (by decide +kernel) (lev_ok g_X5_give (by decide)) ⟨Nat.zero_le _, Nat.zero_le _⟩ dX5_changed_8,
  sq_bipush X (by decide) dX5_changed_11,
  sq_iand X dX5_changed_13,
  sq_istore_n X rfl (by decide) dX5_changed_14,
  sq_iload_n X rfl dX5_changed_15,
  sq_bipush X (by decide) dX5_changed_16,
  sq_iconst X (by decide) dX5_changed_18,
  sq_aload_n X rfl dX5_changed_19,
  sq_gf X (ci := 5) rfl inX5 gdX5 (by decide) fl_X5_13 dX5_changed_20,
  sq_iload_n X rfl dX5_changed_23,
  sq_iald X dX5_changed_24,
  sq_imul X dX5_changed_25,
  sq_ishl X dX5_changed_26,
  sq_iconst X (by decide) dX5_changed_27,
  sq_ixor X dX5_changed_28,
  sq_iand X dX5_changed_29,
  sq_iload_n X rfl dX5_changed_30,
  sq_iconst X (by decide) dX5_changed_31,
  sq_aload_n X rfl dX5_changed_32,
  sq_gf X (ci := 5) rfl inX5 gdX5 (by decide) fl_X5_13 dX5_changed_33,
  sq_iload_n X rfl dX5_changed_36,
  sq_iald X dX5_changed_37,
  sq_imul X dX5_changed_38,
  sq_ishl X dX5_changed_39,
  sq_ior X dX5_changed_40,
  sq_iret X hr dX5_changed_41, trivial⟩
def tb_X5_value (Φ : Post) (S_X5_isExpression S_X5_in S_X5_refuse S_X5_give : SpecT) : List (Nat × Tr) := [
  (0, tq_ald 0 1),
  (1, tq_push 0 2),
  (2, tq_pf 5 0 5),
  (5, tq_ald 0 6),
  (6, tq_ild 1 7),
  (7, tq_cv 5 2 S_X5_isExpression 10),
  (10, tq_if_eq 24 13),
  (13, tq_ild 2 14),
  (14, tq_push 0 15),
  (15, tq_push 4095 18),
  (18, tq_cs 3 S_X5_in 21),
  (21, tq_if_ne 30 24),
  (24, tq_ald 0 25),
  (25, tq_push 1 26),
  (26, tq_cv 5 2 S_X5_refuse 29),
  (29, tq_iret Φ),
  (30, tq_ald 0 31),
  (31, tq_ild 1 32),
  (32, tq_ild 2 33),
  (33, tq_cv 5 3 S_X5_give 36),
  (36, tq_iret Φ)]
set_option maxRecDepth 100000 in
theorem tk_X5_value {p : Program} {l : Launch} {e : Env} {s s0 : State} {a0 : Array Value} {m : MethodId} {args : Array Value} {below : List Frame} {meth : Method} {c : Code} {D : va_G} {ad : Nat → Nat → Nat} {cA : Nat → ClassId} {A : Nat → Prop} {lv : Nat} {Φ : Post} (X : Cx p l s0 a0 s m args meth c cX5_value 3 RX5 D ad cA A) (hr : meth.sig.returnType = (some .int)) {S_X5_isExpression : SpecT} {v_X5_isExpression : Nat} (h_X5_isExpression : Con l yX5_isExpression cX5_isExpression 2 (some .boolean) 2 v_X5_isExpression S_X5_isExpression) (g_X5_isExpression : v_X5_isExpression + 1 ≤ lv) {S_X5_in : SpecT} {v_X5_in : Nat} (h_X5_in : Con l yX5_in cX5_in 3 (some .boolean) 3 v_X5_in S_X5_in) (g_X5_in : v_X5_in + 1 ≤ lv) {S_X5_refuse : SpecT} {v_X5_refuse : Nat} (h_X5_refuse : Con l yX5_refuse cX5_refuse 2 (some .int) 2 v_X5_refuse S_X5_refuse) (g_X5_refuse : v_X5_refuse + 1 ≤ lv) {S_X5_give : SpecT} {v_X5_give : Nat} (h_X5_give : Con l yX5_give cX5_give 4 (some .int) 3 v_X5_give S_X5_give) (g_X5_give : v_X5_give + 1 ≤ lv) : tabOK (K p l e (rmL lv) s m args below meth c D ad cA A 3 0 0 (MQ below (QcW Φ D ad cA A) args s 0 0 A)) (tb_X5_value Φ S_X5_isExpression S_X5_in S_X5_refuse S_X5_give) :=
  ⟨sq_aload_n X rfl dX5_value_0,
  sq_iconst X (by decide) dX5_value_1,
  sq_pf X (ci := 5) rfl inX5 gdX5 tyX5 tyX5_ok nmX5 (by decide) fl_X5_78 rfl rfl dX5_value_2,
  sq_aload_n X rfl dX5_value_5,
  sq_iload_n X rfl dX5_value_6,
  sq_cv X h_X5_isExpression ⟨_, _, rfl⟩ cw_X5_92 ⟨rfl, by decide, by decide, by decide +kernel⟩ (by decide +kernel) (lev_ok g_X5_isExpression (by decide)) ⟨Nat.zero_le _, Nat.zero_le _⟩ dX5_value_7,
  sq_if_eq X (by decide) dX5_value_10,
  sq_iload_n X rfl dX5_value_13,
  sq_iconst X (by decide) dX5_value_14,
  sq_sipush X (by decide) dX5_value_15,
  sq_cs X h_X5_in cw_X5_85 ⟨by decide, by decide, by decide +kernel⟩ (by decide +kernel) (lev_ok g_X5_in (by decide)) ⟨Nat.zero_le _, Nat.zero_le _⟩ dX5_value_18,
  sq_if_ne X (by decide) dX5_value_21,
  sq_aload_n X rfl dX5_value_24,
  sq_iconst X (by decide) dX5_value_25,
  sq_cv X h_X5_refuse ⟨_, _, rfl⟩ cw_X5_106 ⟨rfl, by decide, by decide, by decide +kernel⟩ (by decide +kernel) (lev_ok g_X5_refuse (by decide)) ⟨Nat.zero_le _, Nat.zero_le _⟩ dX5_value_26,
  sq_iret X hr dX5_value_29,
  sq_aload_n X rfl dX5_value_30,
  sq_iload_n X rfl dX5_value_31,
  sq_iload_n X rfl dX5_value_32,
  sq_cv X h_X5_give ⟨_, _, rfl⟩ cw_X5_126 ⟨rfl, by decide, by decide, by decide +kernel⟩ (by decide +kernel) (lev_ok g_X5_give (by decide)) ⟨Nat.zero_le _, Nat.zero_le _⟩ dX5_value_33,
  sq_iret X hr dX5_value_36, trivial⟩
def tb_X5_holds (Φ : Post) (S_X5_isCondition S_X5_in S_X5_refuse S_X5_isTrue : SpecT) : List (Nat × Tr) := [
  (0, tq_ald 0 1),
  (1, tq_push 0 2),
  (2, tq_pf 5 0 5),
  (5, tq_ald 0 6),
  (6, tq_ild 1 7),
  (7, tq_cv 5 2 S_X5_isCondition 10),
  (10, tq_if_eq 24 13),
  (13, tq_ild 2 14),
  (14, tq_push 0 15),
  (15, tq_push 4095 18),
  (18, tq_cs 3 S_X5_in 21),
  (21, tq_if_ne 38 24),
  (24, tq_ald 0 25),
  (25, tq_push 1 26),
  (26, tq_cv 5 2 S_X5_refuse 29),
  (29, tq_if_le 36 32),
  (32, tq_push 1 33),
  (33, tq_goto 37),
  (36, tq_push 0 37),
  (37, tq_zret Φ),
  (38, tq_ald 0 39),
  (39, tq_ild 1 40),
  (40, tq_ild 2 41),
  (41, tq_cv 5 3 S_X5_isTrue 44),
  (44, tq_zret Φ)]
set_option maxRecDepth 100000 in
theorem tk_X5_holds {p : Program} {l : Launch} {e : Env} {s s0 : State} {a0 : Array Value} {m : MethodId} {args : Array Value} {below : List Frame} {meth : Method} {c : Code} {D : va_G} {ad : Nat → Nat → Nat} {cA : Nat → ClassId} {A : Nat → Prop} {lv : Nat} {Φ : Post} (X : Cx p l s0 a0 s m args meth c cX5_holds 3 RX5 D ad cA A) (hr : meth.sig.returnType = (some .boolean)) {S_X5_isCondition : SpecT} {v_X5_isCondition : Nat} (h_X5_isCondition : Con l yX5_isCondition cX5_isCondition 2 (some .boolean) 2 v_X5_isCondition S_X5_isCondition) (g_X5_isCondition : v_X5_isCondition + 1 ≤ lv) {S_X5_in : SpecT} {v_X5_in : Nat} (h_X5_in : Con l yX5_in cX5_in 3 (some .boolean) 3 v_X5_in S_X5_in) (g_X5_in : v_X5_in + 1 ≤ lv) {S_X5_refuse : SpecT} {v_X5_refuse : Nat} (h_X5_refuse : Con l yX5_refuse cX5_refuse 2 (some .int) 2 v_X5_refuse S_X5_refuse) (g_X5_refuse : v_X5_refuse + 1 ≤ lv) {S_X5_isTrue : SpecT} {v_X5_isTrue : Nat} (h_X5_isTrue : Con l yX5_isTrue cX5_isTrue 3 (some .boolean) 3 v_X5_isTrue S_X5_isTrue) (g_X5_isTrue : v_X5_isTrue + 1 ≤ lv) : tabOK (K p l e (rmL lv) s m args below meth c D ad cA A 3 0 0 (MQ below (QcW Φ D ad cA A) args s 0 0 A)) (tb_X5_holds Φ S_X5_isCondition S_X5_in S_X5_refuse S_X5_isTrue) :=
  ⟨sq_aload_n X rfl dX5_holds_0,
  sq_iconst X (by decide) dX5_holds_1,
  sq_pf X (ci := 5) rfl inX5 gdX5 tyX5 tyX5_ok nmX5 (by decide) fl_X5_78 rfl rfl dX5_holds_2,
  sq_aload_n X rfl dX5_holds_5,
  sq_iload_n X rfl dX5_holds_6,
  sq_cv X h_X5_isCondition ⟨_, _, rfl⟩ cw_X5_96 ⟨rfl, by decide, by decide, by decide +kernel⟩ (by decide +kernel) (lev_ok g_X5_isCondition (by decide)) ⟨Nat.zero_le _, Nat.zero_le _⟩ dX5_holds_7,
  sq_if_eq X (by decide) dX5_holds_10,
  sq_iload_n X rfl dX5_holds_13,
  sq_iconst X (by decide) dX5_holds_14,
  sq_sipush X (by decide) dX5_holds_15,
  sq_cs X h_X5_in cw_X5_85 ⟨by decide, by decide, by decide +kernel⟩ (by decide +kernel) (lev_ok g_X5_in (by decide)) ⟨Nat.zero_le _, Nat.zero_le _⟩ dX5_holds_18,
  sq_if_ne X (by decide) dX5_holds_21,
  sq_aload_n X rfl dX5_holds_24,
  sq_iconst X (by decide) dX5_holds_25,
  sq_cv X h_X5_refuse ⟨_, _, rfl⟩ cw_X5_106 ⟨rfl, by decide, by decide, by decide +kernel⟩ (by decide +kernel) (lev_ok g_X5_refuse (by decide)) ⟨Nat.zero_le _, Nat.zero_le _⟩ dX5_holds_26,
  sq_if_le X (by decide) dX5_holds_29,
  sq_iconst X (by decide) dX5_holds_32,
  sq_goto X (by decide) dX5_holds_33,
  sq_iconst X (by decide) dX5_holds_36,
  sq_zret X hr dX5_holds_37,
  sq_aload_n X rfl dX5_holds_38,
  sq_iload_n X rfl dX5_holds_39,
  sq_iload_n X rfl dX5_holds_40,
  sq_cv X h_X5_isTrue ⟨_, _, rfl⟩ cw_X5_129 ⟨rfl, by decide, by decide, by decide +kernel⟩ (by decide +kernel) (lev_ok g_X5_isTrue (by decide)) ⟨Nat.zero_le _, Nat.zero_le _⟩ dX5_holds_41,
  sq_zret X hr dX5_holds_44, trivial⟩
def tb_X5_run (Φ : Post) (S_X5_isCommand S_X5_in S_X5_refuse S_X5_changed S_X5_isTrue : SpecT) : List (Nat × Tr) := [
  (0, tq_ald 0 1),
  (1, tq_push 0 2),
  (2, tq_pf 5 0 5),
  (5, tq_ald 0 6),
  (6, tq_ild 1 7),
  (7, tq_cv 5 2 S_X5_isCommand 10),
  (10, tq_if_eq 35 13),
  (13, tq_ild 2 14),
  (14, tq_push 0 15),
  (15, tq_push 4095 18),
  (18, tq_cs 3 S_X5_in 21),
  (21, tq_if_eq 35 24),
  (24, tq_ild 3 25),
  (25, tq_push 1 26),
  (26, tq_push 500 29),
  (29, tq_cs 3 S_X5_in 32),
  (32, tq_if_ne 41 35),
  (35, tq_ald 0 36),
  (36, tq_push 1 37),
  (37, tq_cv 5 2 S_X5_refuse 40),
  (40, tq_iret Φ),
  (41, tq_ild 2 42),
  (42, tq_ist 4 44),
  (44, tq_push 0 45),
  (45, tq_ist 5 47),
  (47, tq_push 1 48),
  (48, tq_ist 6 50),
  (50, tq_ald 0 51),
  (51, tq_gf 5 27 54),
  (54, tq_push 0 55),
  (55, tq_ild 1 56),
  (56, tq_iast 57),
  (57, tq_ild 6 59),
  (59, tq_if_le 322 62),
  (62, tq_iinc 6 (-1) 65),
  (65, tq_ald 0 66),
  (66, tq_gf 5 27 69),
  (69, tq_ild 6 71),
  (71, tq_iald 72),
  (72, tq_push 100 74),
  (74, tq_irem 75),
  (75, tq_ist 7 77),
  (77, tq_ald 0 78),
  (78, tq_gf 5 27 81),
  (81, tq_ild 6 83),
  (83, tq_iald 84),
  (84, tq_push 100 86),
  (86, tq_ic_ge 93 89),
  (89, tq_push 1 90),
  (90, tq_goto 94),
  (93, tq_push 0 94),
  (94, tq_ist 8 96),
  (96, tq_ild 8 98),
  (98, tq_if_eq 113 101),
  (101, tq_ild 5 103),
  (103, tq_ild 3 104),
  (104, tq_ic_ne 113 107),
  (107, tq_ald 0 108),
  (108, tq_push 2 109),
  (109, tq_cv 5 2 S_X5_refuse 112),
  (112, tq_iret Φ),
  (113, tq_ild 8 115),
  (115, tq_if_eq 125 118),
  (118, tq_ild 5 120),
  (120, tq_push 1 121),
  (121, tq_iadd 122),
  (122, tq_goto 127),
  (125, tq_ild 5 127),
  (127, tq_ist 5 129),
  (129, tq_ald 0 130),
  (130, tq_gf 5 2 133),
  (133, tq_ild 7 135),
  (135, tq_iald 136),
  (136, tq_push 12 138),
  (138, tq_ic_ne 154 141),
  (141, tq_ald 0 142),
  (142, tq_ild 7 144),
  (144, tq_ild 4 146),
  (146, tq_cv 5 3 S_X5_changed 149),
  (149, tq_ist 4 151),
  (151, tq_goto 319),
  (154, tq_ald 0 155),
  (155, tq_gf 5 2 158),
  (158, tq_ild 7 160),
  (160, tq_iald 161),
  (161, tq_push 13 163),
  (163, tq_ic_ne 202 166),
  (166, tq_ald 0 167),
  (167, tq_gf 5 27 170),
  (170, tq_ild 6 172),
  (172, tq_ald 0 173),
  (173, tq_gf 5 4 176),
  (176, tq_ild 7 178),
  (178, tq_iald 179),
  (179, tq_iast 180),
  (180, tq_ald 0 181),
  (181, tq_gf 5 27 184),
  (184, tq_ild 6 186),
  (186, tq_push 1 187),
  (187, tq_iadd 188),
  (188, tq_ald 0 189),
  (189, tq_gf 5 3 192),
  (192, tq_ild 7 194),
  (194, tq_iald 195),
  (195, tq_iast 196),
  (196, tq_iinc 6 2 199),
  (199, tq_goto 319),
  (202, tq_ald 0 203),
  (203, tq_gf 5 2 206),
  (206, tq_ild 7 208),
  (208, tq_iald 209),
  (209, tq_push 14 211),
  (211, tq_ic_ne 260 214),
  (214, tq_ald 0 215),
  (215, tq_gf 5 27 218),
  (218, tq_ild 6 220),
  (220, tq_ald 0 221),
  (221, tq_ald 0 222),
  (222, tq_gf 5 3 225),
  (225, tq_ild 7 227),
  (227, tq_iald 228),
  (228, tq_ild 4 230),
  (230, tq_cv 5 3 S_X5_isTrue 233),
  (233, tq_if_eq 246 236),
  (236, tq_ald 0 237),
  (237, tq_gf 5 4 240),
  (240, tq_ild 7 242),
  (242, tq_iald 243),
  (243, tq_goto 253),
  (246, tq_ald 0 247),
  (247, tq_gf 5 5 250),
  (250, tq_ild 7 252),
  (252, tq_iald 253),
  (253, tq_iast 254),
  (254, tq_iinc 6 1 257),
  (257, tq_goto 319),
  (260, tq_ald 0 261),
  (261, tq_gf 5 2 264),
  (264, tq_ild 7 266),
  (266, tq_iald 267),
  (267, tq_push 15 269),
  (269, tq_ic_ne 319 272),
  (272, tq_ald 0 273),
  (273, tq_ald 0 274),
  (274, tq_gf 5 3 277),
  (277, tq_ild 7 279),
  (279, tq_iald 280),
  (280, tq_ild 4 282),
  (282, tq_cv 5 3 S_X5_isTrue 285),
  (285, tq_if_eq 319 288),
  (288, tq_ald 0 289),
  (289, tq_gf 5 27 292),
  (292, tq_ild 6 294),
  (294, tq_push 100 296),
  (296, tq_ild 7 298),
  (298, tq_iadd 299),
  (299, tq_iast 300),
  (300, tq_ald 0 301),
  (301, tq_gf 5 27 304),
  (304, tq_ild 6 306),
  (306, tq_push 1 307),
  (307, tq_iadd 308),
  (308, tq_ald 0 309),
  (309, tq_gf 5 5 312),
  (312, tq_ild 7 314),
  (314, tq_iald 315),
  (315, tq_iast 316),
  (316, tq_iinc 6 2 319),
  (319, tq_goto 57),
  (322, tq_ild 4 324),
  (324, tq_iret Φ)]
set_option maxRecDepth 100000 in
theorem tk_X5_run {p : Program} {l : Launch} {e : Env} {s s0 : State} {a0 : Array Value} {m : MethodId} {args : Array Value} {below : List Frame} {meth : Method} {c : Code} {D : va_G} {ad : Nat → Nat → Nat} {cA : Nat → ClassId} {A : Nat → Prop} {lv : Nat} {Φ : Post} (X : Cx p l s0 a0 s m args meth c cX5_run 9 RX5 D ad cA A) (hr : meth.sig.returnType = (some .int)) {S_X5_isCommand : SpecT} {v_X5_isCommand : Nat} (h_X5_isCommand : Con l yX5_isCommand cX5_isCommand 2 (some .boolean) 2 v_X5_isCommand S_X5_isCommand) (g_X5_isCommand : v_X5_isCommand + 1 ≤ lv) {S_X5_in : SpecT} {v_X5_in : Nat} (h_X5_in : Con l yX5_in cX5_in 3 (some .boolean) 3 v_X5_in S_X5_in) (g_X5_in : v_X5_in + 1 ≤ lv) {S_X5_refuse : SpecT} {v_X5_refuse : Nat} (h_X5_refuse : Con l yX5_refuse cX5_refuse 2 (some .int) 2 v_X5_refuse S_X5_refuse) (g_X5_refuse : v_X5_refuse + 1 ≤ lv) {S_X5_changed : SpecT} {v_X5_changed : Nat} (h_X5_changed : Con l yX5_changed cX5_changed 4 (some .int) 3 v_X5_changed S_X5_changed) (g_X5_changed : v_X5_changed + 1 ≤ lv) {S_X5_isTrue : SpecT} {v_X5_isTrue : Nat} (h_X5_isTrue : Con l yX5_isTrue cX5_isTrue 3 (some .boolean) 3 v_X5_isTrue S_X5_isTrue) (g_X5_isTrue : v_X5_isTrue + 1 ≤ lv) : tabOK (K p l e (rmL lv) s m args below meth c D ad cA A 9 0 0 (MQ below (QcW Φ D ad cA A) args s 0 0 A)) (tb_X5_run Φ S_X5_isCommand S_X5_in S_X5_refuse S_X5_changed S_X5_isTrue) :=
  ⟨sq_aload_n X rfl dX5_run_0,
  sq_iconst X (by decide) dX5_run_1,
  sq_pf X (ci := 5) rfl inX5 gdX5 tyX5 tyX5_ok nmX5 (by decide) fl_X5_78 rfl rfl dX5_run_2,
  sq_aload_n X rfl dX5_run_5,
  sq_iload_n X rfl dX5_run_6,
  sq_cv X h_X5_isCommand ⟨_, _, rfl⟩ cw_X5_99 ⟨rfl, by decide, by decide, by decide +kernel⟩ (by decide +kernel) (lev_ok g_X5_isCommand (by decide)) ⟨Nat.zero_le _, Nat.zero_le _⟩ dX5_run_7,
  sq_if_eq X (by decide) dX5_run_10,
  sq_iload_n X rfl dX5_run_13,
  sq_iconst X (by decide) dX5_run_14,
  sq_sipush X (by decide) dX5_run_15,
  sq_cs X h_X5_in cw_X5_85 ⟨by decide, by decide, by decide +kernel⟩ (by decide +kernel) (lev_ok g_X5_in (by decide)) ⟨Nat.zero_le _, Nat.zero_le _⟩ dX5_run_18,
  sq_if_eq X (by decide) dX5_run_21,
  sq_iload_n X rfl dX5_run_24,
  sq_iconst X (by decide) dX5_run_25,
  sq_sipush X (by decide) dX5_run_26,
  sq_cs X h_X5_in cw_X5_85 ⟨by decide, by decide, by decide +kernel⟩ (by decide +kernel) (lev_ok g_X5_in (by decide)) ⟨Nat.zero_le _, Nat.zero_le _⟩ dX5_run_29,
  sq_if_ne X (by decide) dX5_run_32,
  sq_aload_n X rfl dX5_run_35,
  sq_iconst X (by decide) dX5_run_36,
  sq_cv X h_X5_refuse ⟨_, _, rfl⟩ cw_X5_106 ⟨rfl, by decide, by decide, by decide +kernel⟩ (by decide +kernel) (lev_ok g_X5_refuse (by decide)) ⟨Nat.zero_le _, Nat.zero_le _⟩ dX5_run_37,
  sq_iret X hr dX5_run_40,
  sq_iload_n X rfl dX5_run_41,
  sq_istore X (by decide) dX5_run_42,
  sq_iconst X (by decide) dX5_run_44,
  sq_istore X (by decide) dX5_run_45,
  sq_iconst X (by decide) dX5_run_47,
  sq_istore X (by decide) dX5_run_48,
  sq_aload_n X rfl dX5_run_50,
  sq_gf X (ci := 5) rfl inX5 gdX5 (by decide) fl_X5_75 dX5_run_51,
  sq_iconst X (by decide) dX5_run_54,
  sq_iload_n X rfl dX5_run_55,
  sq_iast X dX5_run_56,
  sq_iload X dX5_run_57,
  sq_if_le X (by decide) dX5_run_59,
  sq_iinc X (by decide) (by decide) dX5_run_62,
  sq_aload_n X rfl dX5_run_65,
  sq_gf X (ci := 5) rfl inX5 gdX5 (by decide) fl_X5_75 dX5_run_66,
  sq_iload X dX5_run_69,
  sq_iald X dX5_run_71,
  sq_bipush X (by decide) dX5_run_72,
  sq_irem X dX5_run_74,
  sq_istore X (by decide) dX5_run_75,
  sq_aload_n X rfl dX5_run_77,
  sq_gf X (ci := 5) rfl inX5 gdX5 (by decide) fl_X5_75 dX5_run_78,
  sq_iload X dX5_run_81,
  sq_iald X dX5_run_83,
  sq_bipush X (by decide) dX5_run_84,
  sq_ic_ge X (by decide) dX5_run_86,
  sq_iconst X (by decide) dX5_run_89,
  sq_goto X (by decide) dX5_run_90,
  sq_iconst X (by decide) dX5_run_93,
  sq_istore X (by decide) dX5_run_94,
  sq_iload X dX5_run_96,
  sq_if_eq X (by decide) dX5_run_98,
  sq_iload X dX5_run_101,
  sq_iload_n X rfl dX5_run_103,
  sq_ic_ne X (by decide) dX5_run_104,
  sq_aload_n X rfl dX5_run_107,
  sq_iconst X (by decide) dX5_run_108,
  sq_cv X h_X5_refuse ⟨_, _, rfl⟩ cw_X5_106 ⟨rfl, by decide, by decide, by decide +kernel⟩ (by decide +kernel) (lev_ok g_X5_refuse (by decide)) ⟨Nat.zero_le _, Nat.zero_le _⟩ dX5_run_109,
  sq_iret X hr dX5_run_112,
  sq_iload X dX5_run_113,
  sq_if_eq X (by decide) dX5_run_115,
  sq_iload X dX5_run_118,
  sq_iconst X (by decide) dX5_run_120,
  sq_iadd X dX5_run_121,
  sq_goto X (by decide) dX5_run_122,
  sq_iload X dX5_run_125,
  sq_istore X (by decide) dX5_run_127,
  sq_aload_n X rfl dX5_run_129,
  sq_gf X (ci := 5) rfl inX5 gdX5 (by decide) fl_X5_7 dX5_run_130,
  sq_iload X dX5_run_133,
  sq_iald X dX5_run_135,
  sq_bipush X (by decide) dX5_run_136,
  sq_ic_ne X (by decide) dX5_run_138,
  sq_aload_n X rfl dX5_run_141,
  sq_iload X dX5_run_142,
  sq_iload X dX5_run_144,
  sq_cv X h_X5_changed ⟨_, _, rfl⟩ cw_X5_133 ⟨rfl, by decide, by decide, by decide +kernel⟩ (by decide +kernel) (lev_ok g_X5_changed (by decide)) ⟨Nat.zero_le _, Nat.zero_le _⟩ dX5_run_146,
  sq_istore X (by decide) dX5_run_149,
  sq_goto X (by decide) dX5_run_151,
  sq_aload_n X rfl dX5_run_154,
  sq_gf X (ci := 5) rfl inX5 gdX5 (by decide) fl_X5_7 dX5_run_155,
  sq_iload X dX5_run_158,
  sq_iald X dX5_run_160,
  sq_bipush X (by decide) dX5_run_161,
  sq_ic_ne X (by decide) dX5_run_163,
  sq_aload_n X rfl dX5_run_166,
  sq_gf X (ci := 5) rfl inX5 gdX5 (by decide) fl_X5_75 dX5_run_167,
  sq_iload X dX5_run_170,
  sq_aload_n X rfl dX5_run_172,
  sq_gf X (ci := 5) rfl inX5 gdX5 (by decide) fl_X5_16 dX5_run_173,
  sq_iload X dX5_run_176,
  sq_iald X dX5_run_178,
  sq_iast X dX5_run_179,
  sq_aload_n X rfl dX5_run_180,
  sq_gf X (ci := 5) rfl inX5 gdX5 (by decide) fl_X5_75 dX5_run_181,
  sq_iload X dX5_run_184,
  sq_iconst X (by decide) dX5_run_186,
  sq_iadd X dX5_run_187,
  sq_aload_n X rfl dX5_run_188,
  sq_gf X (ci := 5) rfl inX5 gdX5 (by decide) fl_X5_13 dX5_run_189,
  sq_iload X dX5_run_192,
  sq_iald X dX5_run_194,
  sq_iast X dX5_run_195,
  sq_iinc X (by decide) (by decide) dX5_run_196,
  sq_goto X (by decide) dX5_run_199,
  sq_aload_n X rfl dX5_run_202,
  sq_gf X (ci := 5) rfl inX5 gdX5 (by decide) fl_X5_7 dX5_run_203,
  sq_iload X dX5_run_206,
  sq_iald X dX5_run_208,
  sq_bipush X (by decide) dX5_run_209,
  sq_ic_ne X (by decide) dX5_run_211,
  sq_aload_n X rfl dX5_run_214,
  sq_gf X (ci := 5) rfl inX5 gdX5 (by decide) fl_X5_75 dX5_run_215,
  sq_iload X dX5_run_218,
  sq_aload_n X rfl dX5_run_220,
  sq_aload_n X rfl dX5_run_221,
  sq_gf X (ci := 5) rfl inX5 gdX5 (by decide) fl_X5_13 dX5_run_222,
  sq_iload X dX5_run_225,
  sq_iald X dX5_run_227,
  sq_iload X dX5_run_228,
  sq_cv X h_X5_isTrue ⟨_, _, rfl⟩ cw_X5_129 ⟨rfl, by decide, by decide, by decide +kernel⟩ (by decide +kernel) (lev_ok g_X5_isTrue (by decide)) ⟨Nat.zero_le _, Nat.zero_le _⟩ dX5_run_230,
  sq_if_eq X (by decide) dX5_run_233,
  sq_aload_n X rfl dX5_run_236,
  sq_gf X (ci := 5) rfl inX5 gdX5 (by decide) fl_X5_16 dX5_run_237,
  sq_iload X dX5_run_240,
  sq_iald X dX5_run_242,
  sq_goto X (by decide) dX5_run_243,
  sq_aload_n X rfl dX5_run_246,
  sq_gf X (ci := 5) rfl inX5 gdX5 (by decide) fl_X5_19 dX5_run_247,
  sq_iload X dX5_run_250,
  sq_iald X dX5_run_252,
  sq_iast X dX5_run_253,
  sq_iinc X (by decide) (by decide) dX5_run_254,
  sq_goto X (by decide) dX5_run_257,
  sq_aload_n X rfl dX5_run_260,
  sq_gf X (ci := 5) rfl inX5 gdX5 (by decide) fl_X5_7 dX5_run_261,
  sq_iload X dX5_run_264,
  sq_iald X dX5_run_266,
  sq_bipush X (by decide) dX5_run_267,
  sq_ic_ne X (by decide) dX5_run_269,
  sq_aload_n X rfl dX5_run_272,
  sq_aload_n X rfl dX5_run_273,
  sq_gf X (ci := 5) rfl inX5 gdX5 (by decide) fl_X5_13 dX5_run_274,
  sq_iload X dX5_run_277,
  sq_iald X dX5_run_279,
  sq_iload X dX5_run_280,
  sq_cv X h_X5_isTrue ⟨_, _, rfl⟩ cw_X5_129 ⟨rfl, by decide, by decide, by decide +kernel⟩ (by decide +kernel) (lev_ok g_X5_isTrue (by decide)) ⟨Nat.zero_le _, Nat.zero_le _⟩ dX5_run_282,
  sq_if_eq X (by decide) dX5_run_285,
  sq_aload_n X rfl dX5_run_288,
  sq_gf X (ci := 5) rfl inX5 gdX5 (by decide) fl_X5_75 dX5_run_289,
  sq_iload X dX5_run_292,
  sq_bipush X (by decide) dX5_run_294,
  sq_iload X dX5_run_296,
  sq_iadd X dX5_run_298,
  sq_iast X dX5_run_299,
  sq_aload_n X rfl dX5_run_300,
  sq_gf X (ci := 5) rfl inX5 gdX5 (by decide) fl_X5_75 dX5_run_301,
  sq_iload X dX5_run_304,
  sq_iconst X (by decide) dX5_run_306,
  sq_iadd X dX5_run_307,
  sq_aload_n X rfl dX5_run_308,
  sq_gf X (ci := 5) rfl inX5 gdX5 (by decide) fl_X5_19 dX5_run_309,
  sq_iload X dX5_run_312,
  sq_iald X dX5_run_314,
  sq_iast X dX5_run_315,
  sq_iinc X (by decide) (by decide) dX5_run_316,
  sq_goto X (by decide) dX5_run_319,
  sq_iload X dX5_run_322,
  sq_iret X hr dX5_run_324, trivial⟩
def tb_X5_newTarget (Φ : Post) : List (Nat × Tr) := [
  (0, tq_ald 0 1),
  (1, tq_gf 5 21 4),
  (4, tq_ald 0 5),
  (5, tq_gf 5 17 8),
  (8, tq_ild 1 9),
  (9, tq_iast 10),
  (10, tq_ald 0 11),
  (11, tq_gf 5 22 14),
  (14, tq_ald 0 15),
  (15, tq_gf 5 17 18),
  (18, tq_ild 2 19),
  (19, tq_iast 20),
  (20, tq_ald 0 21),
  (21, tq_dup 22),
  (22, tq_gf 5 17 25),
  (25, tq_push 1 26),
  (26, tq_iadd 27),
  (27, tq_pf 5 17 30),
  (30, tq_ald 0 31),
  (31, tq_gf 5 17 34),
  (34, tq_push 1 35),
  (35, tq_isub 36),
  (36, tq_iret Φ)]
set_option maxRecDepth 100000 in
theorem tk_X5_newTarget {p : Program} {l : Launch} {e : Env} {s s0 : State} {a0 : Array Value} {m : MethodId} {args : Array Value} {below : List Frame} {meth : Method} {c : Code} {D : va_G} {ad : Nat → Nat → Nat} {cA : Nat → ClassId} {A : Nat → Prop} {lv : Nat} {Φ : Post} (X : Cx p l s0 a0 s m args meth c cX5_newTarget 3 RX5 D ad cA A) (hr : meth.sig.returnType = (some .int)) : tabOK (K p l e (rmL lv) s m args below meth c D ad cA A 3 0 0 (MQ below (QcW Φ D ad cA A) args s 0 0 A)) (tb_X5_newTarget Φ) :=
  ⟨sq_aload_n X rfl dX5_newTarget_0,
  sq_gf X (ci := 5) rfl inX5 gdX5 (by decide) fl_X5_56 dX5_newTarget_1,
  sq_aload_n X rfl dX5_newTarget_4,
  sq_gf X (ci := 5) rfl inX5 gdX5 (by decide) fl_X5_136 dX5_newTarget_5,
  sq_iload_n X rfl dX5_newTarget_8,
  sq_iast X dX5_newTarget_9,
  sq_aload_n X rfl dX5_newTarget_10,
  sq_gf X (ci := 5) rfl inX5 gdX5 (by decide) fl_X5_59 dX5_newTarget_11,
  sq_aload_n X rfl dX5_newTarget_14,
  sq_gf X (ci := 5) rfl inX5 gdX5 (by decide) fl_X5_136 dX5_newTarget_15,
  sq_iload_n X rfl dX5_newTarget_18,
  sq_iast X dX5_newTarget_19,
  sq_aload_n X rfl dX5_newTarget_20,
  sq_dup X dX5_newTarget_21,
  sq_gf X (ci := 5) rfl inX5 gdX5 (by decide) fl_X5_136 dX5_newTarget_22,
  sq_iconst X (by decide) dX5_newTarget_25,
  sq_iadd X dX5_newTarget_26,
  sq_pf X (ci := 5) rfl inX5 gdX5 tyX5 tyX5_ok nmX5 (by decide) fl_X5_136 rfl rfl dX5_newTarget_27,
  sq_aload_n X rfl dX5_newTarget_30,
  sq_gf X (ci := 5) rfl inX5 gdX5 (by decide) fl_X5_136 dX5_newTarget_31,
  sq_iconst X (by decide) dX5_newTarget_34,
  sq_isub X dX5_newTarget_35,
  sq_iret X hr dX5_newTarget_36, trivial⟩
def tb_X5_duty (Φ : Post) : List (Nat × Tr) := [
  (0, tq_ald 0 1),
  (1, tq_gf 5 16 4),
  (4, tq_push 20 6),
  (6, tq_ic_ge 39 9),
  (9, tq_ald 0 10),
  (10, tq_gf 5 18 13),
  (13, tq_ald 0 14),
  (14, tq_gf 5 16 17),
  (17, tq_ild 1 18),
  (18, tq_iast 19),
  (19, tq_ald 0 20),
  (20, tq_gf 5 19 23),
  (23, tq_ald 0 24),
  (24, tq_gf 5 16 27),
  (27, tq_ild 2 28),
  (28, tq_iast 29),
  (29, tq_ald 0 30),
  (30, tq_gf 5 20 33),
  (33, tq_ald 0 34),
  (34, tq_gf 5 16 37),
  (37, tq_ild 3 38),
  (38, tq_iast 39),
  (39, tq_ald 0 40),
  (40, tq_dup 41),
  (41, tq_gf 5 16 44),
  (44, tq_push 1 45),
  (45, tq_iadd 46),
  (46, tq_pf 5 16 49),
  (49, tq_vret Φ)]
set_option maxRecDepth 100000 in
theorem tk_X5_duty {p : Program} {l : Launch} {e : Env} {s s0 : State} {a0 : Array Value} {m : MethodId} {args : Array Value} {below : List Frame} {meth : Method} {c : Code} {D : va_G} {ad : Nat → Nat → Nat} {cA : Nat → ClassId} {A : Nat → Prop} {lv : Nat} {Φ : Post} (X : Cx p l s0 a0 s m args meth c cX5_duty 4 RX5 D ad cA A) (hr : meth.sig.returnType = none) : tabOK (K p l e (rmL lv) s m args below meth c D ad cA A 4 0 0 (MQ below (QcW Φ D ad cA A) args s 0 0 A)) (tb_X5_duty Φ) :=
  ⟨sq_aload_n X rfl dX5_duty_0,
  sq_gf X (ci := 5) rfl inX5 gdX5 (by decide) fl_X5_139 dX5_duty_1,
  sq_bipush X (by decide) dX5_duty_4,
  sq_ic_ge X (by decide) dX5_duty_6,
  sq_aload_n X rfl dX5_duty_9,
  sq_gf X (ci := 5) rfl inX5 gdX5 (by decide) fl_X5_47 dX5_duty_10,
  sq_aload_n X rfl dX5_duty_13,
  sq_gf X (ci := 5) rfl inX5 gdX5 (by decide) fl_X5_139 dX5_duty_14,
  sq_iload_n X rfl dX5_duty_17,
  sq_iast X dX5_duty_18,
  sq_aload_n X rfl dX5_duty_19,
  sq_gf X (ci := 5) rfl inX5 gdX5 (by decide) fl_X5_50 dX5_duty_20,
  sq_aload_n X rfl dX5_duty_23,
  sq_gf X (ci := 5) rfl inX5 gdX5 (by decide) fl_X5_139 dX5_duty_24,
  sq_iload_n X rfl dX5_duty_27,
  sq_iast X dX5_duty_28,
  sq_aload_n X rfl dX5_duty_29,
  sq_gf X (ci := 5) rfl inX5 gdX5 (by decide) fl_X5_53 dX5_duty_30,
  sq_aload_n X rfl dX5_duty_33,
  sq_gf X (ci := 5) rfl inX5 gdX5 (by decide) fl_X5_139 dX5_duty_34,
  sq_iload_n X rfl dX5_duty_37,
  sq_iast X dX5_duty_38,
  sq_aload_n X rfl dX5_duty_39,
  sq_dup X dX5_duty_40,
  sq_gf X (ci := 5) rfl inX5 gdX5 (by decide) fl_X5_139 dX5_duty_41,
  sq_iconst X (by decide) dX5_duty_44,
  sq_iadd X dX5_duty_45,
  sq_pf X (ci := 5) rfl inX5 gdX5 tyX5 tyX5_ok nmX5 (by decide) fl_X5_139 rfl rfl dX5_duty_46,
  sq_vret X hr dX5_duty_49, trivial⟩
def tb_X5_makeDuties (Φ : Post) (S_X5_newTarget S_X5_duty S_X5_open : SpecT) : List (Nat × Tr) := [
  (0, tq_ald 0 1),
  (1, tq_push 0 2),
  (2, tq_pf 5 16 5),
  (5, tq_ald 0 6),
  (6, tq_push 0 7),
  (7, tq_pf 5 17 10),
  (10, tq_ald 0 11),
  (11, tq_push (-1) 12),
  (12, tq_ild 3 13),
  (13, tq_cv 5 3 S_X5_newTarget 16),
  (16, tq_ist 4 18),
  (18, tq_ald 0 19),
  (19, tq_push 0 20),
  (20, tq_ild 1 21),
  (21, tq_ald 0 22),
  (22, tq_ild 2 23),
  (23, tq_ild 4 25),
  (25, tq_cv 5 3 S_X5_newTarget 28),
  (28, tq_cv 5 4 S_X5_duty 31),
  (31, tq_push 1 32),
  (32, tq_ist 5 34),
  (34, tq_ald 0 35),
  (35, tq_gf 5 23 38),
  (38, tq_push 0 39),
  (39, tq_ild 2 40),
  (40, tq_iast 41),
  (41, tq_ald 0 42),
  (42, tq_gf 5 24 45),
  (45, tq_push 0 46),
  (46, tq_ild 4 48),
  (48, tq_iast 49),
  (49, tq_ild 5 51),
  (51, tq_if_le 268 54),
  (54, tq_ald 0 55),
  (55, tq_gf 5 16 58),
  (58, tq_push 16 60),
  (60, tq_ic_gt 268 63),
  (63, tq_iinc 5 (-1) 66),
  (66, tq_ald 0 67),
  (67, tq_gf 5 23 70),
  (70, tq_ild 5 72),
  (72, tq_iald 73),
  (73, tq_ist 6 75),
  (75, tq_ald 0 76),
  (76, tq_gf 5 24 79),
  (79, tq_ild 5 81),
  (81, tq_iald 82),
  (82, tq_ist 7 84),
  (84, tq_ald 0 85),
  (85, tq_gf 5 2 88),
  (88, tq_ild 6 90),
  (90, tq_iald 91),
  (91, tq_push 13 93),
  (93, tq_ic_ne 144 96),
  (96, tq_ald 0 97),
  (97, tq_ild 5 99),
  (99, tq_ald 0 100),
  (100, tq_gf 5 4 103),
  (103, tq_ild 6 105),
  (105, tq_iald 106),
  (106, tq_ild 7 108),
  (108, tq_cv 5 4 S_X5_open 111),
  (111, tq_ist 5 113),
  (113, tq_ald 0 114),
  (114, tq_ild 5 116),
  (116, tq_ald 0 117),
  (117, tq_gf 5 3 120),
  (120, tq_ild 6 122),
  (122, tq_iald 123),
  (123, tq_ald 0 124),
  (124, tq_ald 0 125),
  (125, tq_gf 5 4 128),
  (128, tq_ild 6 130),
  (130, tq_iald 131),
  (131, tq_ild 7 133),
  (133, tq_cv 5 3 S_X5_newTarget 136),
  (136, tq_cv 5 4 S_X5_open 139),
  (139, tq_ist 5 141),
  (141, tq_goto 265),
  (144, tq_ald 0 145),
  (145, tq_gf 5 2 148),
  (148, tq_ild 6 150),
  (150, tq_iald 151),
  (151, tq_push 14 153),
  (153, tq_ic_ne 193 156),
  (156, tq_ald 0 157),
  (157, tq_ild 5 159),
  (159, tq_ald 0 160),
  (160, tq_gf 5 5 163),
  (163, tq_ild 6 165),
  (165, tq_iald 166),
  (166, tq_ild 7 168),
  (168, tq_cv 5 4 S_X5_open 171),
  (171, tq_ist 5 173),
  (173, tq_ald 0 174),
  (174, tq_ild 5 176),
  (176, tq_ald 0 177),
  (177, tq_gf 5 4 180),
  (180, tq_ild 6 182),
  (182, tq_iald 183),
  (183, tq_ild 7 185),
  (185, tq_cv 5 4 S_X5_open 188),
  (188, tq_ist 5 190),
  (190, tq_goto 265),
  (193, tq_ald 0 194),
  (194, tq_gf 5 2 197),
  (197, tq_ild 6 199),
  (199, tq_iald 200),
  (200, tq_push 15 202),
  (202, tq_ic_ne 265 205),
  (205, tq_ald 0 206),
  (206, tq_push (-1) 207),
  (207, tq_ald 0 208),
  (208, tq_gf 5 4 211),
  (211, tq_ild 6 213),
  (213, tq_iald 214),
  (214, tq_cv 5 3 S_X5_newTarget 217),
  (217, tq_ist 8 219),
  (219, tq_ald 0 220),
  (220, tq_push 1 221),
  (221, tq_ild 6 223),
  (223, tq_ald 0 224),
  (224, tq_ald 0 225),
  (225, tq_gf 5 5 228),
  (228, tq_ild 6 230),
  (230, tq_iald 231),
  (231, tq_ild 8 233),
  (233, tq_cv 5 3 S_X5_newTarget 236),
  (236, tq_cv 5 4 S_X5_duty 239),
  (239, tq_ald 0 240),
  (240, tq_push 2 241),
  (241, tq_ild 6 243),
  (243, tq_ild 7 245),
  (245, tq_cv 5 4 S_X5_duty 248),
  (248, tq_ald 0 249),
  (249, tq_ild 5 251),
  (251, tq_ald 0 252),
  (252, tq_gf 5 5 255),
  (255, tq_ild 6 257),
  (257, tq_iald 258),
  (258, tq_ild 8 260),
  (260, tq_cv 5 4 S_X5_open 263),
  (263, tq_ist 5 265),
  (265, tq_goto 49),
  (268, tq_vret Φ)]
set_option maxRecDepth 100000 in
theorem tk_X5_makeDuties {p : Program} {l : Launch} {e : Env} {s s0 : State} {a0 : Array Value} {m : MethodId} {args : Array Value} {below : List Frame} {meth : Method} {c : Code} {D : va_G} {ad : Nat → Nat → Nat} {cA : Nat → ClassId} {A : Nat → Prop} {lv : Nat} {Φ : Post} (X : Cx p l s0 a0 s m args meth c cX5_makeDuties 9 RX5 D ad cA A) (hr : meth.sig.returnType = none) {S_X5_newTarget : SpecT} {v_X5_newTarget : Nat} (h_X5_newTarget : Con l yX5_newTarget cX5_newTarget 3 (some .int) 3 v_X5_newTarget S_X5_newTarget) (g_X5_newTarget : v_X5_newTarget + 1 ≤ lv) {S_X5_duty : SpecT} {v_X5_duty : Nat} (h_X5_duty : Con l yX5_duty cX5_duty 4 none 4 v_X5_duty S_X5_duty) (g_X5_duty : v_X5_duty + 1 ≤ lv) {S_X5_open : SpecT} {v_X5_open : Nat} (h_X5_open : Con l yX5_open cX5_open 4 (some .int) 4 v_X5_open S_X5_open) (g_X5_open : v_X5_open + 1 ≤ lv) : tabOK (K p l e (rmL lv) s m args below meth c D ad cA A 9 0 0 (MQ below (QcW Φ D ad cA A) args s 0 0 A)) (tb_X5_makeDuties Φ S_X5_newTarget S_X5_duty S_X5_open) :=
  ⟨sq_aload_n X rfl dX5_makeDuties_0,
  sq_iconst X (by decide) dX5_makeDuties_1,
  sq_pf X (ci := 5) rfl inX5 gdX5 tyX5 tyX5_ok nmX5 (by decide) fl_X5_139 rfl rfl dX5_makeDuties_2,
  sq_aload_n X rfl dX5_makeDuties_5,
  sq_iconst X (by decide) dX5_makeDuties_6,
  sq_pf X (ci := 5) rfl inX5 gdX5 tyX5 tyX5_ok nmX5 (by decide) fl_X5_136 rfl rfl dX5_makeDuties_7,
  sq_aload_n X rfl dX5_makeDuties_10,
  sq_iconst X (by decide) dX5_makeDuties_11,
  sq_iload_n X rfl dX5_makeDuties_12,
  sq_cv X h_X5_newTarget ⟨_, _, rfl⟩ cw_X5_142 ⟨rfl, by decide, by decide, by decide +kernel⟩ (by decide +kernel) (lev_ok g_X5_newTarget (by decide)) ⟨Nat.zero_le _, Nat.zero_le _⟩ dX5_makeDuties_13,
  sq_istore X (by decide) dX5_makeDuties_16,
  sq_aload_n X rfl dX5_makeDuties_18,
  sq_iconst X (by decide) dX5_makeDuties_19,
  sq_iload_n X rfl dX5_makeDuties_20,
  sq_aload_n X rfl dX5_makeDuties_21,
  sq_iload_n X rfl dX5_makeDuties_22,
  sq_iload X dX5_makeDuties_23,
  sq_cv X h_X5_newTarget ⟨_, _, rfl⟩ cw_X5_142 ⟨rfl, by decide, by decide, by decide +kernel⟩ (by decide +kernel) (lev_ok g_X5_newTarget (by decide)) ⟨Nat.zero_le _, Nat.zero_le _⟩ dX5_makeDuties_25,
  sq_cv X h_X5_duty ⟨_, _, rfl⟩ cw_X5_144 ⟨rfl, by decide, by decide, by decide +kernel⟩ (by decide +kernel) (lev_ok g_X5_duty (by decide)) ⟨Nat.zero_le _, Nat.zero_le _⟩ dX5_makeDuties_28,
  sq_iconst X (by decide) dX5_makeDuties_31,
  sq_istore X (by decide) dX5_makeDuties_32,
  sq_aload_n X rfl dX5_makeDuties_34,
  sq_gf X (ci := 5) rfl inX5 gdX5 (by decide) fl_X5_62 dX5_makeDuties_35,
  sq_iconst X (by decide) dX5_makeDuties_38,
  sq_iload_n X rfl dX5_makeDuties_39,
  sq_iast X dX5_makeDuties_40,
  sq_aload_n X rfl dX5_makeDuties_41,
  sq_gf X (ci := 5) rfl inX5 gdX5 (by decide) fl_X5_65 dX5_makeDuties_42,
  sq_iconst X (by decide) dX5_makeDuties_45,
  sq_iload X dX5_makeDuties_46,
  sq_iast X dX5_makeDuties_48,
  sq_iload X dX5_makeDuties_49,
  sq_if_le X (by decide) dX5_makeDuties_51,
  sq_aload_n X rfl dX5_makeDuties_54,
  sq_gf X (ci := 5) rfl inX5 gdX5 (by decide) fl_X5_139 dX5_makeDuties_55,
  sq_bipush X (by decide) dX5_makeDuties_58,
  sq_ic_gt X (by decide) dX5_makeDuties_60,
  sq_iinc X (by decide) (by decide) dX5_makeDuties_63,
  sq_aload_n X rfl dX5_makeDuties_66,
  sq_gf X (ci := 5) rfl inX5 gdX5 (by decide) fl_X5_62 dX5_makeDuties_67,
  sq_iload X dX5_makeDuties_70,
  sq_iald X dX5_makeDuties_72,
  sq_istore X (by decide) dX5_makeDuties_73,
  sq_aload_n X rfl dX5_makeDuties_75,
  sq_gf X (ci := 5) rfl inX5 gdX5 (by decide) fl_X5_65 dX5_makeDuties_76,
  sq_iload X dX5_makeDuties_79,
  sq_iald X dX5_makeDuties_81,
  sq_istore X (by decide) dX5_makeDuties_82,
  sq_aload_n X rfl dX5_makeDuties_84,
  sq_gf X (ci := 5) rfl inX5 gdX5 (by decide) fl_X5_7 dX5_makeDuties_85,
  sq_iload X dX5_makeDuties_88,
  sq_iald X dX5_makeDuties_90,
  sq_bipush X (by decide) dX5_makeDuties_91,
  sq_ic_ne X (by decide) dX5_makeDuties_93,
  sq_aload_n X rfl dX5_makeDuties_96,
  sq_iload X dX5_makeDuties_97,
  sq_aload_n X rfl dX5_makeDuties_99,
  sq_gf X (ci := 5) rfl inX5 gdX5 (by decide) fl_X5_16 dX5_makeDuties_100,
  sq_iload X dX5_makeDuties_103,
  sq_iald X dX5_makeDuties_105,
  sq_iload X dX5_makeDuties_106,
  sq_cv X h_X5_open ⟨_, _, rfl⟩ cw_X5_148 ⟨rfl, by decide, by decide, by decide +kernel⟩ (by decide +kernel) (lev_ok g_X5_open (by decide)) ⟨Nat.zero_le _, Nat.zero_le _⟩ dX5_makeDuties_108,
  sq_istore X (by decide) dX5_makeDuties_111,
  sq_aload_n X rfl dX5_makeDuties_113,
  sq_iload X dX5_makeDuties_114,
  sq_aload_n X rfl dX5_makeDuties_116,
  sq_gf X (ci := 5) rfl inX5 gdX5 (by decide) fl_X5_13 dX5_makeDuties_117,
  sq_iload X dX5_makeDuties_120,
  sq_iald X dX5_makeDuties_122,
  sq_aload_n X rfl dX5_makeDuties_123,
  sq_aload_n X rfl dX5_makeDuties_124,
  sq_gf X (ci := 5) rfl inX5 gdX5 (by decide) fl_X5_16 dX5_makeDuties_125,
  sq_iload X dX5_makeDuties_128,
  sq_iald X dX5_makeDuties_130,
  sq_iload X dX5_makeDuties_131,
  sq_cv X h_X5_newTarget ⟨_, _, rfl⟩ cw_X5_142 ⟨rfl, by decide, by decide, by decide +kernel⟩ (by decide +kernel) (lev_ok g_X5_newTarget (by decide)) ⟨Nat.zero_le _, Nat.zero_le _⟩ dX5_makeDuties_133,
  sq_cv X h_X5_open ⟨_, _, rfl⟩ cw_X5_148 ⟨rfl, by decide, by decide, by decide +kernel⟩ (by decide +kernel) (lev_ok g_X5_open (by decide)) ⟨Nat.zero_le _, Nat.zero_le _⟩ dX5_makeDuties_136,
  sq_istore X (by decide) dX5_makeDuties_139,
  sq_goto X (by decide) dX5_makeDuties_141,
  sq_aload_n X rfl dX5_makeDuties_144,
  sq_gf X (ci := 5) rfl inX5 gdX5 (by decide) fl_X5_7 dX5_makeDuties_145,
  sq_iload X dX5_makeDuties_148,
  sq_iald X dX5_makeDuties_150,
  sq_bipush X (by decide) dX5_makeDuties_151,
  sq_ic_ne X (by decide) dX5_makeDuties_153,
  sq_aload_n X rfl dX5_makeDuties_156,
  sq_iload X dX5_makeDuties_157,
  sq_aload_n X rfl dX5_makeDuties_159,
  sq_gf X (ci := 5) rfl inX5 gdX5 (by decide) fl_X5_19 dX5_makeDuties_160,
  sq_iload X dX5_makeDuties_163,
  sq_iald X dX5_makeDuties_165,
  sq_iload X dX5_makeDuties_166,
  sq_cv X h_X5_open ⟨_, _, rfl⟩ cw_X5_148 ⟨rfl, by decide, by decide, by decide +kernel⟩ (by decide +kernel) (lev_ok g_X5_open (by decide)) ⟨Nat.zero_le _, Nat.zero_le _⟩ dX5_makeDuties_168,
  sq_istore X (by decide) dX5_makeDuties_171,
  sq_aload_n X rfl dX5_makeDuties_173,
  sq_iload X dX5_makeDuties_174,
  sq_aload_n X rfl dX5_makeDuties_176,
  sq_gf X (ci := 5) rfl inX5 gdX5 (by decide) fl_X5_16 dX5_makeDuties_177,
  sq_iload X dX5_makeDuties_180,
  sq_iald X dX5_makeDuties_182,
  sq_iload X dX5_makeDuties_183,
  sq_cv X h_X5_open ⟨_, _, rfl⟩ cw_X5_148 ⟨rfl, by decide, by decide, by decide +kernel⟩ (by decide +kernel) (lev_ok g_X5_open (by decide)) ⟨Nat.zero_le _, Nat.zero_le _⟩ dX5_makeDuties_185,
  sq_istore X (by decide) dX5_makeDuties_188,
  sq_goto X (by decide) dX5_makeDuties_190,
  sq_aload_n X rfl dX5_makeDuties_193,
  sq_gf X (ci := 5) rfl inX5 gdX5 (by decide) fl_X5_7 dX5_makeDuties_194,
  sq_iload X dX5_makeDuties_197,
  sq_iald X dX5_makeDuties_199,
  sq_bipush X (by decide) dX5_makeDuties_200,
  sq_ic_ne X (by decide) dX5_makeDuties_202,
  sq_aload_n X rfl dX5_makeDuties_205,
  sq_iconst X (by decide) dX5_makeDuties_206,
  sq_aload_n X rfl dX5_makeDuties_207,
  sq_gf X (ci := 5) rfl inX5 gdX5 (by decide) fl_X5_16 dX5_makeDuties_208,
  sq_iload X dX5_makeDuties_211,
  sq_iald X dX5_makeDuties_213,
  sq_cv X h_X5_newTarget ⟨_, _, rfl⟩ cw_X5_142 ⟨rfl, by decide, by decide, by decide +kernel⟩ (by decide +kernel) (lev_ok g_X5_newTarget (by decide)) ⟨Nat.zero_le _, Nat.zero_le _⟩ dX5_makeDuties_214,
  sq_istore X (by decide) dX5_makeDuties_217,
  sq_aload_n X rfl dX5_makeDuties_219,
  sq_iconst X (by decide) dX5_makeDuties_220,
  sq_iload X dX5_makeDuties_221,
  sq_aload_n X rfl dX5_makeDuties_223,
  sq_aload_n X rfl dX5_makeDuties_224,
  sq_gf X (ci := 5) rfl inX5 gdX5 (by decide) fl_X5_19 dX5_makeDuties_225,
  sq_iload X dX5_makeDuties_228,
  sq_iald X dX5_makeDuties_230,
  sq_iload X dX5_makeDuties_231,
  sq_cv X h_X5_newTarget ⟨_, _, rfl⟩ cw_X5_142 ⟨rfl, by decide, by decide, by decide +kernel⟩ (by decide +kernel) (lev_ok g_X5_newTarget (by decide)) ⟨Nat.zero_le _, Nat.zero_le _⟩ dX5_makeDuties_233,
  sq_cv X h_X5_duty ⟨_, _, rfl⟩ cw_X5_144 ⟨rfl, by decide, by decide, by decide +kernel⟩ (by decide +kernel) (lev_ok g_X5_duty (by decide)) ⟨Nat.zero_le _, Nat.zero_le _⟩ dX5_makeDuties_236,
  sq_aload_n X rfl dX5_makeDuties_239,
  sq_iconst X (by decide) dX5_makeDuties_240,
  sq_iload X dX5_makeDuties_241,
  sq_iload X dX5_makeDuties_243,
  sq_cv X h_X5_duty ⟨_, _, rfl⟩ cw_X5_144 ⟨rfl, by decide, by decide, by decide +kernel⟩ (by decide +kernel) (lev_ok g_X5_duty (by decide)) ⟨Nat.zero_le _, Nat.zero_le _⟩ dX5_makeDuties_245,
  sq_aload_n X rfl dX5_makeDuties_248,
  sq_iload X dX5_makeDuties_249,
  sq_aload_n X rfl dX5_makeDuties_251,
  sq_gf X (ci := 5) rfl inX5 gdX5 (by decide) fl_X5_19 dX5_makeDuties_252,
  sq_iload X dX5_makeDuties_255,
  sq_iald X dX5_makeDuties_257,
  sq_iload X dX5_makeDuties_258,
  sq_cv X h_X5_open ⟨_, _, rfl⟩ cw_X5_148 ⟨rfl, by decide, by decide, by decide +kernel⟩ (by decide +kernel) (lev_ok g_X5_open (by decide)) ⟨Nat.zero_le _, Nat.zero_le _⟩ dX5_makeDuties_260,
  sq_istore X (by decide) dX5_makeDuties_263,
  sq_goto X (by decide) dX5_makeDuties_265,
  sq_vret X hr dX5_makeDuties_268, trivial⟩
def tb_X5_open (Φ : Post) : List (Nat × Tr) := [
  (0, tq_ald 0 1),
  (1, tq_gf 5 23 4),
  (4, tq_ild 1 5),
  (5, tq_ild 2 6),
  (6, tq_iast 7),
  (7, tq_ald 0 8),
  (8, tq_gf 5 24 11),
  (11, tq_ild 1 12),
  (12, tq_ild 3 13),
  (13, tq_iast 14),
  (14, tq_ild 1 15),
  (15, tq_push 1 16),
  (16, tq_iadd 17),
  (17, tq_iret Φ)]
set_option maxRecDepth 100000 in
theorem tk_X5_open {p : Program} {l : Launch} {e : Env} {s s0 : State} {a0 : Array Value} {m : MethodId} {args : Array Value} {below : List Frame} {meth : Method} {c : Code} {D : va_G} {ad : Nat → Nat → Nat} {cA : Nat → ClassId} {A : Nat → Prop} {lv : Nat} {Φ : Post} (X : Cx p l s0 a0 s m args meth c cX5_open 4 RX5 D ad cA A) (hr : meth.sig.returnType = (some .int)) : tabOK (K p l e (rmL lv) s m args below meth c D ad cA A 4 0 0 (MQ below (QcW Φ D ad cA A) args s 0 0 A)) (tb_X5_open Φ) :=
  ⟨sq_aload_n X rfl dX5_open_0,
  sq_gf X (ci := 5) rfl inX5 gdX5 (by decide) fl_X5_62 dX5_open_1,
  sq_iload_n X rfl dX5_open_4,
  sq_iload_n X rfl dX5_open_5,
  sq_iast X dX5_open_6,
  sq_aload_n X rfl dX5_open_7,
  sq_gf X (ci := 5) rfl inX5 gdX5 (by decide) fl_X5_65 dX5_open_8,
  sq_iload_n X rfl dX5_open_11,
  sq_iload_n X rfl dX5_open_12,
  sq_iast X dX5_open_13,
  sq_iload_n X rfl dX5_open_14,
  sq_iconst X (by decide) dX5_open_15,
  sq_iadd X dX5_open_16,
  sq_iret X hr dX5_open_17, trivial⟩
def tb_X5_promise (Φ : Post) (S_X5_isCondition S_X5_isCommand S_X5_refuse S_X5_makeDuties : SpecT) : List (Nat × Tr) := [
  (0, tq_ald 0 1),
  (1, tq_push 0 2),
  (2, tq_pf 5 0 5),
  (5, tq_ald 0 6),
  (6, tq_ild 1 7),
  (7, tq_cv 5 2 S_X5_isCondition 10),
  (10, tq_if_eq 29 13),
  (13, tq_ald 0 14),
  (14, tq_ild 2 15),
  (15, tq_cv 5 2 S_X5_isCommand 18),
  (18, tq_if_eq 29 21),
  (21, tq_ald 0 22),
  (22, tq_ild 3 23),
  (23, tq_cv 5 2 S_X5_isCondition 26),
  (26, tq_if_ne 35 29),
  (29, tq_ald 0 30),
  (30, tq_push 1 31),
  (31, tq_cv 5 2 S_X5_refuse 34),
  (34, tq_iret Φ),
  (35, tq_ald 0 36),
  (36, tq_ild 1 37),
  (37, tq_ild 2 38),
  (38, tq_ild 3 39),
  (39, tq_cv 5 4 S_X5_makeDuties 42),
  (42, tq_ald 0 43),
  (43, tq_gf 5 16 46),
  (46, tq_push 16 48),
  (48, tq_ic_le 57 51),
  (51, tq_ald 0 52),
  (52, tq_push 2 53),
  (53, tq_cv 5 2 S_X5_refuse 56),
  (56, tq_iret Φ),
  (57, tq_ald 0 58),
  (58, tq_ald 0 59),
  (59, tq_gf 5 16 62),
  (62, tq_pf 5 12 65),
  (65, tq_ald 0 66),
  (66, tq_ald 0 67),
  (67, tq_gf 5 17 70),
  (70, tq_pf 5 9 73),
  (73, tq_push 0 74),
  (74, tq_ist 4 76),
  (76, tq_ild 4 78),
  (78, tq_ald 0 79),
  (79, tq_gf 5 12 82),
  (82, tq_ic_ge 141 85),
  (85, tq_ald 0 86),
  (86, tq_gf 5 13 89),
  (89, tq_ild 4 91),
  (91, tq_ald 0 92),
  (92, tq_gf 5 18 95),
  (95, tq_ild 4 97),
  (97, tq_iald 98),
  (98, tq_iast 99),
  (99, tq_ald 0 100),
  (100, tq_gf 5 14 103),
  (103, tq_ild 4 105),
  (105, tq_ald 0 106),
  (106, tq_gf 5 19 109),
  (109, tq_ild 4 111),
  (111, tq_iald 112),
  (112, tq_iast 113),
  (113, tq_ald 0 114),
  (114, tq_gf 5 15 117),
  (117, tq_ild 4 119),
  (119, tq_ald 0 120),
  (120, tq_gf 5 20 123),
  (123, tq_ild 4 125),
  (125, tq_iald 126),
  (126, tq_iast 127),
  (127, tq_ald 0 128),
  (128, tq_gf 5 25 131),
  (131, tq_ild 4 133),
  (133, tq_push 0 134),
  (134, tq_zast 135),
  (135, tq_iinc 4 1 138),
  (138, tq_goto 76),
  (141, tq_push 0 142),
  (142, tq_ist 4 144),
  (144, tq_ild 4 146),
  (146, tq_ald 0 147),
  (147, tq_gf 5 9 150),
  (150, tq_ic_ge 187 153),
  (153, tq_ald 0 154),
  (154, tq_gf 5 10 157),
  (157, tq_ild 4 159),
  (159, tq_ald 0 160),
  (160, tq_gf 5 21 163),
  (163, tq_ild 4 165),
  (165, tq_iald 166),
  (166, tq_iast 167),
  (167, tq_ald 0 168),
  (168, tq_gf 5 11 171),
  (171, tq_ild 4 173),
  (173, tq_ald 0 174),
  (174, tq_gf 5 22 177),
  (177, tq_ild 4 179),
  (179, tq_iald 180),
  (180, tq_iast 181),
  (181, tq_iinc 4 1 184),
  (184, tq_goto 144),
  (187, tq_ald 0 188),
  (188, tq_gf 5 12 191),
  (191, tq_iret Φ)]
set_option maxRecDepth 100000 in
theorem tk_X5_promise {p : Program} {l : Launch} {e : Env} {s s0 : State} {a0 : Array Value} {m : MethodId} {args : Array Value} {below : List Frame} {meth : Method} {c : Code} {D : va_G} {ad : Nat → Nat → Nat} {cA : Nat → ClassId} {A : Nat → Prop} {lv : Nat} {Φ : Post} (X : Cx p l s0 a0 s m args meth c cX5_promise 5 RX5 D ad cA A) (hr : meth.sig.returnType = (some .int)) {S_X5_isCondition : SpecT} {v_X5_isCondition : Nat} (h_X5_isCondition : Con l yX5_isCondition cX5_isCondition 2 (some .boolean) 2 v_X5_isCondition S_X5_isCondition) (g_X5_isCondition : v_X5_isCondition + 1 ≤ lv) {S_X5_isCommand : SpecT} {v_X5_isCommand : Nat} (h_X5_isCommand : Con l yX5_isCommand cX5_isCommand 2 (some .boolean) 2 v_X5_isCommand S_X5_isCommand) (g_X5_isCommand : v_X5_isCommand + 1 ≤ lv) {S_X5_refuse : SpecT} {v_X5_refuse : Nat} (h_X5_refuse : Con l yX5_refuse cX5_refuse 2 (some .int) 2 v_X5_refuse S_X5_refuse) (g_X5_refuse : v_X5_refuse + 1 ≤ lv) {S_X5_makeDuties : SpecT} {v_X5_makeDuties : Nat} (h_X5_makeDuties : Con l yX5_makeDuties cX5_makeDuties 9 none 4 v_X5_makeDuties S_X5_makeDuties) (g_X5_makeDuties : v_X5_makeDuties + 1 ≤ lv) : tabOK (K p l e (rmL lv) s m args below meth c D ad cA A 5 0 0 (MQ below (QcW Φ D ad cA A) args s 0 0 A)) (tb_X5_promise Φ S_X5_isCondition S_X5_isCommand S_X5_refuse S_X5_makeDuties) :=
  ⟨sq_aload_n X rfl dX5_promise_0,
  sq_iconst X (by decide) dX5_promise_1,
  sq_pf X (ci := 5) rfl inX5 gdX5 tyX5 tyX5_ok nmX5 (by decide) fl_X5_78 rfl rfl dX5_promise_2,
  sq_aload_n X rfl dX5_promise_5,
  sq_iload_n X rfl dX5_promise_6,
  sq_cv X h_X5_isCondition ⟨_, _, rfl⟩ cw_X5_96 ⟨rfl, by decide, by decide, by decide +kernel⟩ (by decide +kernel) (lev_ok g_X5_isCondition (by decide)) ⟨Nat.zero_le _, Nat.zero_le _⟩ dX5_promise_7,
  sq_if_eq X (by decide) dX5_promise_10,
  sq_aload_n X rfl dX5_promise_13,
  sq_iload_n X rfl dX5_promise_14,
  sq_cv X h_X5_isCommand ⟨_, _, rfl⟩ cw_X5_99 ⟨rfl, by decide, by decide, by decide +kernel⟩ (by decide +kernel) (lev_ok g_X5_isCommand (by decide)) ⟨Nat.zero_le _, Nat.zero_le _⟩ dX5_promise_15,
  sq_if_eq X (by decide) dX5_promise_18,
  sq_aload_n X rfl dX5_promise_21,
  sq_iload_n X rfl dX5_promise_22,
  sq_cv X h_X5_isCondition ⟨_, _, rfl⟩ cw_X5_96 ⟨rfl, by decide, by decide, by decide +kernel⟩ (by decide +kernel) (lev_ok g_X5_isCondition (by decide)) ⟨Nat.zero_le _, Nat.zero_le _⟩ dX5_promise_23,
  sq_if_ne X (by decide) dX5_promise_26,
  sq_aload_n X rfl dX5_promise_29,
  sq_iconst X (by decide) dX5_promise_30,
  sq_cv X h_X5_refuse ⟨_, _, rfl⟩ cw_X5_106 ⟨rfl, by decide, by decide, by decide +kernel⟩ (by decide +kernel) (lev_ok g_X5_refuse (by decide)) ⟨Nat.zero_le _, Nat.zero_le _⟩ dX5_promise_31,
  sq_iret X hr dX5_promise_34,
  sq_aload_n X rfl dX5_promise_35,
  sq_iload_n X rfl dX5_promise_36,
  sq_iload_n X rfl dX5_promise_37,
  sq_iload_n X rfl dX5_promise_38,
  sq_cv X h_X5_makeDuties ⟨_, _, rfl⟩ cw_X5_152 ⟨rfl, by decide, by decide, by decide +kernel⟩ (by decide +kernel) (lev_ok g_X5_makeDuties (by decide)) ⟨Nat.zero_le _, Nat.zero_le _⟩ dX5_promise_39,
  sq_aload_n X rfl dX5_promise_42,
  sq_gf X (ci := 5) rfl inX5 gdX5 (by decide) fl_X5_139 dX5_promise_43,
  sq_bipush X (by decide) dX5_promise_46,
  sq_ic_le X (by decide) dX5_promise_48,
  sq_aload_n X rfl dX5_promise_51,
  sq_iconst X (by decide) dX5_promise_52,
  sq_cv X h_X5_refuse ⟨_, _, rfl⟩ cw_X5_106 ⟨rfl, by decide, by decide, by decide +kernel⟩ (by decide +kernel) (lev_ok g_X5_refuse (by decide)) ⟨Nat.zero_le _, Nat.zero_le _⟩ dX5_promise_53,
  sq_iret X hr dX5_promise_56,
  sq_aload_n X rfl dX5_promise_57,
  sq_aload_n X rfl dX5_promise_58,
  sq_gf X (ci := 5) rfl inX5 gdX5 (by decide) fl_X5_139 dX5_promise_59,
  sq_pf X (ci := 5) rfl inX5 gdX5 tyX5 tyX5_ok nmX5 (by decide) fl_X5_155 rfl rfl dX5_promise_62,
  sq_aload_n X rfl dX5_promise_65,
  sq_aload_n X rfl dX5_promise_66,
  sq_gf X (ci := 5) rfl inX5 gdX5 (by decide) fl_X5_136 dX5_promise_67,
  sq_pf X (ci := 5) rfl inX5 gdX5 tyX5 tyX5_ok nmX5 (by decide) fl_X5_158 rfl rfl dX5_promise_70,
  sq_iconst X (by decide) dX5_promise_73,
  sq_istore X (by decide) dX5_promise_74,
  sq_iload X dX5_promise_76,
  sq_aload_n X rfl dX5_promise_78,
  sq_gf X (ci := 5) rfl inX5 gdX5 (by decide) fl_X5_155 dX5_promise_79,
  sq_ic_ge X (by decide) dX5_promise_82,
  sq_aload_n X rfl dX5_promise_85,
  sq_gf X (ci := 5) rfl inX5 gdX5 (by decide) fl_X5_38 dX5_promise_86,
  sq_iload X dX5_promise_89,
  sq_aload_n X rfl dX5_promise_91,
  sq_gf X (ci := 5) rfl inX5 gdX5 (by decide) fl_X5_47 dX5_promise_92,
  sq_iload X dX5_promise_95,
  sq_iald X dX5_promise_97,
  sq_iast X dX5_promise_98,
  sq_aload_n X rfl dX5_promise_99,
  sq_gf X (ci := 5) rfl inX5 gdX5 (by decide) fl_X5_41 dX5_promise_100,
  sq_iload X dX5_promise_103,
  sq_aload_n X rfl dX5_promise_105,
  sq_gf X (ci := 5) rfl inX5 gdX5 (by decide) fl_X5_50 dX5_promise_106,
  sq_iload X dX5_promise_109,
  sq_iald X dX5_promise_111,
  sq_iast X dX5_promise_112,
  sq_aload_n X rfl dX5_promise_113,
  sq_gf X (ci := 5) rfl inX5 gdX5 (by decide) fl_X5_44 dX5_promise_114,
  sq_iload X dX5_promise_117,
  sq_aload_n X rfl dX5_promise_119,
  sq_gf X (ci := 5) rfl inX5 gdX5 (by decide) fl_X5_53 dX5_promise_120,
  sq_iload X dX5_promise_123,
  sq_iald X dX5_promise_125,
  sq_iast X dX5_promise_126,
  sq_aload_n X rfl dX5_promise_127,
  sq_gf X (ci := 5) rfl inX5 gdX5 (by decide) fl_X5_68 dX5_promise_128,
  sq_iload X dX5_promise_131,
  sq_iconst X (by decide) dX5_promise_133,
  sq_zast X dX5_promise_134,
  sq_iinc X (by decide) (by decide) dX5_promise_135,
  sq_goto X (by decide) dX5_promise_138,
  sq_iconst X (by decide) dX5_promise_141,
  sq_istore X (by decide) dX5_promise_142,
  sq_iload X dX5_promise_144,
  sq_aload_n X rfl dX5_promise_146,
  sq_gf X (ci := 5) rfl inX5 gdX5 (by decide) fl_X5_158 dX5_promise_147,
  sq_ic_ge X (by decide) dX5_promise_150,
  sq_aload_n X rfl dX5_promise_153,
  sq_gf X (ci := 5) rfl inX5 gdX5 (by decide) fl_X5_32 dX5_promise_154,
  sq_iload X dX5_promise_157,
  sq_aload_n X rfl dX5_promise_159,
  sq_gf X (ci := 5) rfl inX5 gdX5 (by decide) fl_X5_56 dX5_promise_160,
  sq_iload X dX5_promise_163,
  sq_iald X dX5_promise_165,
  sq_iast X dX5_promise_166,
  sq_aload_n X rfl dX5_promise_167,
  sq_gf X (ci := 5) rfl inX5 gdX5 (by decide) fl_X5_35 dX5_promise_168,
  sq_iload X dX5_promise_171,
  sq_aload_n X rfl dX5_promise_173,
  sq_gf X (ci := 5) rfl inX5 gdX5 (by decide) fl_X5_59 dX5_promise_174,
  sq_iload X dX5_promise_177,
  sq_iald X dX5_promise_179,
  sq_iast X dX5_promise_180,
  sq_iinc X (by decide) (by decide) dX5_promise_181,
  sq_goto X (by decide) dX5_promise_184,
  sq_aload_n X rfl dX5_promise_187,
  sq_gf X (ci := 5) rfl inX5 gdX5 (by decide) fl_X5_155 dX5_promise_188,
  sq_iret X hr dX5_promise_191, trivial⟩
def tb_X5_reaches (Φ : Post) (S_X5_isTrue S_X5_changed : SpecT) : List (Nat × Tr) := [
  (0, tq_ild 2 1),
  (1, tq_ist 3 2),
  (2, tq_ild 1 3),
  (3, tq_ist 4 5),
  (5, tq_ald 0 6),
  (6, tq_gf 5 10 9),
  (9, tq_ild 4 11),
  (11, tq_iald 12),
  (12, tq_if_lt 213 15),
  (15, tq_push 1 16),
  (16, tq_ist 5 18),
  (18, tq_ald 0 19),
  (19, tq_gf 5 27 22),
  (22, tq_push 0 23),
  (23, tq_ald 0 24),
  (24, tq_gf 5 10 27),
  (27, tq_ild 4 29),
  (29, tq_iald 30),
  (30, tq_iast 31),
  (31, tq_ild 5 33),
  (33, tq_if_le 201 36),
  (36, tq_iinc 5 (-1) 39),
  (39, tq_ald 0 40),
  (40, tq_gf 5 27 43),
  (43, tq_ild 5 45),
  (45, tq_iald 46),
  (46, tq_ist 6 48),
  (48, tq_ald 0 49),
  (49, tq_gf 5 2 52),
  (52, tq_ild 6 54),
  (54, tq_iald 55),
  (55, tq_push 15 57),
  (57, tq_ic_ne 73 60),
  (60, tq_ald 0 61),
  (61, tq_ald 0 62),
  (62, tq_gf 5 4 65),
  (65, tq_ild 6 67),
  (67, tq_iald 68),
  (68, tq_ild 3 69),
  (69, tq_cv 5 3 S_X5_isTrue 72),
  (72, tq_zret Φ),
  (73, tq_ald 0 74),
  (74, tq_gf 5 2 77),
  (77, tq_ild 6 79),
  (79, tq_iald 80),
  (80, tq_push 12 82),
  (82, tq_ic_ne 96 85),
  (85, tq_ald 0 86),
  (86, tq_ild 6 88),
  (88, tq_ild 3 89),
  (89, tq_cv 5 3 S_X5_changed 92),
  (92, tq_ist 3 93),
  (93, tq_goto 198),
  (96, tq_ald 0 97),
  (97, tq_gf 5 2 100),
  (100, tq_ild 6 102),
  (102, tq_iald 103),
  (103, tq_push 14 105),
  (105, tq_ic_ne 153 108),
  (108, tq_ald 0 109),
  (109, tq_gf 5 27 112),
  (112, tq_ild 5 114),
  (114, tq_ald 0 115),
  (115, tq_ald 0 116),
  (116, tq_gf 5 3 119),
  (119, tq_ild 6 121),
  (121, tq_iald 122),
  (122, tq_ild 3 123),
  (123, tq_cv 5 3 S_X5_isTrue 126),
  (126, tq_if_eq 139 129),
  (129, tq_ald 0 130),
  (130, tq_gf 5 4 133),
  (133, tq_ild 6 135),
  (135, tq_iald 136),
  (136, tq_goto 146),
  (139, tq_ald 0 140),
  (140, tq_gf 5 5 143),
  (143, tq_ild 6 145),
  (145, tq_iald 146),
  (146, tq_iast 147),
  (147, tq_iinc 5 1 150),
  (150, tq_goto 198),
  (153, tq_ald 0 154),
  (154, tq_gf 5 2 157),
  (157, tq_ild 6 159),
  (159, tq_iald 160),
  (160, tq_push 13 162),
  (162, tq_ic_ne 198 165),
  (165, tq_ald 0 166),
  (166, tq_gf 5 27 169),
  (169, tq_ild 5 171),
  (171, tq_ald 0 172),
  (172, tq_gf 5 4 175),
  (175, tq_ild 6 177),
  (177, tq_iald 178),
  (178, tq_iast 179),
  (179, tq_ald 0 180),
  (180, tq_gf 5 27 183),
  (183, tq_ild 5 185),
  (185, tq_push 1 186),
  (186, tq_iadd 187),
  (187, tq_ald 0 188),
  (188, tq_gf 5 3 191),
  (191, tq_ild 6 193),
  (193, tq_iald 194),
  (194, tq_iast 195),
  (195, tq_iinc 5 2 198),
  (198, tq_goto 31),
  (201, tq_ald 0 202),
  (202, tq_gf 5 11 205),
  (205, tq_ild 4 207),
  (207, tq_iald 208),
  (208, tq_ist 4 210),
  (210, tq_goto 5),
  (213, tq_ald 0 214),
  (214, tq_ald 0 215),
  (215, tq_gf 5 11 218),
  (218, tq_ild 4 220),
  (220, tq_iald 221),
  (221, tq_ild 3 222),
  (222, tq_cv 5 3 S_X5_isTrue 225),
  (225, tq_zret Φ)]
set_option maxRecDepth 100000 in
theorem tk_X5_reaches {p : Program} {l : Launch} {e : Env} {s s0 : State} {a0 : Array Value} {m : MethodId} {args : Array Value} {below : List Frame} {meth : Method} {c : Code} {D : va_G} {ad : Nat → Nat → Nat} {cA : Nat → ClassId} {A : Nat → Prop} {lv : Nat} {Φ : Post} (X : Cx p l s0 a0 s m args meth c cX5_reaches 7 RX5 D ad cA A) (hr : meth.sig.returnType = (some .boolean)) {S_X5_isTrue : SpecT} {v_X5_isTrue : Nat} (h_X5_isTrue : Con l yX5_isTrue cX5_isTrue 3 (some .boolean) 3 v_X5_isTrue S_X5_isTrue) (g_X5_isTrue : v_X5_isTrue + 1 ≤ lv) {S_X5_changed : SpecT} {v_X5_changed : Nat} (h_X5_changed : Con l yX5_changed cX5_changed 4 (some .int) 3 v_X5_changed S_X5_changed) (g_X5_changed : v_X5_changed + 1 ≤ lv) : tabOK (K p l e (rmL lv) s m args below meth c D ad cA A 7 0 0 (MQ below (QcW Φ D ad cA A) args s 0 0 A)) (tb_X5_reaches Φ S_X5_isTrue S_X5_changed) :=
  ⟨sq_iload_n X rfl dX5_reaches_0,
  sq_istore_n X rfl (by decide) dX5_reaches_1,
  sq_iload_n X rfl dX5_reaches_2,
  sq_istore X (by decide) dX5_reaches_3,
  sq_aload_n X rfl dX5_reaches_5,
  sq_gf X (ci := 5) rfl inX5 gdX5 (by decide) fl_X5_32 dX5_reaches_6,
  sq_iload X dX5_reaches_9,
  sq_iald X dX5_reaches_11,
  sq_if_lt X (by decide) dX5_reaches_12,
  sq_iconst X (by decide) dX5_reaches_15,
  sq_istore X (by decide) dX5_reaches_16,
  sq_aload_n X rfl dX5_reaches_18,
  sq_gf X (ci := 5) rfl inX5 gdX5 (by decide) fl_X5_75 dX5_reaches_19,
  sq_iconst X (by decide) dX5_reaches_22,
  sq_aload_n X rfl dX5_reaches_23,
  sq_gf X (ci := 5) rfl inX5 gdX5 (by decide) fl_X5_32 dX5_reaches_24,
  sq_iload X dX5_reaches_27,
  sq_iald X dX5_reaches_29,
  sq_iast X dX5_reaches_30,
  sq_iload X dX5_reaches_31,
  sq_if_le X (by decide) dX5_reaches_33,
  sq_iinc X (by decide) (by decide) dX5_reaches_36,
  sq_aload_n X rfl dX5_reaches_39,
  sq_gf X (ci := 5) rfl inX5 gdX5 (by decide) fl_X5_75 dX5_reaches_40,
  sq_iload X dX5_reaches_43,
  sq_iald X dX5_reaches_45,
  sq_istore X (by decide) dX5_reaches_46,
  sq_aload_n X rfl dX5_reaches_48,
  sq_gf X (ci := 5) rfl inX5 gdX5 (by decide) fl_X5_7 dX5_reaches_49,
  sq_iload X dX5_reaches_52,
  sq_iald X dX5_reaches_54,
  sq_bipush X (by decide) dX5_reaches_55,
  sq_ic_ne X (by decide) dX5_reaches_57,
  sq_aload_n X rfl dX5_reaches_60,
  sq_aload_n X rfl dX5_reaches_61,
  sq_gf X (ci := 5) rfl inX5 gdX5 (by decide) fl_X5_16 dX5_reaches_62,
  sq_iload X dX5_reaches_65,
  sq_iald X dX5_reaches_67,
  sq_iload_n X rfl dX5_reaches_68,
  sq_cv X h_X5_isTrue ⟨_, _, rfl⟩ cw_X5_129 ⟨rfl, by decide, by decide, by decide +kernel⟩ (by decide +kernel) (lev_ok g_X5_isTrue (by decide)) ⟨Nat.zero_le _, Nat.zero_le _⟩ dX5_reaches_69,
  sq_zret X hr dX5_reaches_72,
  sq_aload_n X rfl dX5_reaches_73,
  sq_gf X (ci := 5) rfl inX5 gdX5 (by decide) fl_X5_7 dX5_reaches_74,
  sq_iload X dX5_reaches_77,
  sq_iald X dX5_reaches_79,
  sq_bipush X (by decide) dX5_reaches_80,
  sq_ic_ne X (by decide) dX5_reaches_82,
  sq_aload_n X rfl dX5_reaches_85,
  sq_iload X dX5_reaches_86,
  sq_iload_n X rfl dX5_reaches_88,
  sq_cv X h_X5_changed ⟨_, _, rfl⟩ cw_X5_133 ⟨rfl, by decide, by decide, by decide +kernel⟩ (by decide +kernel) (lev_ok g_X5_changed (by decide)) ⟨Nat.zero_le _, Nat.zero_le _⟩ dX5_reaches_89,
  sq_istore_n X rfl (by decide) dX5_reaches_92,
  sq_goto X (by decide) dX5_reaches_93,
  sq_aload_n X rfl dX5_reaches_96,
  sq_gf X (ci := 5) rfl inX5 gdX5 (by decide) fl_X5_7 dX5_reaches_97,
  sq_iload X dX5_reaches_100,
  sq_iald X dX5_reaches_102,
  sq_bipush X (by decide) dX5_reaches_103,
  sq_ic_ne X (by decide) dX5_reaches_105,
  sq_aload_n X rfl dX5_reaches_108,
  sq_gf X (ci := 5) rfl inX5 gdX5 (by decide) fl_X5_75 dX5_reaches_109,
  sq_iload X dX5_reaches_112,
  sq_aload_n X rfl dX5_reaches_114,
  sq_aload_n X rfl dX5_reaches_115,
  sq_gf X (ci := 5) rfl inX5 gdX5 (by decide) fl_X5_13 dX5_reaches_116,
  sq_iload X dX5_reaches_119,
  sq_iald X dX5_reaches_121,
  sq_iload_n X rfl dX5_reaches_122,
  sq_cv X h_X5_isTrue ⟨_, _, rfl⟩ cw_X5_129 ⟨rfl, by decide, by decide, by decide +kernel⟩ (by decide +kernel) (lev_ok g_X5_isTrue (by decide)) ⟨Nat.zero_le _, Nat.zero_le _⟩ dX5_reaches_123,
  sq_if_eq X (by decide) dX5_reaches_126,
  sq_aload_n X rfl dX5_reaches_129,
  sq_gf X (ci := 5) rfl inX5 gdX5 (by decide) fl_X5_16 dX5_reaches_130,
  sq_iload X dX5_reaches_133,
  sq_iald X dX5_reaches_135,
  sq_goto X (by decide) dX5_reaches_136,
  sq_aload_n X rfl dX5_reaches_139,
  sq_gf X (ci := 5) rfl inX5 gdX5 (by decide) fl_X5_19 dX5_reaches_140,
  sq_iload X dX5_reaches_143,
  sq_iald X dX5_reaches_145,
  sq_iast X dX5_reaches_146,
  sq_iinc X (by decide) (by decide) dX5_reaches_147,
  sq_goto X (by decide) dX5_reaches_150,
  sq_aload_n X rfl dX5_reaches_153,
  sq_gf X (ci := 5) rfl inX5 gdX5 (by decide) fl_X5_7 dX5_reaches_154,
  sq_iload X dX5_reaches_157,
  sq_iald X dX5_reaches_159,
  sq_bipush X (by decide) dX5_reaches_160,
  sq_ic_ne X (by decide) dX5_reaches_162,
  sq_aload_n X rfl dX5_reaches_165,
  sq_gf X (ci := 5) rfl inX5 gdX5 (by decide) fl_X5_75 dX5_reaches_166,
  sq_iload X dX5_reaches_169,
  sq_aload_n X rfl dX5_reaches_171,
  sq_gf X (ci := 5) rfl inX5 gdX5 (by decide) fl_X5_16 dX5_reaches_172,
  sq_iload X dX5_reaches_175,
  sq_iald X dX5_reaches_177,
  sq_iast X dX5_reaches_178,
  sq_aload_n X rfl dX5_reaches_179,
  sq_gf X (ci := 5) rfl inX5 gdX5 (by decide) fl_X5_75 dX5_reaches_180,
  sq_iload X dX5_reaches_183,
  sq_iconst X (by decide) dX5_reaches_185,
  sq_iadd X dX5_reaches_186,
  sq_aload_n X rfl dX5_reaches_187,
  sq_gf X (ci := 5) rfl inX5 gdX5 (by decide) fl_X5_13 dX5_reaches_188,
  sq_iload X dX5_reaches_191,
  sq_iald X dX5_reaches_193,
  sq_iast X dX5_reaches_194,
  sq_iinc X (by decide) (by decide) dX5_reaches_195,
  sq_goto X (by decide) dX5_reaches_198,
  sq_aload_n X rfl dX5_reaches_201,
  sq_gf X (ci := 5) rfl inX5 gdX5 (by decide) fl_X5_35 dX5_reaches_202,
  sq_iload X dX5_reaches_205,
  sq_iald X dX5_reaches_207,
  sq_istore X (by decide) dX5_reaches_208,
  sq_goto X (by decide) dX5_reaches_210,
  sq_aload_n X rfl dX5_reaches_213,
  sq_aload_n X rfl dX5_reaches_214,
  sq_gf X (ci := 5) rfl inX5 gdX5 (by decide) fl_X5_35 dX5_reaches_215,
  sq_iload X dX5_reaches_218,
  sq_iald X dX5_reaches_220,
  sq_iload_n X rfl dX5_reaches_221,
  sq_cv X h_X5_isTrue ⟨_, _, rfl⟩ cw_X5_129 ⟨rfl, by decide, by decide, by decide +kernel⟩ (by decide +kernel) (lev_ok g_X5_isTrue (by decide)) ⟨Nat.zero_le _, Nat.zero_le _⟩ dX5_reaches_222,
  sq_zret X hr dX5_reaches_225, trivial⟩
def tb_X5_keeps (Φ : Post) (S_X5_isTrue S_X5_reaches : SpecT) : List (Nat × Tr) := [
  (0, tq_ald 0 1),
  (1, tq_gf 5 14 4),
  (4, tq_ild 1 5),
  (5, tq_iald 6),
  (6, tq_ist 3 7),
  (7, tq_ald 0 8),
  (8, tq_gf 5 13 11),
  (11, tq_ild 1 12),
  (12, tq_iald 13),
  (13, tq_if_ne 25 16),
  (16, tq_ald 0 17),
  (17, tq_ild 3 18),
  (18, tq_ild 2 19),
  (19, tq_cv 5 3 S_X5_isTrue 22),
  (22, tq_goto 73),
  (25, tq_ald 0 26),
  (26, tq_ald 0 27),
  (27, tq_gf 5 4 30),
  (30, tq_ild 3 31),
  (31, tq_iald 32),
  (32, tq_ild 2 33),
  (33, tq_cv 5 3 S_X5_isTrue 36),
  (36, tq_if_eq 72 39),
  (39, tq_ald 0 40),
  (40, tq_ald 0 41),
  (41, tq_gf 5 3 44),
  (44, tq_ild 3 45),
  (45, tq_iald 46),
  (46, tq_ild 2 47),
  (47, tq_cv 5 3 S_X5_isTrue 50),
  (50, tq_ald 0 51),
  (51, tq_gf 5 13 54),
  (54, tq_ild 1 55),
  (55, tq_iald 56),
  (56, tq_push 1 57),
  (57, tq_ic_ne 64 60),
  (60, tq_push 1 61),
  (61, tq_goto 65),
  (64, tq_push 0 65),
  (65, tq_ic_ne 72 68),
  (68, tq_push 1 69),
  (69, tq_goto 73),
  (72, tq_push 0 73),
  (73, tq_ist 4 75),
  (75, tq_ild 4 77),
  (77, tq_if_eq 94 80),
  (80, tq_ald 0 81),
  (81, tq_ald 0 82),
  (82, tq_gf 5 15 85),
  (85, tq_ild 1 86),
  (86, tq_iald 87),
  (87, tq_ild 2 88),
  (88, tq_cv 5 3 S_X5_reaches 91),
  (91, tq_if_eq 98 94),
  (94, tq_push 1 95),
  (95, tq_goto 99),
  (98, tq_push 0 99),
  (99, tq_zret Φ)]
set_option maxRecDepth 100000 in
theorem tk_X5_keeps {p : Program} {l : Launch} {e : Env} {s s0 : State} {a0 : Array Value} {m : MethodId} {args : Array Value} {below : List Frame} {meth : Method} {c : Code} {D : va_G} {ad : Nat → Nat → Nat} {cA : Nat → ClassId} {A : Nat → Prop} {lv : Nat} {Φ : Post} (X : Cx p l s0 a0 s m args meth c cX5_keeps 5 RX5 D ad cA A) (hr : meth.sig.returnType = (some .boolean)) {S_X5_isTrue : SpecT} {v_X5_isTrue : Nat} (h_X5_isTrue : Con l yX5_isTrue cX5_isTrue 3 (some .boolean) 3 v_X5_isTrue S_X5_isTrue) (g_X5_isTrue : v_X5_isTrue + 1 ≤ lv) {S_X5_reaches : SpecT} {v_X5_reaches : Nat} (h_X5_reaches : Con l yX5_reaches cX5_reaches 7 (some .boolean) 3 v_X5_reaches S_X5_reaches) (g_X5_reaches : v_X5_reaches + 1 ≤ lv) : tabOK (K p l e (rmL lv) s m args below meth c D ad cA A 5 0 0 (MQ below (QcW Φ D ad cA A) args s 0 0 A)) (tb_X5_keeps Φ S_X5_isTrue S_X5_reaches) :=
  ⟨sq_aload_n X rfl dX5_keeps_0,
  sq_gf X (ci := 5) rfl inX5 gdX5 (by decide) fl_X5_41 dX5_keeps_1,
  sq_iload_n X rfl dX5_keeps_4,
  sq_iald X dX5_keeps_5,
  sq_istore_n X rfl (by decide) dX5_keeps_6,
  sq_aload_n X rfl dX5_keeps_7,
  sq_gf X (ci := 5) rfl inX5 gdX5 (by decide) fl_X5_38 dX5_keeps_8,
  sq_iload_n X rfl dX5_keeps_11,
  sq_iald X dX5_keeps_12,
  sq_if_ne X (by decide) dX5_keeps_13,
  sq_aload_n X rfl dX5_keeps_16,
  sq_iload_n X rfl dX5_keeps_17,
  sq_iload_n X rfl dX5_keeps_18,
  sq_cv X h_X5_isTrue ⟨_, _, rfl⟩ cw_X5_129 ⟨rfl, by decide, by decide, by decide +kernel⟩ (by decide +kernel) (lev_ok g_X5_isTrue (by decide)) ⟨Nat.zero_le _, Nat.zero_le _⟩ dX5_keeps_19,
  sq_goto X (by decide) dX5_keeps_22,
  sq_aload_n X rfl dX5_keeps_25,
  sq_aload_n X rfl dX5_keeps_26,
  sq_gf X (ci := 5) rfl inX5 gdX5 (by decide) fl_X5_16 dX5_keeps_27,
  sq_iload_n X rfl dX5_keeps_30,
  sq_iald X dX5_keeps_31,
  sq_iload_n X rfl dX5_keeps_32,
  sq_cv X h_X5_isTrue ⟨_, _, rfl⟩ cw_X5_129 ⟨rfl, by decide, by decide, by decide +kernel⟩ (by decide +kernel) (lev_ok g_X5_isTrue (by decide)) ⟨Nat.zero_le _, Nat.zero_le _⟩ dX5_keeps_33,
  sq_if_eq X (by decide) dX5_keeps_36,
  sq_aload_n X rfl dX5_keeps_39,
  sq_aload_n X rfl dX5_keeps_40,
  sq_gf X (ci := 5) rfl inX5 gdX5 (by decide) fl_X5_13 dX5_keeps_41,
  sq_iload_n X rfl dX5_keeps_44,
  sq_iald X dX5_keeps_45,
  sq_iload_n X rfl dX5_keeps_46,
  sq_cv X h_X5_isTrue ⟨_, _, rfl⟩ cw_X5_129 ⟨rfl, by decide, by decide, by decide +kernel⟩ (by decide +kernel) (lev_ok g_X5_isTrue (by decide)) ⟨Nat.zero_le _, Nat.zero_le _⟩ dX5_keeps_47,
  sq_aload_n X rfl dX5_keeps_50,
  sq_gf X (ci := 5) rfl inX5 gdX5 (by decide) fl_X5_38 dX5_keeps_51,
  sq_iload_n X rfl dX5_keeps_54,
  sq_iald X dX5_keeps_55,
  sq_iconst X (by decide) dX5_keeps_56,
  sq_ic_ne X (by decide) dX5_keeps_57,
  sq_iconst X (by decide) dX5_keeps_60,
  sq_goto X (by decide) dX5_keeps_61,
  sq_iconst X (by decide) dX5_keeps_64,
  sq_ic_ne X (by decide) dX5_keeps_65,
  sq_iconst X (by decide) dX5_keeps_68,
  sq_goto X (by decide) dX5_keeps_69,
  sq_iconst X (by decide) dX5_keeps_72,
  sq_istore X (by decide) dX5_keeps_73,
  sq_iload X dX5_keeps_75,
  sq_if_eq X (by decide) dX5_keeps_77,
  sq_aload_n X rfl dX5_keeps_80,
  sq_aload_n X rfl dX5_keeps_81,
  sq_gf X (ci := 5) rfl inX5 gdX5 (by decide) fl_X5_44 dX5_keeps_82,
  sq_iload_n X rfl dX5_keeps_85,
  sq_iald X dX5_keeps_86,
  sq_iload_n X rfl dX5_keeps_87,
  sq_cv X h_X5_reaches ⟨_, _, rfl⟩ cw_X5_161 ⟨rfl, by decide, by decide, by decide +kernel⟩ (by decide +kernel) (lev_ok g_X5_reaches (by decide)) ⟨Nat.zero_le _, Nat.zero_le _⟩ dX5_keeps_88,
  sq_if_eq X (by decide) dX5_keeps_91,
  sq_iconst X (by decide) dX5_keeps_94,
  sq_goto X (by decide) dX5_keeps_95,
  sq_iconst X (by decide) dX5_keeps_98,
  sq_zret X hr dX5_keeps_99, trivial⟩
def tb_X5_look (Φ : Post) (S_X5_keeps : SpecT) : List (Nat × Tr) := [
  (0, tq_ald 0 1),
  (1, tq_gf 5 25 4),
  (4, tq_ild 1 5),
  (5, tq_zald 6),
  (6, tq_if_eq 10 9),
  (9, tq_vret Φ),
  (10, tq_ald 0 11),
  (11, tq_gf 5 25 14),
  (14, tq_ild 1 15),
  (15, tq_push 1 16),
  (16, tq_zast 17),
  (17, tq_push 0 18),
  (18, tq_ist 2 19),
  (19, tq_ild 2 20),
  (20, tq_push 128 23),
  (23, tq_ic_ge 89 26),
  (26, tq_push 0 27),
  (27, tq_ist 3 28),
  (28, tq_push 0 29),
  (29, tq_ist 4 31),
  (31, tq_ild 4 33),
  (33, tq_push 32 35),
  (35, tq_ic_ge 70 38),
  (38, tq_ald 0 39),
  (39, tq_ild 1 40),
  (40, tq_push 32 42),
  (42, tq_ild 2 43),
  (43, tq_imul 44),
  (44, tq_ild 4 46),
  (46, tq_iadd 47),
  (47, tq_cv 5 3 S_X5_keeps 50),
  (50, tq_if_eq 57 53),
  (53, tq_ild 3 54),
  (54, tq_goto 63),
  (57, tq_ild 3 58),
  (58, tq_push 1 59),
  (59, tq_ild 4 61),
  (61, tq_ishl 62),
  (62, tq_ior 63),
  (63, tq_ist 3 64),
  (64, tq_iinc 4 1 67),
  (67, tq_goto 31),
  (70, tq_ald 0 71),
  (71, tq_gf 5 26 74),
  (74, tq_push 128 77),
  (77, tq_ild 1 78),
  (78, tq_imul 79),
  (79, tq_ild 2 80),
  (80, tq_iadd 81),
  (81, tq_ild 3 82),
  (82, tq_iast 83),
  (83, tq_iinc 2 1 86),
  (86, tq_goto 19),
  (89, tq_vret Φ)]
set_option maxRecDepth 100000 in
theorem tk_X5_look {p : Program} {l : Launch} {e : Env} {s s0 : State} {a0 : Array Value} {m : MethodId} {args : Array Value} {below : List Frame} {meth : Method} {c : Code} {D : va_G} {ad : Nat → Nat → Nat} {cA : Nat → ClassId} {A : Nat → Prop} {lv : Nat} {Φ : Post} (X : Cx p l s0 a0 s m args meth c cX5_look 5 RX5 D ad cA A) (hr : meth.sig.returnType = none) {S_X5_keeps : SpecT} {v_X5_keeps : Nat} (h_X5_keeps : Con l yX5_keeps cX5_keeps 5 (some .boolean) 3 v_X5_keeps S_X5_keeps) (g_X5_keeps : v_X5_keeps + 1 ≤ lv) : tabOK (K p l e (rmL lv) s m args below meth c D ad cA A 5 0 0 (MQ below (QcW Φ D ad cA A) args s 0 0 A)) (tb_X5_look Φ S_X5_keeps) :=
  ⟨sq_aload_n X rfl dX5_look_0,
  sq_gf X (ci := 5) rfl inX5 gdX5 (by decide) fl_X5_68 dX5_look_1,
  sq_iload_n X rfl dX5_look_4,
  sq_zald X dX5_look_5,
  sq_if_eq X (by decide) dX5_look_6,
  sq_vret X hr dX5_look_9,
  sq_aload_n X rfl dX5_look_10,
  sq_gf X (ci := 5) rfl inX5 gdX5 (by decide) fl_X5_68 dX5_look_11,
  sq_iload_n X rfl dX5_look_14,
  sq_iconst X (by decide) dX5_look_15,
  sq_zast X dX5_look_16,
  sq_iconst X (by decide) dX5_look_17,
  sq_istore_n X rfl (by decide) dX5_look_18,
  sq_iload_n X rfl dX5_look_19,
  sq_sipush X (by decide) dX5_look_20,
  sq_ic_ge X (by decide) dX5_look_23,
  sq_iconst X (by decide) dX5_look_26,
  sq_istore_n X rfl (by decide) dX5_look_27,
  sq_iconst X (by decide) dX5_look_28,
  sq_istore X (by decide) dX5_look_29,
  sq_iload X dX5_look_31,
  sq_bipush X (by decide) dX5_look_33,
  sq_ic_ge X (by decide) dX5_look_35,
  sq_aload_n X rfl dX5_look_38,
  sq_iload_n X rfl dX5_look_39,
  sq_bipush X (by decide) dX5_look_40,
  sq_iload_n X rfl dX5_look_42,
  sq_imul X dX5_look_43,
  sq_iload X dX5_look_44,
  sq_iadd X dX5_look_46,
  sq_cv X h_X5_keeps ⟨_, _, rfl⟩ cw_X5_164 ⟨rfl, by decide, by decide, by decide +kernel⟩ (by decide +kernel) (lev_ok g_X5_keeps (by decide)) ⟨Nat.zero_le _, Nat.zero_le _⟩ dX5_look_47,
  sq_if_eq X (by decide) dX5_look_50,
  sq_iload_n X rfl dX5_look_53,
  sq_goto X (by decide) dX5_look_54,
  sq_iload_n X rfl dX5_look_57,
  sq_iconst X (by decide) dX5_look_58,
  sq_iload X dX5_look_59,
  sq_ishl X dX5_look_61,
  sq_ior X dX5_look_62,
  sq_istore_n X rfl (by decide) dX5_look_63,
  sq_iinc X (by decide) (by decide) dX5_look_64,
  sq_goto X (by decide) dX5_look_67,
  sq_aload_n X rfl dX5_look_70,
  sq_gf X (ci := 5) rfl inX5 gdX5 (by decide) fl_X5_72 dX5_look_71,
  sq_sipush X (by decide) dX5_look_74,
  sq_iload_n X rfl dX5_look_77,
  sq_imul X dX5_look_78,
  sq_iload_n X rfl dX5_look_79,
  sq_iadd X dX5_look_80,
  sq_iload_n X rfl dX5_look_81,
  sq_iast X dX5_look_82,
  sq_iinc X (by decide) (by decide) dX5_look_83,
  sq_goto X (by decide) dX5_look_86,
  sq_vret X hr dX5_look_89, trivial⟩
def tb_X5_isBad (Φ : Post) : List (Nat × Tr) := [
  (0, tq_ald 0 1),
  (1, tq_gf 5 26 4),
  (4, tq_push 128 7),
  (7, tq_ild 1 8),
  (8, tq_imul 9),
  (9, tq_ild 2 10),
  (10, tq_push 32 12),
  (12, tq_idiv 13),
  (13, tq_iadd 14),
  (14, tq_iald 15),
  (15, tq_ild 2 16),
  (16, tq_push 32 18),
  (18, tq_irem 19),
  (19, tq_ishr 20),
  (20, tq_push 1 21),
  (21, tq_iand 22),
  (22, tq_push 1 23),
  (23, tq_ic_ne 30 26),
  (26, tq_push 1 27),
  (27, tq_goto 31),
  (30, tq_push 0 31),
  (31, tq_zret Φ)]
set_option maxRecDepth 100000 in
theorem tk_X5_isBad {p : Program} {l : Launch} {e : Env} {s s0 : State} {a0 : Array Value} {m : MethodId} {args : Array Value} {below : List Frame} {meth : Method} {c : Code} {D : va_G} {ad : Nat → Nat → Nat} {cA : Nat → ClassId} {A : Nat → Prop} {lv : Nat} {Φ : Post} (X : Cx p l s0 a0 s m args meth c cX5_isBad 3 RX5 D ad cA A) (hr : meth.sig.returnType = (some .boolean)) : tabOK (K p l e (rmL lv) s m args below meth c D ad cA A 3 0 0 (MQ below (QcW Φ D ad cA A) args s 0 0 A)) (tb_X5_isBad Φ) :=
  ⟨sq_aload_n X rfl dX5_isBad_0,
  sq_gf X (ci := 5) rfl inX5 gdX5 (by decide) fl_X5_72 dX5_isBad_1,
  sq_sipush X (by decide) dX5_isBad_4,
  sq_iload_n X rfl dX5_isBad_7,
  sq_imul X dX5_isBad_8,
  sq_iload_n X rfl dX5_isBad_9,
  sq_bipush X (by decide) dX5_isBad_10,
  sq_idiv X dX5_isBad_12,
  sq_iadd X dX5_isBad_13,
  sq_iald X dX5_isBad_14,
  sq_iload_n X rfl dX5_isBad_15,
  sq_bipush X (by decide) dX5_isBad_16,
  sq_irem X dX5_isBad_18,
  sq_ishr X dX5_isBad_19,
  sq_iconst X (by decide) dX5_isBad_20,
  sq_iand X dX5_isBad_21,
  sq_iconst X (by decide) dX5_isBad_22,
  sq_ic_ne X (by decide) dX5_isBad_23,
  sq_iconst X (by decide) dX5_isBad_26,
  sq_goto X (by decide) dX5_isBad_27,
  sq_iconst X (by decide) dX5_isBad_30,
  sq_zret X hr dX5_isBad_31, trivial⟩
def tb_X5_countBad (Φ : Post) (S_X5_look S_X5_isBad : SpecT) : List (Nat × Tr) := [
  (0, tq_ald 0 1),
  (1, tq_ild 1 2),
  (2, tq_cv 5 2 S_X5_look 5),
  (5, tq_push 0 6),
  (6, tq_ist 4 8),
  (8, tq_ild 2 9),
  (9, tq_ist 5 11),
  (11, tq_ild 5 13),
  (13, tq_ild 3 14),
  (14, tq_ic_gt 44 17),
  (17, tq_ald 0 18),
  (18, tq_ild 1 19),
  (19, tq_ild 5 21),
  (21, tq_cv 5 3 S_X5_isBad 24),
  (24, tq_if_eq 34 27),
  (27, tq_ild 4 29),
  (29, tq_push 1 30),
  (30, tq_iadd 31),
  (31, tq_goto 36),
  (34, tq_ild 4 36),
  (36, tq_ist 4 38),
  (38, tq_iinc 5 1 41),
  (41, tq_goto 11),
  (44, tq_ild 4 46),
  (46, tq_iret Φ)]
set_option maxRecDepth 100000 in
theorem tk_X5_countBad {p : Program} {l : Launch} {e : Env} {s s0 : State} {a0 : Array Value} {m : MethodId} {args : Array Value} {below : List Frame} {meth : Method} {c : Code} {D : va_G} {ad : Nat → Nat → Nat} {cA : Nat → ClassId} {A : Nat → Prop} {lv : Nat} {Φ : Post} (X : Cx p l s0 a0 s m args meth c cX5_countBad 6 RX5 D ad cA A) (hr : meth.sig.returnType = (some .int)) {S_X5_look : SpecT} {v_X5_look : Nat} (h_X5_look : Con l yX5_look cX5_look 5 none 2 v_X5_look S_X5_look) (g_X5_look : v_X5_look + 1 ≤ lv) {S_X5_isBad : SpecT} {v_X5_isBad : Nat} (h_X5_isBad : Con l yX5_isBad cX5_isBad 3 (some .boolean) 3 v_X5_isBad S_X5_isBad) (g_X5_isBad : v_X5_isBad + 1 ≤ lv) : tabOK (K p l e (rmL lv) s m args below meth c D ad cA A 6 0 0 (MQ below (QcW Φ D ad cA A) args s 0 0 A)) (tb_X5_countBad Φ S_X5_look S_X5_isBad) :=
  ⟨sq_aload_n X rfl dX5_countBad_0,
  sq_iload_n X rfl dX5_countBad_1,
  sq_cv X h_X5_look ⟨_, _, rfl⟩ cw_X5_167 ⟨rfl, by decide, by decide, by decide +kernel⟩ (by decide +kernel) (lev_ok g_X5_look (by decide)) ⟨Nat.zero_le _, Nat.zero_le _⟩ dX5_countBad_2,
  sq_iconst X (by decide) dX5_countBad_5,
  sq_istore X (by decide) dX5_countBad_6,
  sq_iload_n X rfl dX5_countBad_8,
  sq_istore X (by decide) dX5_countBad_9,
  sq_iload X dX5_countBad_11,
  sq_iload_n X rfl dX5_countBad_13,
  sq_ic_gt X (by decide) dX5_countBad_14,
  sq_aload_n X rfl dX5_countBad_17,
  sq_iload_n X rfl dX5_countBad_18,
  sq_iload X dX5_countBad_19,
  sq_cv X h_X5_isBad ⟨_, _, rfl⟩ cw_X5_171 ⟨rfl, by decide, by decide, by decide +kernel⟩ (by decide +kernel) (lev_ok g_X5_isBad (by decide)) ⟨Nat.zero_le _, Nat.zero_le _⟩ dX5_countBad_21,
  sq_if_eq X (by decide) dX5_countBad_24,
  sq_iload X dX5_countBad_27,
  sq_iconst X (by decide) dX5_countBad_29,
  sq_iadd X dX5_countBad_30,
  sq_goto X (by decide) dX5_countBad_31,
  sq_iload X dX5_countBad_34,
  sq_istore X (by decide) dX5_countBad_36,
  sq_iinc X (by decide) (by decide) dX5_countBad_38,
  sq_goto X (by decide) dX5_countBad_41,
  sq_iload X dX5_countBad_44,
  sq_iret X hr dX5_countBad_46, trivial⟩
def tb_X5_kept (Φ : Post) (S_X5_in S_X5_refuse S_X5_keeps : SpecT) : List (Nat × Tr) := [
  (0, tq_ald 0 1),
  (1, tq_push 0 2),
  (2, tq_pf 5 0 5),
  (5, tq_ild 2 6),
  (6, tq_push 0 7),
  (7, tq_push 4095 10),
  (10, tq_cs 3 S_X5_in 13),
  (13, tq_if_ne 30 16),
  (16, tq_ald 0 17),
  (17, tq_push 1 18),
  (18, tq_cv 5 2 S_X5_refuse 21),
  (21, tq_if_le 28 24),
  (24, tq_push 1 25),
  (25, tq_goto 29),
  (28, tq_push 0 29),
  (29, tq_zret Φ),
  (30, tq_ild 1 31),
  (31, tq_push 0 32),
  (32, tq_ald 0 33),
  (33, tq_gf 5 12 36),
  (36, tq_push 1 37),
  (37, tq_isub 38),
  (38, tq_cs 3 S_X5_in 41),
  (41, tq_if_ne 58 44),
  (44, tq_ald 0 45),
  (45, tq_push 2 46),
  (46, tq_cv 5 2 S_X5_refuse 49),
  (49, tq_if_le 56 52),
  (52, tq_push 1 53),
  (53, tq_goto 57),
  (56, tq_push 0 57),
  (57, tq_zret Φ),
  (58, tq_ald 0 59),
  (59, tq_ild 1 60),
  (60, tq_ild 2 61),
  (61, tq_cv 5 3 S_X5_keeps 64),
  (64, tq_zret Φ)]
set_option maxRecDepth 100000 in
theorem tk_X5_kept {p : Program} {l : Launch} {e : Env} {s s0 : State} {a0 : Array Value} {m : MethodId} {args : Array Value} {below : List Frame} {meth : Method} {c : Code} {D : va_G} {ad : Nat → Nat → Nat} {cA : Nat → ClassId} {A : Nat → Prop} {lv : Nat} {Φ : Post} (X : Cx p l s0 a0 s m args meth c cX5_kept 3 RX5 D ad cA A) (hr : meth.sig.returnType = (some .boolean)) {S_X5_in : SpecT} {v_X5_in : Nat} (h_X5_in : Con l yX5_in cX5_in 3 (some .boolean) 3 v_X5_in S_X5_in) (g_X5_in : v_X5_in + 1 ≤ lv) {S_X5_refuse : SpecT} {v_X5_refuse : Nat} (h_X5_refuse : Con l yX5_refuse cX5_refuse 2 (some .int) 2 v_X5_refuse S_X5_refuse) (g_X5_refuse : v_X5_refuse + 1 ≤ lv) {S_X5_keeps : SpecT} {v_X5_keeps : Nat} (h_X5_keeps : Con l yX5_keeps cX5_keeps 5 (some .boolean) 3 v_X5_keeps S_X5_keeps) (g_X5_keeps : v_X5_keeps + 1 ≤ lv) : tabOK (K p l e (rmL lv) s m args below meth c D ad cA A 3 0 0 (MQ below (QcW Φ D ad cA A) args s 0 0 A)) (tb_X5_kept Φ S_X5_in S_X5_refuse S_X5_keeps) :=
  ⟨sq_aload_n X rfl dX5_kept_0,
  sq_iconst X (by decide) dX5_kept_1,
  sq_pf X (ci := 5) rfl inX5 gdX5 tyX5 tyX5_ok nmX5 (by decide) fl_X5_78 rfl rfl dX5_kept_2,
  sq_iload_n X rfl dX5_kept_5,
  sq_iconst X (by decide) dX5_kept_6,
  sq_sipush X (by decide) dX5_kept_7,
  sq_cs X h_X5_in cw_X5_85 ⟨by decide, by decide, by decide +kernel⟩ (by decide +kernel) (lev_ok g_X5_in (by decide)) ⟨Nat.zero_le _, Nat.zero_le _⟩ dX5_kept_10,
  sq_if_ne X (by decide) dX5_kept_13,
  sq_aload_n X rfl dX5_kept_16,
  sq_iconst X (by decide) dX5_kept_17,
  sq_cv X h_X5_refuse ⟨_, _, rfl⟩ cw_X5_106 ⟨rfl, by decide, by decide, by decide +kernel⟩ (by decide +kernel) (lev_ok g_X5_refuse (by decide)) ⟨Nat.zero_le _, Nat.zero_le _⟩ dX5_kept_18,
  sq_if_le X (by decide) dX5_kept_21,
  sq_iconst X (by decide) dX5_kept_24,
  sq_goto X (by decide) dX5_kept_25,
  sq_iconst X (by decide) dX5_kept_28,
  sq_zret X hr dX5_kept_29,
  sq_iload_n X rfl dX5_kept_30,
  sq_iconst X (by decide) dX5_kept_31,
  sq_aload_n X rfl dX5_kept_32,
  sq_gf X (ci := 5) rfl inX5 gdX5 (by decide) fl_X5_155 dX5_kept_33,
  sq_iconst X (by decide) dX5_kept_36,
  sq_isub X dX5_kept_37,
  sq_cs X h_X5_in cw_X5_85 ⟨by decide, by decide, by decide +kernel⟩ (by decide +kernel) (lev_ok g_X5_in (by decide)) ⟨Nat.zero_le _, Nat.zero_le _⟩ dX5_kept_38,
  sq_if_ne X (by decide) dX5_kept_41,
  sq_aload_n X rfl dX5_kept_44,
  sq_iconst X (by decide) dX5_kept_45,
  sq_cv X h_X5_refuse ⟨_, _, rfl⟩ cw_X5_106 ⟨rfl, by decide, by decide, by decide +kernel⟩ (by decide +kernel) (lev_ok g_X5_refuse (by decide)) ⟨Nat.zero_le _, Nat.zero_le _⟩ dX5_kept_46,
  sq_if_le X (by decide) dX5_kept_49,
  sq_iconst X (by decide) dX5_kept_52,
  sq_goto X (by decide) dX5_kept_53,
  sq_iconst X (by decide) dX5_kept_56,
  sq_zret X hr dX5_kept_57,
  sq_aload_n X rfl dX5_kept_58,
  sq_iload_n X rfl dX5_kept_59,
  sq_iload_n X rfl dX5_kept_60,
  sq_cv X h_X5_keeps ⟨_, _, rfl⟩ cw_X5_164 ⟨rfl, by decide, by decide, by decide +kernel⟩ (by decide +kernel) (lev_ok g_X5_keeps (by decide)) ⟨Nat.zero_le _, Nat.zero_le _⟩ dX5_kept_61,
  sq_zret X hr dX5_kept_64, trivial⟩
def tb_X5_decide (Φ : Post) (S_X5_in S_X5_refuse S_X5_look S_X5_isBad : SpecT) : List (Nat × Tr) := [
  (0, tq_ald 0 1),
  (1, tq_push 0 2),
  (2, tq_pf 5 0 5),
  (5, tq_ild 1 6),
  (6, tq_push 0 7),
  (7, tq_ald 0 8),
  (8, tq_gf 5 12 11),
  (11, tq_push 1 12),
  (12, tq_isub 13),
  (13, tq_cs 3 S_X5_in 16),
  (16, tq_if_ne 25 19),
  (19, tq_ald 0 20),
  (20, tq_push 1 21),
  (21, tq_cv 5 2 S_X5_refuse 24),
  (24, tq_iret Φ),
  (25, tq_ald 0 26),
  (26, tq_ild 1 27),
  (27, tq_cv 5 2 S_X5_look 30),
  (30, tq_push 0 31),
  (31, tq_ist 2 32),
  (32, tq_ild 2 33),
  (33, tq_push 4096 36),
  (36, tq_ic_ge 54 39),
  (39, tq_ald 0 40),
  (40, tq_ild 1 41),
  (41, tq_ild 2 42),
  (42, tq_cv 5 3 S_X5_isBad 45),
  (45, tq_if_ne 54 48),
  (48, tq_iinc 2 1 51),
  (51, tq_goto 32),
  (54, tq_ild 2 55),
  (55, tq_push 4096 58),
  (58, tq_ic_ne 65 61),
  (61, tq_push (-1) 62),
  (62, tq_goto 66),
  (65, tq_ild 2 66),
  (66, tq_iret Φ)]
set_option maxRecDepth 100000 in
theorem tk_X5_decide {p : Program} {l : Launch} {e : Env} {s s0 : State} {a0 : Array Value} {m : MethodId} {args : Array Value} {below : List Frame} {meth : Method} {c : Code} {D : va_G} {ad : Nat → Nat → Nat} {cA : Nat → ClassId} {A : Nat → Prop} {lv : Nat} {Φ : Post} (X : Cx p l s0 a0 s m args meth c cX5_decide 3 RX5 D ad cA A) (hr : meth.sig.returnType = (some .int)) {S_X5_in : SpecT} {v_X5_in : Nat} (h_X5_in : Con l yX5_in cX5_in 3 (some .boolean) 3 v_X5_in S_X5_in) (g_X5_in : v_X5_in + 1 ≤ lv) {S_X5_refuse : SpecT} {v_X5_refuse : Nat} (h_X5_refuse : Con l yX5_refuse cX5_refuse 2 (some .int) 2 v_X5_refuse S_X5_refuse) (g_X5_refuse : v_X5_refuse + 1 ≤ lv) {S_X5_look : SpecT} {v_X5_look : Nat} (h_X5_look : Con l yX5_look cX5_look 5 none 2 v_X5_look S_X5_look) (g_X5_look : v_X5_look + 1 ≤ lv) {S_X5_isBad : SpecT} {v_X5_isBad : Nat} (h_X5_isBad : Con l yX5_isBad cX5_isBad 3 (some .boolean) 3 v_X5_isBad S_X5_isBad) (g_X5_isBad : v_X5_isBad + 1 ≤ lv) : tabOK (K p l e (rmL lv) s m args below meth c D ad cA A 3 0 0 (MQ below (QcW Φ D ad cA A) args s 0 0 A)) (tb_X5_decide Φ S_X5_in S_X5_refuse S_X5_look S_X5_isBad) :=
  ⟨sq_aload_n X rfl dX5_decide_0,
  sq_iconst X (by decide) dX5_decide_1,
  sq_pf X (ci := 5) rfl inX5 gdX5 tyX5 tyX5_ok nmX5 (by decide) fl_X5_78 rfl rfl dX5_decide_2,
  sq_iload_n X rfl dX5_decide_5,
  sq_iconst X (by decide) dX5_decide_6,
  sq_aload_n X rfl dX5_decide_7,
  sq_gf X (ci := 5) rfl inX5 gdX5 (by decide) fl_X5_155 dX5_decide_8,
  sq_iconst X (by decide) dX5_decide_11,
  sq_isub X dX5_decide_12,
  sq_cs X h_X5_in cw_X5_85 ⟨by decide, by decide, by decide +kernel⟩ (by decide +kernel) (lev_ok g_X5_in (by decide)) ⟨Nat.zero_le _, Nat.zero_le _⟩ dX5_decide_13,
  sq_if_ne X (by decide) dX5_decide_16,
  sq_aload_n X rfl dX5_decide_19,
  sq_iconst X (by decide) dX5_decide_20,
  sq_cv X h_X5_refuse ⟨_, _, rfl⟩ cw_X5_106 ⟨rfl, by decide, by decide, by decide +kernel⟩ (by decide +kernel) (lev_ok g_X5_refuse (by decide)) ⟨Nat.zero_le _, Nat.zero_le _⟩ dX5_decide_21,
  sq_iret X hr dX5_decide_24,
  sq_aload_n X rfl dX5_decide_25,
  sq_iload_n X rfl dX5_decide_26,
  sq_cv X h_X5_look ⟨_, _, rfl⟩ cw_X5_167 ⟨rfl, by decide, by decide, by decide +kernel⟩ (by decide +kernel) (lev_ok g_X5_look (by decide)) ⟨Nat.zero_le _, Nat.zero_le _⟩ dX5_decide_27,
  sq_iconst X (by decide) dX5_decide_30,
  sq_istore_n X rfl (by decide) dX5_decide_31,
  sq_iload_n X rfl dX5_decide_32,
  sq_sipush X (by decide) dX5_decide_33,
  sq_ic_ge X (by decide) dX5_decide_36,
  sq_aload_n X rfl dX5_decide_39,
  sq_iload_n X rfl dX5_decide_40,
  sq_iload_n X rfl dX5_decide_41,
  sq_cv X h_X5_isBad ⟨_, _, rfl⟩ cw_X5_171 ⟨rfl, by decide, by decide, by decide +kernel⟩ (by decide +kernel) (lev_ok g_X5_isBad (by decide)) ⟨Nat.zero_le _, Nat.zero_le _⟩ dX5_decide_42,
  sq_if_ne X (by decide) dX5_decide_45,
  sq_iinc X (by decide) (by decide) dX5_decide_48,
  sq_goto X (by decide) dX5_decide_51,
  sq_iload_n X rfl dX5_decide_54,
  sq_sipush X (by decide) dX5_decide_55,
  sq_ic_ne X (by decide) dX5_decide_58,
  sq_iconst X (by decide) dX5_decide_61,
  sq_goto X (by decide) dX5_decide_62,
  sq_iload_n X rfl dX5_decide_65,
  sq_iret X hr dX5_decide_66, trivial⟩
def tb_X5_broken (Φ : Post) (S_X5_refuse S_X5_in S_X5_countBad : SpecT) : List (Nat × Tr) := [
  (0, tq_ald 0 1),
  (1, tq_push 0 2),
  (2, tq_pf 5 0 5),
  (5, tq_ild 2 6),
  (6, tq_if_lt 21 9),
  (9, tq_ild 2 10),
  (10, tq_ild 3 11),
  (11, tq_ic_gt 21 14),
  (14, tq_ild 3 15),
  (15, tq_push 4095 18),
  (18, tq_ic_le 27 21),
  (21, tq_ald 0 22),
  (22, tq_push 1 23),
  (23, tq_cv 5 2 S_X5_refuse 26),
  (26, tq_iret Φ),
  (27, tq_ild 1 28),
  (28, tq_push 0 29),
  (29, tq_ald 0 30),
  (30, tq_gf 5 12 33),
  (33, tq_push 1 34),
  (34, tq_isub 35),
  (35, tq_cs 3 S_X5_in 38),
  (38, tq_if_ne 47 41),
  (41, tq_ald 0 42),
  (42, tq_push 2 43),
  (43, tq_cv 5 2 S_X5_refuse 46),
  (46, tq_iret Φ),
  (47, tq_ald 0 48),
  (48, tq_ild 1 49),
  (49, tq_ild 2 50),
  (50, tq_ild 3 51),
  (51, tq_cv 5 4 S_X5_countBad 54),
  (54, tq_iret Φ)]
set_option maxRecDepth 100000 in
theorem tk_X5_broken {p : Program} {l : Launch} {e : Env} {s s0 : State} {a0 : Array Value} {m : MethodId} {args : Array Value} {below : List Frame} {meth : Method} {c : Code} {D : va_G} {ad : Nat → Nat → Nat} {cA : Nat → ClassId} {A : Nat → Prop} {lv : Nat} {Φ : Post} (X : Cx p l s0 a0 s m args meth c cX5_broken 4 RX5 D ad cA A) (hr : meth.sig.returnType = (some .int)) {S_X5_refuse : SpecT} {v_X5_refuse : Nat} (h_X5_refuse : Con l yX5_refuse cX5_refuse 2 (some .int) 2 v_X5_refuse S_X5_refuse) (g_X5_refuse : v_X5_refuse + 1 ≤ lv) {S_X5_in : SpecT} {v_X5_in : Nat} (h_X5_in : Con l yX5_in cX5_in 3 (some .boolean) 3 v_X5_in S_X5_in) (g_X5_in : v_X5_in + 1 ≤ lv) {S_X5_countBad : SpecT} {v_X5_countBad : Nat} (h_X5_countBad : Con l yX5_countBad cX5_countBad 6 (some .int) 4 v_X5_countBad S_X5_countBad) (g_X5_countBad : v_X5_countBad + 1 ≤ lv) : tabOK (K p l e (rmL lv) s m args below meth c D ad cA A 4 0 0 (MQ below (QcW Φ D ad cA A) args s 0 0 A)) (tb_X5_broken Φ S_X5_refuse S_X5_in S_X5_countBad) :=
  ⟨sq_aload_n X rfl dX5_broken_0,
  sq_iconst X (by decide) dX5_broken_1,
  sq_pf X (ci := 5) rfl inX5 gdX5 tyX5 tyX5_ok nmX5 (by decide) fl_X5_78 rfl rfl dX5_broken_2,
  sq_iload_n X rfl dX5_broken_5,
  sq_if_lt X (by decide) dX5_broken_6,
  sq_iload_n X rfl dX5_broken_9,
  sq_iload_n X rfl dX5_broken_10,
  sq_ic_gt X (by decide) dX5_broken_11,
  sq_iload_n X rfl dX5_broken_14,
  sq_sipush X (by decide) dX5_broken_15,
  sq_ic_le X (by decide) dX5_broken_18,
  sq_aload_n X rfl dX5_broken_21,
  sq_iconst X (by decide) dX5_broken_22,
  sq_cv X h_X5_refuse ⟨_, _, rfl⟩ cw_X5_106 ⟨rfl, by decide, by decide, by decide +kernel⟩ (by decide +kernel) (lev_ok g_X5_refuse (by decide)) ⟨Nat.zero_le _, Nat.zero_le _⟩ dX5_broken_23,
  sq_iret X hr dX5_broken_26,
  sq_iload_n X rfl dX5_broken_27,
  sq_iconst X (by decide) dX5_broken_28,
  sq_aload_n X rfl dX5_broken_29,
  sq_gf X (ci := 5) rfl inX5 gdX5 (by decide) fl_X5_155 dX5_broken_30,
  sq_iconst X (by decide) dX5_broken_33,
  sq_isub X dX5_broken_34,
  sq_cs X h_X5_in cw_X5_85 ⟨by decide, by decide, by decide +kernel⟩ (by decide +kernel) (lev_ok g_X5_in (by decide)) ⟨Nat.zero_le _, Nat.zero_le _⟩ dX5_broken_35,
  sq_if_ne X (by decide) dX5_broken_38,
  sq_aload_n X rfl dX5_broken_41,
  sq_iconst X (by decide) dX5_broken_42,
  sq_cv X h_X5_refuse ⟨_, _, rfl⟩ cw_X5_106 ⟨rfl, by decide, by decide, by decide +kernel⟩ (by decide +kernel) (lev_ok g_X5_refuse (by decide)) ⟨Nat.zero_le _, Nat.zero_le _⟩ dX5_broken_43,
  sq_iret X hr dX5_broken_46,
  sq_aload_n X rfl dX5_broken_47,
  sq_iload_n X rfl dX5_broken_48,
  sq_iload_n X rfl dX5_broken_49,
  sq_iload_n X rfl dX5_broken_50,
  sq_cv X h_X5_countBad ⟨_, _, rfl⟩ cw_X5_174 ⟨rfl, by decide, by decide, by decide +kernel⟩ (by decide +kernel) (lev_ok g_X5_countBad (by decide)) ⟨Nat.zero_le _, Nat.zero_le _⟩ dX5_broken_51,
  sq_iret X hr dX5_broken_54, trivial⟩
def tb_X5_part (Φ : Post) (S_X5_refuse S_X5_countBad : SpecT) : List (Nat × Tr) := [
  (0, tq_ald 0 1),
  (1, tq_push 0 2),
  (2, tq_pf 5 0 5),
  (5, tq_ald 0 6),
  (6, tq_gf 5 12 9),
  (9, tq_if_ne 19 12),
  (12, tq_ald 0 13),
  (13, tq_push 1 14),
  (14, tq_cv 5 2 S_X5_refuse 17),
  (17, tq_i2d 18),
  (18, tq_dret Φ),
  (19, tq_push 0 20),
  (20, tq_ist 1 21),
  (21, tq_push 0 22),
  (22, tq_ist 2 23),
  (23, tq_ild 2 24),
  (24, tq_ald 0 25),
  (25, tq_gf 5 12 28),
  (28, tq_ic_ge 53 31),
  (31, tq_ild 1 32),
  (32, tq_push 4096 35),
  (35, tq_ald 0 36),
  (36, tq_ild 2 37),
  (37, tq_push 0 38),
  (38, tq_push 4095 41),
  (41, tq_cv 5 4 S_X5_countBad 44),
  (44, tq_isub 45),
  (45, tq_iadd 46),
  (46, tq_ist 1 47),
  (47, tq_iinc 2 1 50),
  (50, tq_goto 23),
  (53, tq_ild 1 54),
  (54, tq_i2d 55),
  (55, tq_push 4096 58),
  (58, tq_ald 0 59),
  (59, tq_gf 5 12 62),
  (62, tq_imul 63),
  (63, tq_i2d 64),
  (64, tq_ddiv 65),
  (65, tq_dret Φ)]
set_option maxRecDepth 100000 in
theorem tk_X5_part {p : Program} {l : Launch} {e : Env} {s s0 : State} {a0 : Array Value} {m : MethodId} {args : Array Value} {below : List Frame} {meth : Method} {c : Code} {D : va_G} {ad : Nat → Nat → Nat} {cA : Nat → ClassId} {A : Nat → Prop} {lv : Nat} {Φ : Post} (X : Cx p l s0 a0 s m args meth c cX5_part 3 RX5 D ad cA A) (hr : meth.sig.returnType = (some .double)) {S_X5_refuse : SpecT} {v_X5_refuse : Nat} (h_X5_refuse : Con l yX5_refuse cX5_refuse 2 (some .int) 2 v_X5_refuse S_X5_refuse) (g_X5_refuse : v_X5_refuse + 1 ≤ lv) {S_X5_countBad : SpecT} {v_X5_countBad : Nat} (h_X5_countBad : Con l yX5_countBad cX5_countBad 6 (some .int) 4 v_X5_countBad S_X5_countBad) (g_X5_countBad : v_X5_countBad + 1 ≤ lv) : tabOK (K p l e (rmL lv) s m args below meth c D ad cA A 3 0 0 (MQ below (QcW Φ D ad cA A) args s 0 0 A)) (tb_X5_part Φ S_X5_refuse S_X5_countBad) :=
  ⟨sq_aload_n X rfl dX5_part_0,
  sq_iconst X (by decide) dX5_part_1,
  sq_pf X (ci := 5) rfl inX5 gdX5 tyX5 tyX5_ok nmX5 (by decide) fl_X5_78 rfl rfl dX5_part_2,
  sq_aload_n X rfl dX5_part_5,
  sq_gf X (ci := 5) rfl inX5 gdX5 (by decide) fl_X5_155 dX5_part_6,
  sq_if_ne X (by decide) dX5_part_9,
  sq_aload_n X rfl dX5_part_12,
  sq_iconst X (by decide) dX5_part_13,
  sq_cv X h_X5_refuse ⟨_, _, rfl⟩ cw_X5_106 ⟨rfl, by decide, by decide, by decide +kernel⟩ (by decide +kernel) (lev_ok g_X5_refuse (by decide)) ⟨Nat.zero_le _, Nat.zero_le _⟩ dX5_part_14,
  sq_i2d X dX5_part_17,
  sq_dret X hr dX5_part_18,
  sq_iconst X (by decide) dX5_part_19,
  sq_istore_n X rfl (by decide) dX5_part_20,
  sq_iconst X (by decide) dX5_part_21,
  sq_istore_n X rfl (by decide) dX5_part_22,
  sq_iload_n X rfl dX5_part_23,
  sq_aload_n X rfl dX5_part_24,
  sq_gf X (ci := 5) rfl inX5 gdX5 (by decide) fl_X5_155 dX5_part_25,
  sq_ic_ge X (by decide) dX5_part_28,
  sq_iload_n X rfl dX5_part_31,
  sq_sipush X (by decide) dX5_part_32,
  sq_aload_n X rfl dX5_part_35,
  sq_iload_n X rfl dX5_part_36,
  sq_iconst X (by decide) dX5_part_37,
  sq_sipush X (by decide) dX5_part_38,
  sq_cv X h_X5_countBad ⟨_, _, rfl⟩ cw_X5_174 ⟨rfl, by decide, by decide, by decide +kernel⟩ (by decide +kernel) (lev_ok g_X5_countBad (by decide)) ⟨Nat.zero_le _, Nat.zero_le _⟩ dX5_part_41,
  sq_isub X dX5_part_44,
  sq_iadd X dX5_part_45,
  sq_istore_n X rfl (by decide) dX5_part_46,
  sq_iinc X (by decide) (by decide) dX5_part_47,
  sq_goto X (by decide) dX5_part_50,
  sq_iload_n X rfl dX5_part_53,
  sq_i2d X dX5_part_54,
  sq_sipush X (by decide) dX5_part_55,
  sq_aload_n X rfl dX5_part_58,
  sq_gf X (ci := 5) rfl inX5 gdX5 (by decide) fl_X5_155 dX5_part_59,
  sq_imul X dX5_part_62,
  sq_i2d X dX5_part_63,
  sq_ddiv X dX5_part_64,
  sq_dret X hr dX5_part_65, trivial⟩
def tb_X5_count (Φ : Post) (S_X5_in S_X5_refuse S_X5_countBad : SpecT) : List (Nat × Tr) := [
  (0, tq_ald 0 1),
  (1, tq_push 0 2),
  (2, tq_pf 5 0 5),
  (5, tq_ild 1 6),
  (6, tq_push 0 7),
  (7, tq_push 2 8),
  (8, tq_cs 3 S_X5_in 11),
  (11, tq_if_ne 20 14),
  (14, tq_ald 0 15),
  (15, tq_push 1 16),
  (16, tq_cv 5 2 S_X5_refuse 19),
  (19, tq_iret Φ),
  (20, tq_push 0 21),
  (21, tq_ist 2 22),
  (22, tq_push 0 23),
  (23, tq_ist 3 24),
  (24, tq_ild 3 25),
  (25, tq_ald 0 26),
  (26, tq_gf 5 12 29),
  (29, tq_ic_ge 63 32),
  (32, tq_ild 1 33),
  (33, tq_push 2 34),
  (34, tq_ic_ne 63 37),
  (37, tq_ald 0 38),
  (38, tq_ild 3 39),
  (39, tq_push 0 40),
  (40, tq_push 4095 43),
  (43, tq_cv 5 4 S_X5_countBad 46),
  (46, tq_if_ne 55 49),
  (49, tq_ild 2 50),
  (50, tq_push 1 51),
  (51, tq_iadd 52),
  (52, tq_goto 56),
  (55, tq_ild 2 56),
  (56, tq_ist 2 57),
  (57, tq_iinc 3 1 60),
  (60, tq_goto 24),
  (63, tq_ild 1 64),
  (64, tq_if_ne 74 67),
  (67, tq_ald 0 68),
  (68, tq_gf 5 1 71),
  (71, tq_goto 87),
  (74, tq_ild 1 75),
  (75, tq_push 1 76),
  (76, tq_ic_ne 86 79),
  (79, tq_ald 0 80),
  (80, tq_gf 5 12 83),
  (83, tq_goto 87),
  (86, tq_ild 2 87),
  (87, tq_iret Φ)]
set_option maxRecDepth 100000 in
theorem tk_X5_count {p : Program} {l : Launch} {e : Env} {s s0 : State} {a0 : Array Value} {m : MethodId} {args : Array Value} {below : List Frame} {meth : Method} {c : Code} {D : va_G} {ad : Nat → Nat → Nat} {cA : Nat → ClassId} {A : Nat → Prop} {lv : Nat} {Φ : Post} (X : Cx p l s0 a0 s m args meth c cX5_count 4 RX5 D ad cA A) (hr : meth.sig.returnType = (some .int)) {S_X5_in : SpecT} {v_X5_in : Nat} (h_X5_in : Con l yX5_in cX5_in 3 (some .boolean) 3 v_X5_in S_X5_in) (g_X5_in : v_X5_in + 1 ≤ lv) {S_X5_refuse : SpecT} {v_X5_refuse : Nat} (h_X5_refuse : Con l yX5_refuse cX5_refuse 2 (some .int) 2 v_X5_refuse S_X5_refuse) (g_X5_refuse : v_X5_refuse + 1 ≤ lv) {S_X5_countBad : SpecT} {v_X5_countBad : Nat} (h_X5_countBad : Con l yX5_countBad cX5_countBad 6 (some .int) 4 v_X5_countBad S_X5_countBad) (g_X5_countBad : v_X5_countBad + 1 ≤ lv) : tabOK (K p l e (rmL lv) s m args below meth c D ad cA A 4 0 0 (MQ below (QcW Φ D ad cA A) args s 0 0 A)) (tb_X5_count Φ S_X5_in S_X5_refuse S_X5_countBad) :=
  ⟨sq_aload_n X rfl dX5_count_0,
  sq_iconst X (by decide) dX5_count_1,
  sq_pf X (ci := 5) rfl inX5 gdX5 tyX5 tyX5_ok nmX5 (by decide) fl_X5_78 rfl rfl dX5_count_2,
  sq_iload_n X rfl dX5_count_5,
  sq_iconst X (by decide) dX5_count_6,
  sq_iconst X (by decide) dX5_count_7,
  sq_cs X h_X5_in cw_X5_85 ⟨by decide, by decide, by decide +kernel⟩ (by decide +kernel) (lev_ok g_X5_in (by decide)) ⟨Nat.zero_le _, Nat.zero_le _⟩ dX5_count_8,
  sq_if_ne X (by decide) dX5_count_11,
  sq_aload_n X rfl dX5_count_14,
  sq_iconst X (by decide) dX5_count_15,
  sq_cv X h_X5_refuse ⟨_, _, rfl⟩ cw_X5_106 ⟨rfl, by decide, by decide, by decide +kernel⟩ (by decide +kernel) (lev_ok g_X5_refuse (by decide)) ⟨Nat.zero_le _, Nat.zero_le _⟩ dX5_count_16,
  sq_iret X hr dX5_count_19,
  sq_iconst X (by decide) dX5_count_20,
  sq_istore_n X rfl (by decide) dX5_count_21,
  sq_iconst X (by decide) dX5_count_22,
  sq_istore_n X rfl (by decide) dX5_count_23,
  sq_iload_n X rfl dX5_count_24,
  sq_aload_n X rfl dX5_count_25,
  sq_gf X (ci := 5) rfl inX5 gdX5 (by decide) fl_X5_155 dX5_count_26,
  sq_ic_ge X (by decide) dX5_count_29,
  sq_iload_n X rfl dX5_count_32,
  sq_iconst X (by decide) dX5_count_33,
  sq_ic_ne X (by decide) dX5_count_34,
  sq_aload_n X rfl dX5_count_37,
  sq_iload_n X rfl dX5_count_38,
  sq_iconst X (by decide) dX5_count_39,
  sq_sipush X (by decide) dX5_count_40,
  sq_cv X h_X5_countBad ⟨_, _, rfl⟩ cw_X5_174 ⟨rfl, by decide, by decide, by decide +kernel⟩ (by decide +kernel) (lev_ok g_X5_countBad (by decide)) ⟨Nat.zero_le _, Nat.zero_le _⟩ dX5_count_43,
  sq_if_ne X (by decide) dX5_count_46,
  sq_iload_n X rfl dX5_count_49,
  sq_iconst X (by decide) dX5_count_50,
  sq_iadd X dX5_count_51,
  sq_goto X (by decide) dX5_count_52,
  sq_iload_n X rfl dX5_count_55,
  sq_istore_n X rfl (by decide) dX5_count_56,
  sq_iinc X (by decide) (by decide) dX5_count_57,
  sq_goto X (by decide) dX5_count_60,
  sq_iload_n X rfl dX5_count_63,
  sq_if_ne X (by decide) dX5_count_64,
  sq_aload_n X rfl dX5_count_67,
  sq_gf X (ci := 5) rfl inX5 gdX5 (by decide) fl_X5_82 dX5_count_68,
  sq_goto X (by decide) dX5_count_71,
  sq_iload_n X rfl dX5_count_74,
  sq_iconst X (by decide) dX5_count_75,
  sq_ic_ne X (by decide) dX5_count_76,
  sq_aload_n X rfl dX5_count_79,
  sq_gf X (ci := 5) rfl inX5 gdX5 (by decide) fl_X5_155 dX5_count_80,
  sq_goto X (by decide) dX5_count_83,
  sq_iload_n X rfl dX5_count_86,
  sq_iret X hr dX5_count_87, trivial⟩
end
section
set_option maxRecDepth 100000 in
theorem fl_X4_10 : Cond.fieldLink RX4 10 (TX4 0).1 (TX4 0).2.1 (TX4 0).2.2.1 ∈ lw_tbl := List.mem_of_getElem? (i := 154) rfl
set_option maxRecDepth 100000 in
theorem cw_X4_32 : ∀ w ∈ wsV RX4 32 RX2 yX2_haveWordsFor [.code yX2_haveWordsFor cX2_haveWordsFor 5 (some .boolean)], w ∈ lw_tbl := memC5 (List.mem_of_getElem? (i := 173) rfl) (List.mem_of_getElem? (i := 174) rfl) (List.mem_of_getElem? (i := 175) rfl) (List.mem_of_getElem? (i := 31) rfl) (List.mem_of_getElem? (i := 176) rfl)
set_option maxRecDepth 100000 in
theorem th_X4_36_38 : Cond.classLink RX4 36 "java/lang/IllegalArgumentException" ∈ lw_tbl ∧ Cond.initialized "java/lang/IllegalArgumentException" ∈ lw_tbl := ⟨List.mem_of_getElem? (i := 194) rfl, List.mem_of_getElem? (i := 39) rfl⟩
set_option maxRecDepth 100000 in
theorem th_X4_36_38a : ∀ w ∈ vx_at0 RX4 38 "java/lang/IllegalArgumentException" ["java/lang/RuntimeException", "java/lang/Exception"], w ∈ lw_tbl := by decide +kernel
set_option maxRecDepth 100000 in
theorem th_X4_36_38g : (vx_at0 RX4 38 "java/lang/IllegalArgumentException" ["java/lang/RuntimeException", "java/lang/Exception"]).all gx = true := by decide +kernel
set_option maxRecDepth 100000 in
theorem th_X4_36_38o : (Cond.classLink RX4 36 "java/lang/IllegalArgumentException" :: Cond.initialized "java/lang/IllegalArgumentException" :: vx_at0 RX4 38 "java/lang/IllegalArgumentException" ["java/lang/RuntimeException", "java/lang/Exception"]).all vx_ot = true := by decide +kernel
set_option maxRecDepth 100000 in
theorem cw_X4_39 : ∀ w ∈ wsV RX4 39 RX2 yX2_heightOf [.code yX2_heightOf cX2_heightOf 6 (some .int)], w ∈ lw_tbl := memC5 (List.mem_of_getElem? (i := 256) rfl) (List.mem_of_getElem? (i := 257) rfl) (List.mem_of_getElem? (i := 258) rfl) (List.mem_of_getElem? (i := 31) rfl) (List.mem_of_getElem? (i := 259) rfl)
set_option maxRecDepth 100000 in
theorem fl_X4_43 : Cond.fieldLink RX4 43 (TX2 5).1 (TX2 5).2.1 (TX2 5).2.2.1 ∈ lw_tbl := List.mem_of_getElem? (i := 71) rfl
set_option maxRecDepth 100000 in
theorem th_X4_47_49 : Cond.classLink RX4 47 "java/lang/IllegalStateException" ∈ lw_tbl ∧ Cond.initialized "java/lang/IllegalStateException" ∈ lw_tbl := ⟨List.mem_of_getElem? (i := 267) rfl, List.mem_of_getElem? (i := 41) rfl⟩
set_option maxRecDepth 100000 in
theorem th_X4_47_49a : ∀ w ∈ vx_at0 RX4 49 "java/lang/IllegalStateException" ["java/lang/RuntimeException", "java/lang/Exception"], w ∈ lw_tbl := by decide +kernel
set_option maxRecDepth 100000 in
theorem th_X4_47_49g : (vx_at0 RX4 49 "java/lang/IllegalStateException" ["java/lang/RuntimeException", "java/lang/Exception"]).all gx = true := by decide +kernel
set_option maxRecDepth 100000 in
theorem th_X4_47_49o : (Cond.classLink RX4 47 "java/lang/IllegalStateException" :: Cond.initialized "java/lang/IllegalStateException" :: vx_at0 RX4 49 "java/lang/IllegalStateException" ["java/lang/RuntimeException", "java/lang/Exception"]).all vx_ot = true := by decide +kernel
set_option maxRecDepth 100000 in
theorem cw_X4_50 : ∀ w ∈ wsV RX4 50 RX2 yX2_add [.code yX2_add cX2_add 7 (some .int)], w ∈ lw_tbl := memC5 (List.mem_of_getElem? (i := 282) rfl) (List.mem_of_getElem? (i := 283) rfl) (List.mem_of_getElem? (i := 284) rfl) (List.mem_of_getElem? (i := 31) rfl) (List.mem_of_getElem? (i := 285) rfl)
set_option maxRecDepth 100000 in
theorem cw_X4_54 : ∀ w ∈ wsV RX4 54 RX2 yX2_has [.code yX2_has cX2_has 3 (some .boolean)], w ∈ lw_tbl := memC5 (List.mem_of_getElem? (i := 293) rfl) (List.mem_of_getElem? (i := 184) rfl) (List.mem_of_getElem? (i := 185) rfl) (List.mem_of_getElem? (i := 31) rfl) (List.mem_of_getElem? (i := 186) rfl)
set_option maxRecDepth 100000 in
theorem cw_X4_58 : ∀ w ∈ va_wsS RX4 58 yX4_isStore [.code yX4_isStore cX4_isStore 1 (some .boolean)], w ∈ lw_tbl := memC4 (List.mem_of_getElem? (i := 294) rfl) (List.mem_of_getElem? (i := 295) rfl) (List.mem_of_getElem? (i := 30) rfl) (List.mem_of_getElem? (i := 296) rfl)
set_option maxRecDepth 100000 in
theorem cw_X4_62 : ∀ w ∈ wsV RX4 62 RX2 yX2_numberIn [.code yX2_numberIn cX2_numberIn 5 (some .int)], w ∈ lw_tbl := memC5 (List.mem_of_getElem? (i := 297) rfl) (List.mem_of_getElem? (i := 298) rfl) (List.mem_of_getElem? (i := 299) rfl) (List.mem_of_getElem? (i := 31) rfl) (List.mem_of_getElem? (i := 300) rfl)
set_option maxRecDepth 100000 in
theorem cw_X4_66 : ∀ w ∈ wsV RX4 66 RX2 yX2_isTrueIn [.code yX2_isTrueIn cX2_isTrueIn 5 (some .boolean)], w ∈ lw_tbl := memC5 (List.mem_of_getElem? (i := 309) rfl) (List.mem_of_getElem? (i := 310) rfl) (List.mem_of_getElem? (i := 311) rfl) (List.mem_of_getElem? (i := 31) rfl) (List.mem_of_getElem? (i := 312) rfl)
set_option maxRecDepth 100000 in
theorem fl_X4_21 : Cond.fieldLink RX4 21 (TX4 1).1 (TX4 1).2.1 (TX4 1).2.2.1 ∈ lw_tbl := List.mem_of_getElem? (i := 155) rfl
set_option maxRecDepth 100000 in
theorem cw_X4_69 : ∀ w ∈ wsV RX4 69 RX3 yX3_storeBehind [.code yX3_storeBehind cX3_storeBehind 4 (some .int)], w ∈ lw_tbl := memC5 (List.mem_of_getElem? (i := 321) rfl) (List.mem_of_getElem? (i := 322) rfl) (List.mem_of_getElem? (i := 323) rfl) (List.mem_of_getElem? (i := 32) rfl) (List.mem_of_getElem? (i := 324) rfl)
set_option maxRecDepth 100000 in
theorem fl_X4_28 : Cond.fieldLink RX4 28 (TX4 2).1 (TX4 2).2.1 (TX4 2).2.2.1 ∈ lw_tbl := List.mem_of_getElem? (i := 156) rfl
set_option maxRecDepth 100000 in
theorem cw_X4_73 : ∀ w ∈ wsV RX4 73 RX0 yX0_howManyOf [.code yX0_howManyOf cX0_howManyOf 4 (some .int)], w ∈ lw_tbl := memC5 (List.mem_of_getElem? (i := 345) rfl) (List.mem_of_getElem? (i := 346) rfl) (List.mem_of_getElem? (i := 347) rfl) (List.mem_of_getElem? (i := 33) rfl) (List.mem_of_getElem? (i := 348) rfl)
set_option maxRecDepth 100000 in
theorem cw_X4_77 : ∀ w ∈ wsV RX4 77 RX0 yX0_replaceBy [.code yX0_replaceBy cX0_replaceBy 4 none], w ∈ lw_tbl := memC5 (List.mem_of_getElem? (i := 350) rfl) (List.mem_of_getElem? (i := 351) rfl) (List.mem_of_getElem? (i := 352) rfl) (List.mem_of_getElem? (i := 33) rfl) (List.mem_of_getElem? (i := 353) rfl)
set_option maxRecDepth 100000 in
theorem fl_X4_81 : Cond.fieldLink RX4 81 (TX0 3).1 (TX0 3).2.1 (TX0 3).2.2.1 ∈ lw_tbl := List.mem_of_getElem? (i := 144) rfl
set_option maxRecDepth 100000 in
theorem cw_X4_82 : ∀ w ∈ wsV RX4 82 RX0 yX0_has [.code yX0_has cX0_has 2 (some .boolean)], w ∈ lw_tbl := memC5 (List.mem_of_getElem? (i := 372) rfl) (List.mem_of_getElem? (i := 373) rfl) (List.mem_of_getElem? (i := 374) rfl) (List.mem_of_getElem? (i := 33) rfl) (List.mem_of_getElem? (i := 375) rfl)
set_option maxRecDepth 100000 in
theorem cw_X4_84 : ∀ w ∈ wsV RX4 84 RX0 yX0_isKeptIn [.code yX0_isKeptIn cX0_isKeptIn 4 (some .boolean)], w ∈ lw_tbl := memC5 (List.mem_of_getElem? (i := 376) rfl) (List.mem_of_getElem? (i := 377) rfl) (List.mem_of_getElem? (i := 378) rfl) (List.mem_of_getElem? (i := 33) rfl) (List.mem_of_getElem? (i := 379) rfl)
set_option maxRecDepth 100000 in
theorem cw_X4_87 : ∀ w ∈ wsV RX4 87 RX0 yX0_leastBroken [.code yX0_leastBroken cX0_leastBroken 3 (some .int)], w ∈ lw_tbl := memC5 (List.mem_of_getElem? (i := 398) rfl) (List.mem_of_getElem? (i := 399) rfl) (List.mem_of_getElem? (i := 400) rfl) (List.mem_of_getElem? (i := 33) rfl) (List.mem_of_getElem? (i := 401) rfl)
set_option maxRecDepth 100000 in
theorem cw_X4_90 : ∀ w ∈ wsV RX4 90 RX0 yX0_howManyBroken [.code yX0_howManyBroken cX0_howManyBroken 6 (some .int)], w ∈ lw_tbl := memC5 (List.mem_of_getElem? (i := 410) rfl) (List.mem_of_getElem? (i := 411) rfl) (List.mem_of_getElem? (i := 412) rfl) (List.mem_of_getElem? (i := 33) rfl) (List.mem_of_getElem? (i := 413) rfl)
set_option maxRecDepth 100000 in
theorem cw_X4_93 : ∀ w ∈ wsV RX4 93 RX0 yX0_howManyBrokenPairs [.code yX0_howManyBrokenPairs cX0_howManyBrokenPairs 3 (some .int)], w ∈ lw_tbl := memC5 (List.mem_of_getElem? (i := 421) rfl) (List.mem_of_getElem? (i := 422) rfl) (List.mem_of_getElem? (i := 423) rfl) (List.mem_of_getElem? (i := 33) rfl) (List.mem_of_getElem? (i := 424) rfl)
set_option maxRecDepth 100000 in
theorem cw_X4_97 : ∀ w ∈ wsV RX4 97 RX0 yX0_howManyValid [.code yX0_howManyValid cX0_howManyValid 3 (some .int)], w ∈ lw_tbl := memC5 (List.mem_of_getElem? (i := 433) rfl) (List.mem_of_getElem? (i := 434) rfl) (List.mem_of_getElem? (i := 435) rfl) (List.mem_of_getElem? (i := 33) rfl) (List.mem_of_getElem? (i := 436) rfl)
def tb_X4_make (Φ : Post) (Ψ : PostX) (S_X2_haveWordsFor S_X2_heightOf S_X2_add : SpecT) : List (Nat × Tr) := [
  (0, tq_ild 1 1),
  (1, tq_if_lt 25 4),
  (4, tq_ild 1 5),
  (5, tq_push 15 7),
  (7, tq_ic_gt 25 10),
  (10, tq_ald 0 11),
  (11, tq_gf 4 0 14),
  (14, tq_ild 1 15),
  (15, tq_ild 2 16),
  (16, tq_ild 3 17),
  (17, tq_ild 4 19),
  (19, tq_cv 2 5 S_X2_haveWordsFor 22),
  (22, tq_if_ne 33 25),
  (25, tq_thr Ψ "java/lang/IllegalArgumentException"),
  (33, tq_ald 0 34),
  (34, tq_gf 4 0 37),
  (37, tq_ild 1 38),
  (38, tq_ild 2 39),
  (39, tq_ild 3 40),
  (40, tq_ild 4 42),
  (42, tq_cv 2 5 S_X2_heightOf 45),
  (45, tq_ist 5 47),
  (47, tq_ald 0 48),
  (48, tq_gf 4 0 51),
  (51, tq_gf 2 5 54),
  (54, tq_push 60 56),
  (56, tq_ic_ge 66 59),
  (59, tq_ild 5 61),
  (61, tq_push 6 63),
  (63, tq_ic_le 74 66),
  (66, tq_thr Ψ "java/lang/IllegalStateException"),
  (74, tq_ald 0 75),
  (75, tq_gf 4 0 78),
  (78, tq_ild 1 79),
  (79, tq_ild 2 80),
  (80, tq_ild 3 81),
  (81, tq_ild 4 83),
  (83, tq_ild 5 85),
  (85, tq_cv 2 6 S_X2_add 88),
  (88, tq_iret Φ)]
set_option maxRecDepth 100000 in
theorem tk_X4_make {p : Program} {l : Launch} {e : Env} {s s0 : State} {a0 : Array Value} {m : MethodId} {args : Array Value} {below : List Frame} {meth : Method} {c : Code} {D : va_G} {ad : Nat → Nat → Nat} {cA : Nat → ClassId} {A : Nat → Prop} {lv : Nat} {Φ : Post} {Ψ : PostX} (X : Cx p l s0 a0 s m args meth c cX4_make 6 RX4 D ad cA A) (hr : meth.sig.returnType = (some .int)) (htab : ∀ x ∈ c.exceptionTable.toList, False) (g_six : 6 ≤ lv) {S_X2_haveWordsFor : SpecT} {v_X2_haveWordsFor : Nat} (h_X2_haveWordsFor : Con l yX2_haveWordsFor cX2_haveWordsFor 5 (some .boolean) 5 v_X2_haveWordsFor S_X2_haveWordsFor) (g_X2_haveWordsFor : v_X2_haveWordsFor + 1 ≤ lv) {S_X2_heightOf : SpecT} {v_X2_heightOf : Nat} (h_X2_heightOf : Con l yX2_heightOf cX2_heightOf 6 (some .int) 5 v_X2_heightOf S_X2_heightOf) (g_X2_heightOf : v_X2_heightOf + 1 ≤ lv) {S_X2_add : SpecT} {v_X2_add : Nat} (h_X2_add : Con l yX2_add cX2_add 7 (some .int) 6 v_X2_add S_X2_add) (g_X2_add : v_X2_add + 1 ≤ lv) : tabOK (K p l e (rmX lv) s m args below meth c D ad cA A 6 0 0 (vx_MQ below (QcW Φ D ad cA A) (XcW Ψ D ad cA A) args s 1 6 A)) (tb_X4_make Φ Ψ S_X2_haveWordsFor S_X2_heightOf S_X2_add) :=
  ⟨sq_iload_n X rfl dX4_make_0,
  sq_if_lt X (by decide) dX4_make_1,
  sq_iload_n X rfl dX4_make_4,
  sq_bipush X (by decide) dX4_make_5,
  sq_ic_gt X (by decide) dX4_make_7,
  sq_aload_n X rfl dX4_make_10,
  sq_gf X (ci := 4) rfl inX4 gdX4 (by decide) fl_X4_10 dX4_make_11,
  sq_iload_n X rfl dX4_make_14,
  sq_iload_n X rfl dX4_make_15,
  sq_iload_n X rfl dX4_make_16,
  sq_iload X dX4_make_17,
  sq_cv X h_X2_haveWordsFor ⟨_, _, rfl⟩ cw_X4_32 ⟨rfl, by decide, by decide, by decide +kernel⟩ (by decide +kernel) (lev_okX g_X2_haveWordsFor (by decide)) ⟨Nat.zero_le _, Nat.zero_le _⟩ dX4_make_19,
  sq_if_ne X (by decide) dX4_make_22,
  sx_thr X htab (by decide +kernel) (by decide +kernel) th_X4_36_38.1 th_X4_36_38.2 th_X4_36_38a th_X4_36_38g th_X4_36_38o ⟨by show 5 < lv; omega, by show 81 ≤ 60 * lv; omega⟩ ⟨Nat.le_refl _, Nat.le_refl _⟩ dX4_make_25 dX4_make_28 dX4_make_29 dX4_make_32,
  sq_aload_n X rfl dX4_make_33,
  sq_gf X (ci := 4) rfl inX4 gdX4 (by decide) fl_X4_10 dX4_make_34,
  sq_iload_n X rfl dX4_make_37,
  sq_iload_n X rfl dX4_make_38,
  sq_iload_n X rfl dX4_make_39,
  sq_iload X dX4_make_40,
  sq_cv X h_X2_heightOf ⟨_, _, rfl⟩ cw_X4_39 ⟨rfl, by decide, by decide, by decide +kernel⟩ (by decide +kernel) (lev_okX g_X2_heightOf (by decide)) ⟨Nat.zero_le _, Nat.zero_le _⟩ dX4_make_42,
  sq_istore X (by decide) dX4_make_45,
  sq_aload_n X rfl dX4_make_47,
  sq_gf X (ci := 4) rfl inX4 gdX4 (by decide) fl_X4_10 dX4_make_48,
  sq_gf X (ci := 2) rfl inX2 gdX2 (by decide) fl_X4_43 dX4_make_51,
  sq_bipush X (by decide) dX4_make_54,
  sq_ic_ge X (by decide) dX4_make_56,
  sq_iload X dX4_make_59,
  sq_bipush X (by decide) dX4_make_61,
  sq_ic_le X (by decide) dX4_make_63,
  sx_thr X htab (by decide +kernel) (by decide +kernel) th_X4_47_49.1 th_X4_47_49.2 th_X4_47_49a th_X4_47_49g th_X4_47_49o ⟨by show 5 < lv; omega, by show 81 ≤ 60 * lv; omega⟩ ⟨Nat.le_refl _, Nat.le_refl _⟩ dX4_make_66 dX4_make_69 dX4_make_70 dX4_make_73,
  sq_aload_n X rfl dX4_make_74,
  sq_gf X (ci := 4) rfl inX4 gdX4 (by decide) fl_X4_10 dX4_make_75,
  sq_iload_n X rfl dX4_make_78,
  sq_iload_n X rfl dX4_make_79,
  sq_iload_n X rfl dX4_make_80,
  sq_iload X dX4_make_81,
  sq_iload X dX4_make_83,
  sq_cv X h_X2_add ⟨_, _, rfl⟩ cw_X4_50 ⟨rfl, by decide, by decide, by decide +kernel⟩ (by decide +kernel) (lev_okX g_X2_add (by decide)) ⟨Nat.zero_le _, Nat.zero_le _⟩ dX4_make_85,
  sx_iret X hr dX4_make_88, trivial⟩
def tb_X4_value (Φ : Post) (Ψ : PostX) (S_X2_has S_X4_isStore S_X2_numberIn : SpecT) : List (Nat × Tr) := [
  (0, tq_ald 0 1),
  (1, tq_gf 4 0 4),
  (4, tq_ild 1 5),
  (5, tq_push 5 6),
  (6, tq_cv 2 3 S_X2_has 9),
  (9, tq_if_eq 19 12),
  (12, tq_ild 2 13),
  (13, tq_cs 1 S_X4_isStore 16),
  (16, tq_if_ne 27 19),
  (19, tq_thr Ψ "java/lang/IllegalArgumentException"),
  (27, tq_ald 0 28),
  (28, tq_gf 4 0 31),
  (31, tq_ild 1 32),
  (32, tq_ild 2 33),
  (33, tq_cv 2 3 S_X2_numberIn 36),
  (36, tq_iret Φ)]
set_option maxRecDepth 100000 in
theorem tk_X4_value {p : Program} {l : Launch} {e : Env} {s s0 : State} {a0 : Array Value} {m : MethodId} {args : Array Value} {below : List Frame} {meth : Method} {c : Code} {D : va_G} {ad : Nat → Nat → Nat} {cA : Nat → ClassId} {A : Nat → Prop} {lv : Nat} {Φ : Post} {Ψ : PostX} (X : Cx p l s0 a0 s m args meth c cX4_value 3 RX4 D ad cA A) (hr : meth.sig.returnType = (some .int)) (htab : ∀ x ∈ c.exceptionTable.toList, False) (g_six : 6 ≤ lv) {S_X2_has : SpecT} {v_X2_has : Nat} (h_X2_has : Con l yX2_has cX2_has 3 (some .boolean) 3 v_X2_has S_X2_has) (g_X2_has : v_X2_has + 1 ≤ lv) {S_X4_isStore : SpecT} {v_X4_isStore : Nat} (h_X4_isStore : Con l yX4_isStore cX4_isStore 1 (some .boolean) 1 v_X4_isStore S_X4_isStore) (g_X4_isStore : v_X4_isStore + 1 ≤ lv) {S_X2_numberIn : SpecT} {v_X2_numberIn : Nat} (h_X2_numberIn : Con l yX2_numberIn cX2_numberIn 5 (some .int) 3 v_X2_numberIn S_X2_numberIn) (g_X2_numberIn : v_X2_numberIn + 1 ≤ lv) : tabOK (K p l e (rmX lv) s m args below meth c D ad cA A 3 0 0 (vx_MQ below (QcW Φ D ad cA A) (XcW Ψ D ad cA A) args s 1 6 A)) (tb_X4_value Φ Ψ S_X2_has S_X4_isStore S_X2_numberIn) :=
  ⟨sq_aload_n X rfl dX4_value_0,
  sq_gf X (ci := 4) rfl inX4 gdX4 (by decide) fl_X4_10 dX4_value_1,
  sq_iload_n X rfl dX4_value_4,
  sq_iconst X (by decide) dX4_value_5,
  sq_cv X h_X2_has ⟨_, _, rfl⟩ cw_X4_54 ⟨rfl, by decide, by decide, by decide +kernel⟩ (by decide +kernel) (lev_okX g_X2_has (by decide)) ⟨Nat.zero_le _, Nat.zero_le _⟩ dX4_value_6,
  sq_if_eq X (by decide) dX4_value_9,
  sq_iload_n X rfl dX4_value_12,
  sq_cs X h_X4_isStore cw_X4_58 ⟨by decide, by decide, by decide +kernel⟩ (by decide +kernel) (lev_okX g_X4_isStore (by decide)) ⟨Nat.zero_le _, Nat.zero_le _⟩ dX4_value_13,
  sq_if_ne X (by decide) dX4_value_16,
  sx_thr X htab (by decide +kernel) (by decide +kernel) th_X4_36_38.1 th_X4_36_38.2 th_X4_36_38a th_X4_36_38g th_X4_36_38o ⟨by show 5 < lv; omega, by show 81 ≤ 60 * lv; omega⟩ ⟨Nat.le_refl _, Nat.le_refl _⟩ dX4_value_19 dX4_value_22 dX4_value_23 dX4_value_26,
  sq_aload_n X rfl dX4_value_27,
  sq_gf X (ci := 4) rfl inX4 gdX4 (by decide) fl_X4_10 dX4_value_28,
  sq_iload_n X rfl dX4_value_31,
  sq_iload_n X rfl dX4_value_32,
  sq_cv X h_X2_numberIn ⟨_, _, rfl⟩ cw_X4_62 ⟨rfl, by decide, by decide, by decide +kernel⟩ (by decide +kernel) (lev_okX g_X2_numberIn (by decide)) ⟨Nat.zero_le _, Nat.zero_le _⟩ dX4_value_33,
  sx_iret X hr dX4_value_36, trivial⟩
def tb_X4_holds (Φ : Post) (Ψ : PostX) (S_X2_has S_X4_isStore S_X2_isTrueIn : SpecT) : List (Nat × Tr) := [
  (0, tq_ald 0 1),
  (1, tq_gf 4 0 4),
  (4, tq_ild 1 5),
  (5, tq_push 6 7),
  (7, tq_cv 2 3 S_X2_has 10),
  (10, tq_if_eq 20 13),
  (13, tq_ild 2 14),
  (14, tq_cs 1 S_X4_isStore 17),
  (17, tq_if_ne 28 20),
  (20, tq_thr Ψ "java/lang/IllegalArgumentException"),
  (28, tq_ald 0 29),
  (29, tq_gf 4 0 32),
  (32, tq_ild 1 33),
  (33, tq_ild 2 34),
  (34, tq_cv 2 3 S_X2_isTrueIn 37),
  (37, tq_zret Φ)]
set_option maxRecDepth 100000 in
theorem tk_X4_holds {p : Program} {l : Launch} {e : Env} {s s0 : State} {a0 : Array Value} {m : MethodId} {args : Array Value} {below : List Frame} {meth : Method} {c : Code} {D : va_G} {ad : Nat → Nat → Nat} {cA : Nat → ClassId} {A : Nat → Prop} {lv : Nat} {Φ : Post} {Ψ : PostX} (X : Cx p l s0 a0 s m args meth c cX4_holds 3 RX4 D ad cA A) (hr : meth.sig.returnType = (some .boolean)) (htab : ∀ x ∈ c.exceptionTable.toList, False) (g_six : 6 ≤ lv) {S_X2_has : SpecT} {v_X2_has : Nat} (h_X2_has : Con l yX2_has cX2_has 3 (some .boolean) 3 v_X2_has S_X2_has) (g_X2_has : v_X2_has + 1 ≤ lv) {S_X4_isStore : SpecT} {v_X4_isStore : Nat} (h_X4_isStore : Con l yX4_isStore cX4_isStore 1 (some .boolean) 1 v_X4_isStore S_X4_isStore) (g_X4_isStore : v_X4_isStore + 1 ≤ lv) {S_X2_isTrueIn : SpecT} {v_X2_isTrueIn : Nat} (h_X2_isTrueIn : Con l yX2_isTrueIn cX2_isTrueIn 5 (some .boolean) 3 v_X2_isTrueIn S_X2_isTrueIn) (g_X2_isTrueIn : v_X2_isTrueIn + 1 ≤ lv) : tabOK (K p l e (rmX lv) s m args below meth c D ad cA A 3 0 0 (vx_MQ below (QcW Φ D ad cA A) (XcW Ψ D ad cA A) args s 1 6 A)) (tb_X4_holds Φ Ψ S_X2_has S_X4_isStore S_X2_isTrueIn) :=
  ⟨sq_aload_n X rfl dX4_holds_0,
  sq_gf X (ci := 4) rfl inX4 gdX4 (by decide) fl_X4_10 dX4_holds_1,
  sq_iload_n X rfl dX4_holds_4,
  sq_bipush X (by decide) dX4_holds_5,
  sq_cv X h_X2_has ⟨_, _, rfl⟩ cw_X4_54 ⟨rfl, by decide, by decide, by decide +kernel⟩ (by decide +kernel) (lev_okX g_X2_has (by decide)) ⟨Nat.zero_le _, Nat.zero_le _⟩ dX4_holds_7,
  sq_if_eq X (by decide) dX4_holds_10,
  sq_iload_n X rfl dX4_holds_13,
  sq_cs X h_X4_isStore cw_X4_58 ⟨by decide, by decide, by decide +kernel⟩ (by decide +kernel) (lev_okX g_X4_isStore (by decide)) ⟨Nat.zero_le _, Nat.zero_le _⟩ dX4_holds_14,
  sq_if_ne X (by decide) dX4_holds_17,
  sx_thr X htab (by decide +kernel) (by decide +kernel) th_X4_36_38.1 th_X4_36_38.2 th_X4_36_38a th_X4_36_38g th_X4_36_38o ⟨by show 5 < lv; omega, by show 81 ≤ 60 * lv; omega⟩ ⟨Nat.le_refl _, Nat.le_refl _⟩ dX4_holds_20 dX4_holds_23 dX4_holds_24 dX4_holds_27,
  sq_aload_n X rfl dX4_holds_28,
  sq_gf X (ci := 4) rfl inX4 gdX4 (by decide) fl_X4_10 dX4_holds_29,
  sq_iload_n X rfl dX4_holds_32,
  sq_iload_n X rfl dX4_holds_33,
  sq_cv X h_X2_isTrueIn ⟨_, _, rfl⟩ cw_X4_66 ⟨rfl, by decide, by decide, by decide +kernel⟩ (by decide +kernel) (lev_okX g_X2_isTrueIn (by decide)) ⟨Nat.zero_le _, Nat.zero_le _⟩ dX4_holds_34,
  sx_zret X hr dX4_holds_37, trivial⟩
def tb_X4_run (Φ : Post) (Ψ : PostX) (S_X2_has S_X4_isStore S_X3_storeBehind : SpecT) : List (Nat × Tr) := [
  (0, tq_ald 0 1),
  (1, tq_gf 4 0 4),
  (4, tq_ild 1 5),
  (5, tq_push 7 7),
  (7, tq_cv 2 3 S_X2_has 10),
  (10, tq_if_eq 32 13),
  (13, tq_ild 2 14),
  (14, tq_cs 1 S_X4_isStore 17),
  (17, tq_if_eq 32 20),
  (20, tq_ild 3 21),
  (21, tq_push 1 22),
  (22, tq_ic_lt 32 25),
  (25, tq_ild 3 26),
  (26, tq_push 500 29),
  (29, tq_ic_le 40 32),
  (32, tq_thr Ψ "java/lang/IllegalArgumentException"),
  (40, tq_ald 0 41),
  (41, tq_gf 4 1 44),
  (44, tq_ild 1 45),
  (45, tq_ild 2 46),
  (46, tq_ild 3 47),
  (47, tq_cv 3 4 S_X3_storeBehind 50),
  (50, tq_ist 4 52),
  (52, tq_ild 4 54),
  (54, tq_push (-1) 55),
  (55, tq_ic_ne 66 58),
  (58, tq_thr Ψ "java/lang/IllegalStateException"),
  (66, tq_ild 4 68),
  (68, tq_iret Φ)]
set_option maxRecDepth 100000 in
theorem tk_X4_run {p : Program} {l : Launch} {e : Env} {s s0 : State} {a0 : Array Value} {m : MethodId} {args : Array Value} {below : List Frame} {meth : Method} {c : Code} {D : va_G} {ad : Nat → Nat → Nat} {cA : Nat → ClassId} {A : Nat → Prop} {lv : Nat} {Φ : Post} {Ψ : PostX} (X : Cx p l s0 a0 s m args meth c cX4_run 5 RX4 D ad cA A) (hr : meth.sig.returnType = (some .int)) (htab : ∀ x ∈ c.exceptionTable.toList, False) (g_six : 6 ≤ lv) {S_X2_has : SpecT} {v_X2_has : Nat} (h_X2_has : Con l yX2_has cX2_has 3 (some .boolean) 3 v_X2_has S_X2_has) (g_X2_has : v_X2_has + 1 ≤ lv) {S_X4_isStore : SpecT} {v_X4_isStore : Nat} (h_X4_isStore : Con l yX4_isStore cX4_isStore 1 (some .boolean) 1 v_X4_isStore S_X4_isStore) (g_X4_isStore : v_X4_isStore + 1 ≤ lv) {S_X3_storeBehind : SpecT} {v_X3_storeBehind : Nat} (h_X3_storeBehind : Con l yX3_storeBehind cX3_storeBehind 4 (some .int) 4 v_X3_storeBehind S_X3_storeBehind) (g_X3_storeBehind : v_X3_storeBehind + 1 ≤ lv) : tabOK (K p l e (rmX lv) s m args below meth c D ad cA A 5 0 0 (vx_MQ below (QcW Φ D ad cA A) (XcW Ψ D ad cA A) args s 1 6 A)) (tb_X4_run Φ Ψ S_X2_has S_X4_isStore S_X3_storeBehind) :=
  ⟨sq_aload_n X rfl dX4_run_0,
  sq_gf X (ci := 4) rfl inX4 gdX4 (by decide) fl_X4_10 dX4_run_1,
  sq_iload_n X rfl dX4_run_4,
  sq_bipush X (by decide) dX4_run_5,
  sq_cv X h_X2_has ⟨_, _, rfl⟩ cw_X4_54 ⟨rfl, by decide, by decide, by decide +kernel⟩ (by decide +kernel) (lev_okX g_X2_has (by decide)) ⟨Nat.zero_le _, Nat.zero_le _⟩ dX4_run_7,
  sq_if_eq X (by decide) dX4_run_10,
  sq_iload_n X rfl dX4_run_13,
  sq_cs X h_X4_isStore cw_X4_58 ⟨by decide, by decide, by decide +kernel⟩ (by decide +kernel) (lev_okX g_X4_isStore (by decide)) ⟨Nat.zero_le _, Nat.zero_le _⟩ dX4_run_14,
  sq_if_eq X (by decide) dX4_run_17,
  sq_iload_n X rfl dX4_run_20,
  sq_iconst X (by decide) dX4_run_21,
  sq_ic_lt X (by decide) dX4_run_22,
  sq_iload_n X rfl dX4_run_25,
  sq_sipush X (by decide) dX4_run_26,
  sq_ic_le X (by decide) dX4_run_29,
  sx_thr X htab (by decide +kernel) (by decide +kernel) th_X4_36_38.1 th_X4_36_38.2 th_X4_36_38a th_X4_36_38g th_X4_36_38o ⟨by show 5 < lv; omega, by show 81 ≤ 60 * lv; omega⟩ ⟨Nat.le_refl _, Nat.le_refl _⟩ dX4_run_32 dX4_run_35 dX4_run_36 dX4_run_39,
  sq_aload_n X rfl dX4_run_40,
  sq_gf X (ci := 4) rfl inX4 gdX4 (by decide) fl_X4_21 dX4_run_41,
  sq_iload_n X rfl dX4_run_44,
  sq_iload_n X rfl dX4_run_45,
  sq_iload_n X rfl dX4_run_46,
  sq_cv X h_X3_storeBehind ⟨_, _, rfl⟩ cw_X4_69 ⟨rfl, by decide, by decide, by decide +kernel⟩ (by decide +kernel) (lev_okX g_X3_storeBehind (by decide)) ⟨Nat.zero_le _, Nat.zero_le _⟩ dX4_run_47,
  sq_istore X (by decide) dX4_run_50,
  sq_iload X dX4_run_52,
  sq_iconst X (by decide) dX4_run_54,
  sq_ic_ne X (by decide) dX4_run_55,
  sx_thr X htab (by decide +kernel) (by decide +kernel) th_X4_47_49.1 th_X4_47_49.2 th_X4_47_49a th_X4_47_49g th_X4_47_49o ⟨by show 5 < lv; omega, by show 81 ≤ 60 * lv; omega⟩ ⟨Nat.le_refl _, Nat.le_refl _⟩ dX4_run_58 dX4_run_61 dX4_run_62 dX4_run_65,
  sq_iload X dX4_run_66,
  sx_iret X hr dX4_run_68, trivial⟩
def tb_X4_promise (Φ : Post) (Ψ : PostX) (S_X2_has S_X0_howManyOf S_X0_replaceBy : SpecT) : List (Nat × Tr) := [
  (0, tq_ald 0 1),
  (1, tq_gf 4 0 4),
  (4, tq_ild 1 5),
  (5, tq_push 6 7),
  (7, tq_cv 2 3 S_X2_has 10),
  (10, tq_if_eq 39 13),
  (13, tq_ald 0 14),
  (14, tq_gf 4 0 17),
  (17, tq_ild 2 18),
  (18, tq_push 7 20),
  (20, tq_cv 2 3 S_X2_has 23),
  (23, tq_if_eq 39 26),
  (26, tq_ald 0 27),
  (27, tq_gf 4 0 30),
  (30, tq_ild 3 31),
  (31, tq_push 6 33),
  (33, tq_cv 2 3 S_X2_has 36),
  (36, tq_if_ne 47 39),
  (39, tq_thr Ψ "java/lang/IllegalArgumentException"),
  (47, tq_push 1 48),
  (48, tq_ald 0 49),
  (49, tq_gf 4 2 52),
  (52, tq_ild 2 53),
  (53, tq_cv 0 2 S_X0_howManyOf 56),
  (56, tq_iadd 57),
  (57, tq_push 16 59),
  (59, tq_ic_le 70 62),
  (62, tq_thr Ψ "java/lang/IllegalStateException"),
  (70, tq_ald 0 71),
  (71, tq_gf 4 2 74),
  (74, tq_ild 1 75),
  (75, tq_ild 2 76),
  (76, tq_ild 3 77),
  (77, tq_cv 0 4 S_X0_replaceBy 80),
  (80, tq_ald 0 81),
  (81, tq_gf 4 2 84),
  (84, tq_gf 0 3 87),
  (87, tq_iret Φ)]
set_option maxRecDepth 100000 in
theorem tk_X4_promise {p : Program} {l : Launch} {e : Env} {s s0 : State} {a0 : Array Value} {m : MethodId} {args : Array Value} {below : List Frame} {meth : Method} {c : Code} {D : va_G} {ad : Nat → Nat → Nat} {cA : Nat → ClassId} {A : Nat → Prop} {lv : Nat} {Φ : Post} {Ψ : PostX} (X : Cx p l s0 a0 s m args meth c cX4_promise 4 RX4 D ad cA A) (hr : meth.sig.returnType = (some .int)) (htab : ∀ x ∈ c.exceptionTable.toList, False) (g_six : 6 ≤ lv) {S_X2_has : SpecT} {v_X2_has : Nat} (h_X2_has : Con l yX2_has cX2_has 3 (some .boolean) 3 v_X2_has S_X2_has) (g_X2_has : v_X2_has + 1 ≤ lv) {S_X0_howManyOf : SpecT} {v_X0_howManyOf : Nat} (h_X0_howManyOf : Con l yX0_howManyOf cX0_howManyOf 4 (some .int) 2 v_X0_howManyOf S_X0_howManyOf) (g_X0_howManyOf : v_X0_howManyOf + 1 ≤ lv) {S_X0_replaceBy : SpecT} {v_X0_replaceBy : Nat} (h_X0_replaceBy : Con l yX0_replaceBy cX0_replaceBy 4 none 4 v_X0_replaceBy S_X0_replaceBy) (g_X0_replaceBy : v_X0_replaceBy + 1 ≤ lv) : tabOK (K p l e (rmX lv) s m args below meth c D ad cA A 4 0 0 (vx_MQ below (QcW Φ D ad cA A) (XcW Ψ D ad cA A) args s 1 6 A)) (tb_X4_promise Φ Ψ S_X2_has S_X0_howManyOf S_X0_replaceBy) :=
  ⟨sq_aload_n X rfl dX4_promise_0,
  sq_gf X (ci := 4) rfl inX4 gdX4 (by decide) fl_X4_10 dX4_promise_1,
  sq_iload_n X rfl dX4_promise_4,
  sq_bipush X (by decide) dX4_promise_5,
  sq_cv X h_X2_has ⟨_, _, rfl⟩ cw_X4_54 ⟨rfl, by decide, by decide, by decide +kernel⟩ (by decide +kernel) (lev_okX g_X2_has (by decide)) ⟨Nat.zero_le _, Nat.zero_le _⟩ dX4_promise_7,
  sq_if_eq X (by decide) dX4_promise_10,
  sq_aload_n X rfl dX4_promise_13,
  sq_gf X (ci := 4) rfl inX4 gdX4 (by decide) fl_X4_10 dX4_promise_14,
  sq_iload_n X rfl dX4_promise_17,
  sq_bipush X (by decide) dX4_promise_18,
  sq_cv X h_X2_has ⟨_, _, rfl⟩ cw_X4_54 ⟨rfl, by decide, by decide, by decide +kernel⟩ (by decide +kernel) (lev_okX g_X2_has (by decide)) ⟨Nat.zero_le _, Nat.zero_le _⟩ dX4_promise_20,
  sq_if_eq X (by decide) dX4_promise_23,
  sq_aload_n X rfl dX4_promise_26,
  sq_gf X (ci := 4) rfl inX4 gdX4 (by decide) fl_X4_10 dX4_promise_27,
  sq_iload_n X rfl dX4_promise_30,
  sq_bipush X (by decide) dX4_promise_31,
  sq_cv X h_X2_has ⟨_, _, rfl⟩ cw_X4_54 ⟨rfl, by decide, by decide, by decide +kernel⟩ (by decide +kernel) (lev_okX g_X2_has (by decide)) ⟨Nat.zero_le _, Nat.zero_le _⟩ dX4_promise_33,
  sq_if_ne X (by decide) dX4_promise_36,
  sx_thr X htab (by decide +kernel) (by decide +kernel) th_X4_36_38.1 th_X4_36_38.2 th_X4_36_38a th_X4_36_38g th_X4_36_38o ⟨by show 5 < lv; omega, by show 81 ≤ 60 * lv; omega⟩ ⟨Nat.le_refl _, Nat.le_refl _⟩ dX4_promise_39 dX4_promise_42 dX4_promise_43 dX4_promise_46,
  sq_iconst X (by decide) dX4_promise_47,
  sq_aload_n X rfl dX4_promise_48,
  sq_gf X (ci := 4) rfl inX4 gdX4 (by decide) fl_X4_28 dX4_promise_49,
  sq_iload_n X rfl dX4_promise_52,
  sq_cv X h_X0_howManyOf ⟨_, _, rfl⟩ cw_X4_73 ⟨rfl, by decide, by decide, by decide +kernel⟩ (by decide +kernel) (lev_okX g_X0_howManyOf (by decide)) ⟨Nat.zero_le _, Nat.zero_le _⟩ dX4_promise_53,
  sq_iadd X dX4_promise_56,
  sq_bipush X (by decide) dX4_promise_57,
  sq_ic_le X (by decide) dX4_promise_59,
  sx_thr X htab (by decide +kernel) (by decide +kernel) th_X4_47_49.1 th_X4_47_49.2 th_X4_47_49a th_X4_47_49g th_X4_47_49o ⟨by show 5 < lv; omega, by show 81 ≤ 60 * lv; omega⟩ ⟨Nat.le_refl _, Nat.le_refl _⟩ dX4_promise_62 dX4_promise_65 dX4_promise_66 dX4_promise_69,
  sq_aload_n X rfl dX4_promise_70,
  sq_gf X (ci := 4) rfl inX4 gdX4 (by decide) fl_X4_28 dX4_promise_71,
  sq_iload_n X rfl dX4_promise_74,
  sq_iload_n X rfl dX4_promise_75,
  sq_iload_n X rfl dX4_promise_76,
  sq_cv X h_X0_replaceBy ⟨_, _, rfl⟩ cw_X4_77 ⟨rfl, by decide, by decide, by decide +kernel⟩ (by decide +kernel) (lev_okX g_X0_replaceBy (by decide)) ⟨Nat.zero_le _, Nat.zero_le _⟩ dX4_promise_77,
  sq_aload_n X rfl dX4_promise_80,
  sq_gf X (ci := 4) rfl inX4 gdX4 (by decide) fl_X4_28 dX4_promise_81,
  sq_gf X (ci := 0) rfl inX0 gdX0 (by decide) fl_X4_81 dX4_promise_84,
  sx_iret X hr dX4_promise_87, trivial⟩
def tb_X4_kept (Φ : Post) (Ψ : PostX) (S_X4_isStore S_X0_has S_X0_isKeptIn : SpecT) : List (Nat × Tr) := [
  (0, tq_ild 2 1),
  (1, tq_cs 1 S_X4_isStore 4),
  (4, tq_if_ne 15 7),
  (7, tq_thr Ψ "java/lang/IllegalArgumentException"),
  (15, tq_ald 0 16),
  (16, tq_gf 4 2 19),
  (19, tq_ild 1 20),
  (20, tq_cv 0 2 S_X0_has 23),
  (23, tq_if_ne 34 26),
  (26, tq_thr Ψ "java/lang/IllegalStateException"),
  (34, tq_ald 0 35),
  (35, tq_gf 4 2 38),
  (38, tq_ild 1 39),
  (39, tq_ild 2 40),
  (40, tq_cv 0 3 S_X0_isKeptIn 43),
  (43, tq_zret Φ)]
set_option maxRecDepth 100000 in
theorem tk_X4_kept {p : Program} {l : Launch} {e : Env} {s s0 : State} {a0 : Array Value} {m : MethodId} {args : Array Value} {below : List Frame} {meth : Method} {c : Code} {D : va_G} {ad : Nat → Nat → Nat} {cA : Nat → ClassId} {A : Nat → Prop} {lv : Nat} {Φ : Post} {Ψ : PostX} (X : Cx p l s0 a0 s m args meth c cX4_kept 3 RX4 D ad cA A) (hr : meth.sig.returnType = (some .boolean)) (htab : ∀ x ∈ c.exceptionTable.toList, False) (g_six : 6 ≤ lv) {S_X4_isStore : SpecT} {v_X4_isStore : Nat} (h_X4_isStore : Con l yX4_isStore cX4_isStore 1 (some .boolean) 1 v_X4_isStore S_X4_isStore) (g_X4_isStore : v_X4_isStore + 1 ≤ lv) {S_X0_has : SpecT} {v_X0_has : Nat} (h_X0_has : Con l yX0_has cX0_has 2 (some .boolean) 2 v_X0_has S_X0_has) (g_X0_has : v_X0_has + 1 ≤ lv) {S_X0_isKeptIn : SpecT} {v_X0_isKeptIn : Nat} (h_X0_isKeptIn : Con l yX0_isKeptIn cX0_isKeptIn 4 (some .boolean) 3 v_X0_isKeptIn S_X0_isKeptIn) (g_X0_isKeptIn : v_X0_isKeptIn + 1 ≤ lv) : tabOK (K p l e (rmX lv) s m args below meth c D ad cA A 3 0 0 (vx_MQ below (QcW Φ D ad cA A) (XcW Ψ D ad cA A) args s 1 6 A)) (tb_X4_kept Φ Ψ S_X4_isStore S_X0_has S_X0_isKeptIn) :=
  ⟨sq_iload_n X rfl dX4_kept_0,
  sq_cs X h_X4_isStore cw_X4_58 ⟨by decide, by decide, by decide +kernel⟩ (by decide +kernel) (lev_okX g_X4_isStore (by decide)) ⟨Nat.zero_le _, Nat.zero_le _⟩ dX4_kept_1,
  sq_if_ne X (by decide) dX4_kept_4,
  sx_thr X htab (by decide +kernel) (by decide +kernel) th_X4_36_38.1 th_X4_36_38.2 th_X4_36_38a th_X4_36_38g th_X4_36_38o ⟨by show 5 < lv; omega, by show 81 ≤ 60 * lv; omega⟩ ⟨Nat.le_refl _, Nat.le_refl _⟩ dX4_kept_7 dX4_kept_10 dX4_kept_11 dX4_kept_14,
  sq_aload_n X rfl dX4_kept_15,
  sq_gf X (ci := 4) rfl inX4 gdX4 (by decide) fl_X4_28 dX4_kept_16,
  sq_iload_n X rfl dX4_kept_19,
  sq_cv X h_X0_has ⟨_, _, rfl⟩ cw_X4_82 ⟨rfl, by decide, by decide, by decide +kernel⟩ (by decide +kernel) (lev_okX g_X0_has (by decide)) ⟨Nat.zero_le _, Nat.zero_le _⟩ dX4_kept_20,
  sq_if_ne X (by decide) dX4_kept_23,
  sx_thr X htab (by decide +kernel) (by decide +kernel) th_X4_47_49.1 th_X4_47_49.2 th_X4_47_49a th_X4_47_49g th_X4_47_49o ⟨by show 5 < lv; omega, by show 81 ≤ 60 * lv; omega⟩ ⟨Nat.le_refl _, Nat.le_refl _⟩ dX4_kept_26 dX4_kept_29 dX4_kept_30 dX4_kept_33,
  sq_aload_n X rfl dX4_kept_34,
  sq_gf X (ci := 4) rfl inX4 gdX4 (by decide) fl_X4_28 dX4_kept_35,
  sq_iload_n X rfl dX4_kept_38,
  sq_iload_n X rfl dX4_kept_39,
  sq_cv X h_X0_isKeptIn ⟨_, _, rfl⟩ cw_X4_84 ⟨rfl, by decide, by decide, by decide +kernel⟩ (by decide +kernel) (lev_okX g_X0_isKeptIn (by decide)) ⟨Nat.zero_le _, Nat.zero_le _⟩ dX4_kept_40,
  sx_zret X hr dX4_kept_43, trivial⟩
def tb_X4_decide (Φ : Post) (Ψ : PostX) (S_X0_has S_X0_leastBroken : SpecT) : List (Nat × Tr) := [
  (0, tq_ald 0 1),
  (1, tq_gf 4 2 4),
  (4, tq_ild 1 5),
  (5, tq_cv 0 2 S_X0_has 8),
  (8, tq_if_ne 19 11),
  (11, tq_thr Ψ "java/lang/IllegalStateException"),
  (19, tq_ald 0 20),
  (20, tq_gf 4 2 23),
  (23, tq_ild 1 24),
  (24, tq_cv 0 2 S_X0_leastBroken 27),
  (27, tq_iret Φ)]
set_option maxRecDepth 100000 in
theorem tk_X4_decide {p : Program} {l : Launch} {e : Env} {s s0 : State} {a0 : Array Value} {m : MethodId} {args : Array Value} {below : List Frame} {meth : Method} {c : Code} {D : va_G} {ad : Nat → Nat → Nat} {cA : Nat → ClassId} {A : Nat → Prop} {lv : Nat} {Φ : Post} {Ψ : PostX} (X : Cx p l s0 a0 s m args meth c cX4_decide 2 RX4 D ad cA A) (hr : meth.sig.returnType = (some .int)) (htab : ∀ x ∈ c.exceptionTable.toList, False) (g_six : 6 ≤ lv) {S_X0_has : SpecT} {v_X0_has : Nat} (h_X0_has : Con l yX0_has cX0_has 2 (some .boolean) 2 v_X0_has S_X0_has) (g_X0_has : v_X0_has + 1 ≤ lv) {S_X0_leastBroken : SpecT} {v_X0_leastBroken : Nat} (h_X0_leastBroken : Con l yX0_leastBroken cX0_leastBroken 3 (some .int) 2 v_X0_leastBroken S_X0_leastBroken) (g_X0_leastBroken : v_X0_leastBroken + 1 ≤ lv) : tabOK (K p l e (rmX lv) s m args below meth c D ad cA A 2 0 0 (vx_MQ below (QcW Φ D ad cA A) (XcW Ψ D ad cA A) args s 1 6 A)) (tb_X4_decide Φ Ψ S_X0_has S_X0_leastBroken) :=
  ⟨sq_aload_n X rfl dX4_decide_0,
  sq_gf X (ci := 4) rfl inX4 gdX4 (by decide) fl_X4_28 dX4_decide_1,
  sq_iload_n X rfl dX4_decide_4,
  sq_cv X h_X0_has ⟨_, _, rfl⟩ cw_X4_82 ⟨rfl, by decide, by decide, by decide +kernel⟩ (by decide +kernel) (lev_okX g_X0_has (by decide)) ⟨Nat.zero_le _, Nat.zero_le _⟩ dX4_decide_5,
  sq_if_ne X (by decide) dX4_decide_8,
  sx_thr X htab (by decide +kernel) (by decide +kernel) th_X4_47_49.1 th_X4_47_49.2 th_X4_47_49a th_X4_47_49g th_X4_47_49o ⟨by show 5 < lv; omega, by show 81 ≤ 60 * lv; omega⟩ ⟨Nat.le_refl _, Nat.le_refl _⟩ dX4_decide_11 dX4_decide_14 dX4_decide_15 dX4_decide_18,
  sq_aload_n X rfl dX4_decide_19,
  sq_gf X (ci := 4) rfl inX4 gdX4 (by decide) fl_X4_28 dX4_decide_20,
  sq_iload_n X rfl dX4_decide_23,
  sq_cv X h_X0_leastBroken ⟨_, _, rfl⟩ cw_X4_87 ⟨rfl, by decide, by decide, by decide +kernel⟩ (by decide +kernel) (lev_okX g_X0_leastBroken (by decide)) ⟨Nat.zero_le _, Nat.zero_le _⟩ dX4_decide_24,
  sx_iret X hr dX4_decide_27, trivial⟩
def tb_X4_broken (Φ : Post) (Ψ : PostX) (S_X0_has S_X0_howManyBroken : SpecT) : List (Nat × Tr) := [
  (0, tq_ild 2 1),
  (1, tq_if_lt 16 4),
  (4, tq_ild 2 5),
  (5, tq_ild 3 6),
  (6, tq_ic_gt 16 9),
  (9, tq_ild 3 10),
  (10, tq_push 4095 13),
  (13, tq_ic_le 24 16),
  (16, tq_thr Ψ "java/lang/IllegalArgumentException"),
  (24, tq_ald 0 25),
  (25, tq_gf 4 2 28),
  (28, tq_ild 1 29),
  (29, tq_cv 0 2 S_X0_has 32),
  (32, tq_if_ne 43 35),
  (35, tq_thr Ψ "java/lang/IllegalStateException"),
  (43, tq_ald 0 44),
  (44, tq_gf 4 2 47),
  (47, tq_ild 1 48),
  (48, tq_ild 2 49),
  (49, tq_ild 3 50),
  (50, tq_cv 0 4 S_X0_howManyBroken 53),
  (53, tq_iret Φ)]
set_option maxRecDepth 100000 in
theorem tk_X4_broken {p : Program} {l : Launch} {e : Env} {s s0 : State} {a0 : Array Value} {m : MethodId} {args : Array Value} {below : List Frame} {meth : Method} {c : Code} {D : va_G} {ad : Nat → Nat → Nat} {cA : Nat → ClassId} {A : Nat → Prop} {lv : Nat} {Φ : Post} {Ψ : PostX} (X : Cx p l s0 a0 s m args meth c cX4_broken 4 RX4 D ad cA A) (hr : meth.sig.returnType = (some .int)) (htab : ∀ x ∈ c.exceptionTable.toList, False) (g_six : 6 ≤ lv) {S_X0_has : SpecT} {v_X0_has : Nat} (h_X0_has : Con l yX0_has cX0_has 2 (some .boolean) 2 v_X0_has S_X0_has) (g_X0_has : v_X0_has + 1 ≤ lv) {S_X0_howManyBroken : SpecT} {v_X0_howManyBroken : Nat} (h_X0_howManyBroken : Con l yX0_howManyBroken cX0_howManyBroken 6 (some .int) 4 v_X0_howManyBroken S_X0_howManyBroken) (g_X0_howManyBroken : v_X0_howManyBroken + 1 ≤ lv) : tabOK (K p l e (rmX lv) s m args below meth c D ad cA A 4 0 0 (vx_MQ below (QcW Φ D ad cA A) (XcW Ψ D ad cA A) args s 1 6 A)) (tb_X4_broken Φ Ψ S_X0_has S_X0_howManyBroken) :=
  ⟨sq_iload_n X rfl dX4_broken_0,
  sq_if_lt X (by decide) dX4_broken_1,
  sq_iload_n X rfl dX4_broken_4,
  sq_iload_n X rfl dX4_broken_5,
  sq_ic_gt X (by decide) dX4_broken_6,
  sq_iload_n X rfl dX4_broken_9,
  sq_sipush X (by decide) dX4_broken_10,
  sq_ic_le X (by decide) dX4_broken_13,
  sx_thr X htab (by decide +kernel) (by decide +kernel) th_X4_36_38.1 th_X4_36_38.2 th_X4_36_38a th_X4_36_38g th_X4_36_38o ⟨by show 5 < lv; omega, by show 81 ≤ 60 * lv; omega⟩ ⟨Nat.le_refl _, Nat.le_refl _⟩ dX4_broken_16 dX4_broken_19 dX4_broken_20 dX4_broken_23,
  sq_aload_n X rfl dX4_broken_24,
  sq_gf X (ci := 4) rfl inX4 gdX4 (by decide) fl_X4_28 dX4_broken_25,
  sq_iload_n X rfl dX4_broken_28,
  sq_cv X h_X0_has ⟨_, _, rfl⟩ cw_X4_82 ⟨rfl, by decide, by decide, by decide +kernel⟩ (by decide +kernel) (lev_okX g_X0_has (by decide)) ⟨Nat.zero_le _, Nat.zero_le _⟩ dX4_broken_29,
  sq_if_ne X (by decide) dX4_broken_32,
  sx_thr X htab (by decide +kernel) (by decide +kernel) th_X4_47_49.1 th_X4_47_49.2 th_X4_47_49a th_X4_47_49g th_X4_47_49o ⟨by show 5 < lv; omega, by show 81 ≤ 60 * lv; omega⟩ ⟨Nat.le_refl _, Nat.le_refl _⟩ dX4_broken_35 dX4_broken_38 dX4_broken_39 dX4_broken_42,
  sq_aload_n X rfl dX4_broken_43,
  sq_gf X (ci := 4) rfl inX4 gdX4 (by decide) fl_X4_28 dX4_broken_44,
  sq_iload_n X rfl dX4_broken_47,
  sq_iload_n X rfl dX4_broken_48,
  sq_iload_n X rfl dX4_broken_49,
  sq_cv X h_X0_howManyBroken ⟨_, _, rfl⟩ cw_X4_90 ⟨rfl, by decide, by decide, by decide +kernel⟩ (by decide +kernel) (lev_okX g_X0_howManyBroken (by decide)) ⟨Nat.zero_le _, Nat.zero_le _⟩ dX4_broken_50,
  sx_iret X hr dX4_broken_53, trivial⟩
def tb_X4_part (Φ : Post) (Ψ : PostX) (S_X0_howManyBrokenPairs : SpecT) : List (Nat × Tr) := [
  (0, tq_ald 0 1),
  (1, tq_gf 4 2 4),
  (4, tq_gf 0 3 7),
  (7, tq_if_ne 18 10),
  (10, tq_thr Ψ "java/lang/IllegalStateException"),
  (18, tq_ald 0 19),
  (19, tq_gf 4 2 22),
  (22, tq_gf 0 3 25),
  (25, tq_push 4096 28),
  (28, tq_imul 29),
  (29, tq_ist 1 30),
  (30, tq_ild 1 31),
  (31, tq_ald 0 32),
  (32, tq_gf 4 2 35),
  (35, tq_cv 0 1 S_X0_howManyBrokenPairs 38),
  (38, tq_isub 39),
  (39, tq_i2d 40),
  (40, tq_ild 1 41),
  (41, tq_i2d 42),
  (42, tq_ddiv 43),
  (43, tq_dret Φ)]
set_option maxRecDepth 100000 in
theorem tk_X4_part {p : Program} {l : Launch} {e : Env} {s s0 : State} {a0 : Array Value} {m : MethodId} {args : Array Value} {below : List Frame} {meth : Method} {c : Code} {D : va_G} {ad : Nat → Nat → Nat} {cA : Nat → ClassId} {A : Nat → Prop} {lv : Nat} {Φ : Post} {Ψ : PostX} (X : Cx p l s0 a0 s m args meth c cX4_part 2 RX4 D ad cA A) (hr : meth.sig.returnType = (some .double)) (htab : ∀ x ∈ c.exceptionTable.toList, False) (g_six : 6 ≤ lv) {S_X0_howManyBrokenPairs : SpecT} {v_X0_howManyBrokenPairs : Nat} (h_X0_howManyBrokenPairs : Con l yX0_howManyBrokenPairs cX0_howManyBrokenPairs 3 (some .int) 1 v_X0_howManyBrokenPairs S_X0_howManyBrokenPairs) (g_X0_howManyBrokenPairs : v_X0_howManyBrokenPairs + 1 ≤ lv) : tabOK (K p l e (rmX lv) s m args below meth c D ad cA A 2 0 0 (vx_MQ below (QcW Φ D ad cA A) (XcW Ψ D ad cA A) args s 1 6 A)) (tb_X4_part Φ Ψ S_X0_howManyBrokenPairs) :=
  ⟨sq_aload_n X rfl dX4_part_0,
  sq_gf X (ci := 4) rfl inX4 gdX4 (by decide) fl_X4_28 dX4_part_1,
  sq_gf X (ci := 0) rfl inX0 gdX0 (by decide) fl_X4_81 dX4_part_4,
  sq_if_ne X (by decide) dX4_part_7,
  sx_thr X htab (by decide +kernel) (by decide +kernel) th_X4_47_49.1 th_X4_47_49.2 th_X4_47_49a th_X4_47_49g th_X4_47_49o ⟨by show 5 < lv; omega, by show 81 ≤ 60 * lv; omega⟩ ⟨Nat.le_refl _, Nat.le_refl _⟩ dX4_part_10 dX4_part_13 dX4_part_14 dX4_part_17,
  sq_aload_n X rfl dX4_part_18,
  sq_gf X (ci := 4) rfl inX4 gdX4 (by decide) fl_X4_28 dX4_part_19,
  sq_gf X (ci := 0) rfl inX0 gdX0 (by decide) fl_X4_81 dX4_part_22,
  sq_sipush X (by decide) dX4_part_25,
  sq_imul X dX4_part_28,
  sq_istore_n X rfl (by decide) dX4_part_29,
  sq_iload_n X rfl dX4_part_30,
  sq_aload_n X rfl dX4_part_31,
  sq_gf X (ci := 4) rfl inX4 gdX4 (by decide) fl_X4_28 dX4_part_32,
  sq_cv X h_X0_howManyBrokenPairs ⟨_, _, rfl⟩ cw_X4_93 ⟨rfl, by decide, by decide, by decide +kernel⟩ (by decide +kernel) (lev_okX g_X0_howManyBrokenPairs (by decide)) ⟨Nat.zero_le _, Nat.zero_le _⟩ dX4_part_35,
  sq_isub X dX4_part_38,
  sq_i2d X dX4_part_39,
  sq_iload_n X rfl dX4_part_40,
  sq_i2d X dX4_part_41,
  sq_ddiv X dX4_part_42,
  sx_dret X hr dX4_part_43, trivial⟩
def tb_X4_count (Φ : Post) (Ψ : PostX) (S_X0_howManyValid : SpecT) : List (Nat × Tr) := [
  (0, tq_ild 1 1),
  (1, tq_sw 52 [(0, 28), (1, 36), (2, 44)]),
  (28, tq_ald 0 29),
  (29, tq_gf 4 0 32),
  (32, tq_gf 2 5 35),
  (35, tq_iret Φ),
  (36, tq_ald 0 37),
  (37, tq_gf 4 2 40),
  (40, tq_gf 0 3 43),
  (43, tq_iret Φ),
  (44, tq_ald 0 45),
  (45, tq_gf 4 2 48),
  (48, tq_cv 0 1 S_X0_howManyValid 51),
  (51, tq_iret Φ),
  (52, tq_thr Ψ "java/lang/IllegalArgumentException")]
set_option maxRecDepth 100000 in
theorem tk_X4_count {p : Program} {l : Launch} {e : Env} {s s0 : State} {a0 : Array Value} {m : MethodId} {args : Array Value} {below : List Frame} {meth : Method} {c : Code} {D : va_G} {ad : Nat → Nat → Nat} {cA : Nat → ClassId} {A : Nat → Prop} {lv : Nat} {Φ : Post} {Ψ : PostX} (X : Cx p l s0 a0 s m args meth c cX4_count 2 RX4 D ad cA A) (hr : meth.sig.returnType = (some .int)) (htab : ∀ x ∈ c.exceptionTable.toList, False) (g_six : 6 ≤ lv) {S_X0_howManyValid : SpecT} {v_X0_howManyValid : Nat} (h_X0_howManyValid : Con l yX0_howManyValid cX0_howManyValid 3 (some .int) 1 v_X0_howManyValid S_X0_howManyValid) (g_X0_howManyValid : v_X0_howManyValid + 1 ≤ lv) : tabOK (K p l e (rmX lv) s m args below meth c D ad cA A 2 0 0 (vx_MQ below (QcW Φ D ad cA A) (XcW Ψ D ad cA A) args s 1 6 A)) (tb_X4_count Φ Ψ S_X0_howManyValid) :=
  ⟨sq_iload_n X rfl dX4_count_0,
  sq_sw X (by decide) rfl (by decide) (by decide) dX4_count_1,
  sq_aload_n X rfl dX4_count_28,
  sq_gf X (ci := 4) rfl inX4 gdX4 (by decide) fl_X4_10 dX4_count_29,
  sq_gf X (ci := 2) rfl inX2 gdX2 (by decide) fl_X4_43 dX4_count_32,
  sx_iret X hr dX4_count_35,
  sq_aload_n X rfl dX4_count_36,
  sq_gf X (ci := 4) rfl inX4 gdX4 (by decide) fl_X4_28 dX4_count_37,
  sq_gf X (ci := 0) rfl inX0 gdX0 (by decide) fl_X4_81 dX4_count_40,
  sx_iret X hr dX4_count_43,
  sq_aload_n X rfl dX4_count_44,
  sq_gf X (ci := 4) rfl inX4 gdX4 (by decide) fl_X4_28 dX4_count_45,
  sq_cv X h_X0_howManyValid ⟨_, _, rfl⟩ cw_X4_97 ⟨rfl, by decide, by decide, by decide +kernel⟩ (by decide +kernel) (lev_okX g_X0_howManyValid (by decide)) ⟨Nat.zero_le _, Nat.zero_le _⟩ dX4_count_48,
  sx_iret X hr dX4_count_51,
  sx_thr X htab (by decide +kernel) (by decide +kernel) th_X4_36_38.1 th_X4_36_38.2 th_X4_36_38a th_X4_36_38g th_X4_36_38o ⟨by show 5 < lv; omega, by show 81 ≤ 60 * lv; omega⟩ ⟨Nat.le_refl _, Nat.le_refl _⟩ dX4_count_52 dX4_count_55 dX4_count_56 dX4_count_59, trivial⟩
end
section
/-! THE PURE PICTURE: the table of nodes, what expressions and conditions give -/
abbrev Tbl : Type := Nat → Nat → Int32
abbrev ix (x : Int32) : Nat := x.toNatClampNeg
/-- the class's table, the reference's table -/
def tC (σ : Mem) : Tbl := fun j k => if j < 5 then rd σ (2 + j) 0 k else 0
def tM (σ : Mem) : Tbl := fun j k => if j < 5 then rd σ (12 + j) 0 k else 0
def hN (t : Tbl) (k : Nat) : Nat := ix (t 4 k)
theorem vp_lt {x : Int32} {n : Nat} (h : vp_in x n) : ix x < n := Nat.not_le.mp fun q => h (Or.inr q)
theorem vp_mono {x : Int32} {n k : Nat} (h : vp_in x n) (hk : n ≤ k) : vp_in x k := fun q => h (q.elim Or.inl (fun z => Or.inr (Nat.le_trans hk z)))
/-- word x of node k is a node made before, of the kinds lo .. hi, and lower -/
def chk (t : Tbl) (k : Nat) (lo hi x : Int32) : Prop := vp_in x k ∧ lo ≤ t 0 (ix x) ∧ t 0 (ix x) ≤ hi ∧ hN t (ix x) < hN t k
def wfn (t : Tbl) (k : Nat) : Prop :=
  (0 ≤ t 0 k ∧ t 0 k ≤ 15) ∧ (1 ≤ hN t k ∧ hN t k ≤ 6) ∧
  (t 0 k = 2 ∨ t 0 k = 3 ∨ t 0 k = 5 ∨ t 0 k = 6 → chk t k 0 4 (t 1 k) ∧ chk t k 0 4 (t 2 k)) ∧
  (t 0 k = 4 ∨ t 0 k = 7 ∨ t 0 k = 12 → chk t k 0 4 (t 2 k)) ∧ (t 0 k = 7 → 1 ≤ t 1 k) ∧ (t 0 k = 12 → 0 ≤ t 1 k ∧ t 1 k ≤ 2) ∧
  (t 0 k = 8 ∨ t 0 k = 9 ∨ t 0 k = 10 → chk t k 5 10 (t 1 k)) ∧ (t 0 k = 9 ∨ t 0 k = 10 → chk t k 5 10 (t 2 k)) ∧
  (t 0 k = 13 → chk t k 11 15 (t 1 k) ∧ chk t k 11 15 (t 2 k)) ∧
  (t 0 k = 14 → chk t k 5 10 (t 1 k) ∧ chk t k 11 15 (t 2 k) ∧ chk t k 11 15 (t 3 k)) ∧
  (t 0 k = 15 → chk t k 5 10 (t 1 k) ∧ chk t k 5 10 (t 2 k) ∧ chk t k 11 15 (t 3 k))
def WF (t : Tbl) (n : Nat) : Prop := n ≤ 60 ∧ ∀ k, k < n → wfn t k
/-- x is a node of the kinds lo .. hi -/
def isN (t : Tbl) (n : Nat) (lo hi x : Int32) : Prop := vp_in x n ∧ lo ≤ t 0 (ix x) ∧ t 0 (ix x) ≤ hi
theorem chk.isN {t : Tbl} {n k : Nat} {lo hi x : Int32} (h : chk t k lo hi x) (hk : k ≤ n) : isN t n lo hi x := ⟨vp_mono h.1 hk, h.2.1, h.2.2.1⟩
def evs (t : Tbl) (s : Int32) (f : Nat → Int32) (k : Nat) : Int32 :=
  if t 0 k = 0 then t 1 k
  else if t 0 k = 1 then (s >>> ((4 * t 1 k) &&& 31)) &&& 15
  else if t 0 k = 2 then f (ix (t 1 k)) + f (ix (t 2 k))
  else if t 0 k = 3 then f (ix (t 1 k)) - f (ix (t 2 k))
  else if t 0 k = 4 then t 1 k * f (ix (t 2 k))
  else if t 0 k = 5 then (if f (ix (t 1 k)) < f (ix (t 2 k)) then 1 else 0)
  else if t 0 k = 6 then (if f (ix (t 1 k)) = f (ix (t 2 k)) then 1 else 0)
  else if t 0 k = 7 then (if f (ix (t 2 k)) - f (ix (t 2 k)) / t 1 k * t 1 k = 0 then 1 else 0)
  else if t 0 k = 8 then 1 - f (ix (t 1 k))
  else if t 0 k = 9 then f (ix (t 1 k)) &&& f (ix (t 2 k))
  else f (ix (t 1 k)) ||| f (ix (t 2 k))
def evf (t : Tbl) (s : Int32) : Nat → Nat → Int32
  | 0, _ => 0
  | d + 1, k => evs t s (evf t s d) k
def EV (t : Tbl) (s : Int32) (k : Nat) : Int32 := evf t s 6 k
theorem evs0 {t : Tbl} {s : Int32} {f : Nat → Int32} {k : Nat} (h : t 0 k = 0) : evs t s f k = t 1 k := by
  unfold evs
  rw [if_pos h]
theorem evs1 {t : Tbl} {s : Int32} {f : Nat → Int32} {k : Nat} (h : t 0 k = 1) : evs t s f k = (s >>> ((4 * t 1 k) &&& 31)) &&& 15 := by
  unfold evs
  rw [if_neg (by rw [h]; decide), if_pos h]
theorem evs2 {t : Tbl} {s : Int32} {f : Nat → Int32} {k : Nat} (h : t 0 k = 2) : evs t s f k = f (ix (t 1 k)) + f (ix (t 2 k)) := by
  unfold evs
  rw [if_neg (by rw [h]; decide), if_neg (by rw [h]; decide), if_pos h]
theorem evs3 {t : Tbl} {s : Int32} {f : Nat → Int32} {k : Nat} (h : t 0 k = 3) : evs t s f k = f (ix (t 1 k)) - f (ix (t 2 k)) := by
  unfold evs
  rw [if_neg (by rw [h]; decide), if_neg (by rw [h]; decide), if_neg (by rw [h]; decide), if_pos h]
theorem evs4 {t : Tbl} {s : Int32} {f : Nat → Int32} {k : Nat} (h : t 0 k = 4) : evs t s f k = t 1 k * f (ix (t 2 k)) := by
  unfold evs
  rw [if_neg (by rw [h]; decide), if_neg (by rw [h]; decide), if_neg (by rw [h]; decide), if_neg (by rw [h]; decide), if_pos h]
theorem evs5 {t : Tbl} {s : Int32} {f : Nat → Int32} {k : Nat} (h : t 0 k = 5) : evs t s f k = (if f (ix (t 1 k)) < f (ix (t 2 k)) then 1 else 0) := by
  unfold evs
  rw [if_neg (by rw [h]; decide), if_neg (by rw [h]; decide), if_neg (by rw [h]; decide), if_neg (by rw [h]; decide), if_neg (by rw [h]; decide), if_pos h]
theorem evs6 {t : Tbl} {s : Int32} {f : Nat → Int32} {k : Nat} (h : t 0 k = 6) : evs t s f k = (if f (ix (t 1 k)) = f (ix (t 2 k)) then 1 else 0) := by
  unfold evs
  rw [if_neg (by rw [h]; decide), if_neg (by rw [h]; decide), if_neg (by rw [h]; decide), if_neg (by rw [h]; decide), if_neg (by rw [h]; decide), if_neg (by rw [h]; decide), if_pos h]
theorem evs7 {t : Tbl} {s : Int32} {f : Nat → Int32} {k : Nat} (h : t 0 k = 7) : evs t s f k = (if f (ix (t 2 k)) - f (ix (t 2 k)) / t 1 k * t 1 k = 0 then 1 else 0) := by
  unfold evs
  rw [if_neg (by rw [h]; decide), if_neg (by rw [h]; decide), if_neg (by rw [h]; decide), if_neg (by rw [h]; decide), if_neg (by rw [h]; decide), if_neg (by rw [h]; decide), if_neg (by rw [h]; decide), if_pos h]
theorem evs8 {t : Tbl} {s : Int32} {f : Nat → Int32} {k : Nat} (h : t 0 k = 8) : evs t s f k = 1 - f (ix (t 1 k)) := by
  unfold evs
  rw [if_neg (by rw [h]; decide), if_neg (by rw [h]; decide), if_neg (by rw [h]; decide), if_neg (by rw [h]; decide), if_neg (by rw [h]; decide), if_neg (by rw [h]; decide), if_neg (by rw [h]; decide), if_neg (by rw [h]; decide), if_pos h]
theorem evs9 {t : Tbl} {s : Int32} {f : Nat → Int32} {k : Nat} (h : t 0 k = 9) : evs t s f k = f (ix (t 1 k)) &&& f (ix (t 2 k)) := by
  unfold evs
  rw [if_neg (by rw [h]; decide), if_neg (by rw [h]; decide), if_neg (by rw [h]; decide), if_neg (by rw [h]; decide), if_neg (by rw [h]; decide), if_neg (by rw [h]; decide), if_neg (by rw [h]; decide), if_neg (by rw [h]; decide), if_neg (by rw [h]; decide), if_pos h]
theorem evs10 {t : Tbl} {s : Int32} {f : Nat → Int32} {k : Nat} (h : t 0 k = 10) : evs t s f k = f (ix (t 1 k)) ||| f (ix (t 2 k)) := by
  unfold evs
  rw [if_neg (by rw [h]; decide), if_neg (by rw [h]; decide), if_neg (by rw [h]; decide), if_neg (by rw [h]; decide), if_neg (by rw [h]; decide), if_neg (by rw [h]; decide), if_neg (by rw [h]; decide), if_neg (by rw [h]; decide), if_neg (by rw [h]; decide), if_neg (by rw [h]; decide)]
theorem i32_cases {x : Int32} (h0 : 0 ≤ x) (h1 : x ≤ 15) : x = 0 ∨ x = 1 ∨ x = 2 ∨ x = 3 ∨ x = 4 ∨ x = 5 ∨ x = 6 ∨ x = 7 ∨ x = 8 ∨ x = 9 ∨ x = 10 ∨ x = 11 ∨ x = 12 ∨ x = 13 ∨ x = 14 ∨ x = 15 := by
  have a := Int32.le_iff_toInt_le.mp h0
  have b := Int32.le_iff_toInt_le.mp h1
  have e0 : (0 : Int32).toInt = 0 := by decide
  have e1 : (15 : Int32).toInt = 15 := by decide
  rw [e0] at a
  rw [e1] at b
  have key : ∀ v : Int32, x.toInt = v.toInt → x = v := fun v h => Int32.toInt_inj.mp h
  have hz : x.toInt = 0 ∨ x.toInt = 1 ∨ x.toInt = 2 ∨ x.toInt = 3 ∨ x.toInt = 4 ∨ x.toInt = 5 ∨ x.toInt = 6 ∨ x.toInt = 7 ∨ x.toInt = 8 ∨ x.toInt = 9 ∨ x.toInt = 10 ∨ x.toInt = 11 ∨ x.toInt = 12 ∨ x.toInt = 13 ∨ x.toInt = 14 ∨ x.toInt = 15 := by omega
  rcases hz with h | h | h | h | h | h | h | h | h | h | h | h | h | h | h | h
  · have := key 0 h; subst this; decide
  · have := key 1 h; subst this; decide
  · have := key 2 h; subst this; decide
  · have := key 3 h; subst this; decide
  · have := key 4 h; subst this; decide
  · have := key 5 h; subst this; decide
  · have := key 6 h; subst this; decide
  · have := key 7 h; subst this; decide
  · have := key 8 h; subst this; decide
  · have := key 9 h; subst this; decide
  · have := key 10 h; subst this; decide
  · have := key 11 h; subst this; decide
  · have := key 12 h; subst this; decide
  · have := key 13 h; subst this; decide
  · have := key 14 h; subst this; decide
  · have := key 15 h; subst this; decide
/-- evs looks at the words that are nodes alone -/
theorem evs_congr {t : Tbl} {s : Int32} {f g : Nat → Int32} {k : Nat} (hw : wfn t k) (hk : t 0 k ≤ 10)
    (h : ∀ x lo hi, chk t k lo hi x → hi ≤ 10 → f (ix x) = g (ix x)) : evs t s f k = evs t s g k := by
  obtain ⟨⟨h0, h15⟩, -, hE, hB, -, -, hC, hC2, -⟩ := hw
  have l4 : (4 : Int32) ≤ 10 := by decide
  have l10 : (10 : Int32) ≤ 10 := by decide
  rcases i32_cases h0 h15 with e | e | e | e | e | e | e | e | e | e | e | e | e | e | e | e
  · rw [evs0 e, evs0 e]
  · rw [evs1 e, evs1 e]
  · obtain ⟨ha, hb⟩ := hE (Or.inl e); rw [evs2 e, evs2 e, h _ _ _ ha l4, h _ _ _ hb l4]
  · obtain ⟨ha, hb⟩ := hE (Or.inr (Or.inl e)); rw [evs3 e, evs3 e, h _ _ _ ha l4, h _ _ _ hb l4]
  · have hb := hB (Or.inl e); rw [evs4 e, evs4 e, h _ _ _ hb l4]
  · obtain ⟨ha, hb⟩ := hE (Or.inr (Or.inr (Or.inl e))); rw [evs5 e, evs5 e, h _ _ _ ha l4, h _ _ _ hb l4]
  · obtain ⟨ha, hb⟩ := hE (Or.inr (Or.inr (Or.inr e))); rw [evs6 e, evs6 e, h _ _ _ ha l4, h _ _ _ hb l4]
  · have hb := hB (Or.inr (Or.inl e)); rw [evs7 e, evs7 e, h _ _ _ hb l4]
  · have ha := hC (Or.inl e); rw [evs8 e, evs8 e, h _ _ _ ha l10]
  · have ha := hC (Or.inr (Or.inl e)); have hb := hC2 (Or.inl e); rw [evs9 e, evs9 e, h _ _ _ ha l10, h _ _ _ hb l10]
  · have ha := hC (Or.inr (Or.inr e)); have hb := hC2 (Or.inr e); rw [evs10 e, evs10 e, h _ _ _ ha l10, h _ _ _ hb l10]
  all_goals (rw [e] at hk; exact absurd hk (by decide))
theorem i32_le_trans {a b c : Int32} (h1 : a ≤ b) (h2 : b ≤ c) : a ≤ c := Int32.le_trans h1 h2
theorem evf_eq {t : Tbl} {n : Nat} (hw : WF t n) (s : Int32) : ∀ (d d' k : Nat), k < n → t 0 k ≤ 10 → hN t k ≤ d → hN t k ≤ d' → evf t s d k = evf t s d' k := by
  intro d
  induction d with
  | zero => intro d' k hk _ hd _; have := (hw.2 k hk).2.1.1; omega
  | succ d ih =>
    intro d' k hk h10 hd hd'
    cases d' with
    | zero => have := (hw.2 k hk).2.1.1; omega
    | succ d' =>
      show evs t s (evf t s d) k = evs t s (evf t s d') k
      refine evs_congr (hw.2 k hk) h10 (fun x lo hi hc hh => ?_)
      have hx := vp_lt hc.1
      exact ih d' (ix x) (by omega) (Int32.le_trans hc.2.2.1 hh) (by have := hc.2.2.2; omega) (by have := hc.2.2.2; omega)
theorem EV_unf {t : Tbl} {n : Nat} (hw : WF t n) (s : Int32) {k : Nat} (hk : k < n) (h10 : t 0 k ≤ 10) : EV t s k = evs t s (EV t s) k := by
  show evs t s (evf t s 5) k = evs t s (evf t s 6) k
  refine evs_congr (hw.2 k hk) h10 (fun x lo hi hc hh => ?_)
  have hx := vp_lt hc.1
  have h6 := (hw.2 k hk).2.1.2
  exact evf_eq hw s 5 6 (ix x) (by omega) (Int32.le_trans hc.2.2.1 hh) (by have := hc.2.2.2; omega) (by have := hc.2.2.2; omega)
/-- a condition gives 0 or 1 -/
theorem evs_01 {t : Tbl} {s : Int32} {f : Nat → Int32} {k : Nat} (hw : wfn t k) (h5 : 5 ≤ t 0 k) (hk : t 0 k ≤ 10)
    (h : ∀ x, chk t k 5 10 x → f (ix x) = 0 ∨ f (ix x) = 1) : evs t s f k = 0 ∨ evs t s f k = 1 := by
  obtain ⟨⟨h0, h15⟩, -, hE, hB, -, -, hC, hC2, -⟩ := hw
  rcases i32_cases h0 h15 with e | e | e | e | e | e | e | e | e | e | e | e | e | e | e | e
  · rw [e] at h5; exact absurd h5 (by decide)
  · rw [e] at h5; exact absurd h5 (by decide)
  · rw [e] at h5; exact absurd h5 (by decide)
  · rw [e] at h5; exact absurd h5 (by decide)
  · rw [e] at h5; exact absurd h5 (by decide)
  · rw [evs5 e]; split; exact Or.inr rfl; exact Or.inl rfl
  · rw [evs6 e]; split; exact Or.inr rfl; exact Or.inl rfl
  · rw [evs7 e]; split; exact Or.inr rfl; exact Or.inl rfl
  · rw [evs8 e]
    rcases h _ (hC (Or.inl e)) with z | z <;> rw [z] <;> decide
  · rw [evs9 e]
    rcases h _ (hC (Or.inr (Or.inl e))) with z | z <;> rcases h _ (hC2 (Or.inl e)) with y | y <;> rw [z, y] <;> decide
  · rw [evs10 e]
    rcases h _ (hC (Or.inr (Or.inr e))) with z | z <;> rcases h _ (hC2 (Or.inr e)) with y | y <;> rw [z, y] <;> decide
  all_goals (rw [e] at hk; exact absurd hk (by decide))
theorem EV_01 {t : Tbl} {n : Nat} (hw : WF t n) (s : Int32) : ∀ (d k : Nat), k < n → hN t k ≤ d → 5 ≤ t 0 k → t 0 k ≤ 10 → EV t s k = 0 ∨ EV t s k = 1 := by
  intro d
  induction d with
  | zero => intro k hk hd; have := (hw.2 k hk).2.1.1; omega
  | succ d ih =>
    intro k hk hd h5 h10
    rw [EV_unf hw s hk h10]
    refine evs_01 (hw.2 k hk) h5 h10 (fun x hc => ?_)
    have hx := vp_lt hc.1
    exact ih (ix x) (by omega) (by have := hc.2.2.2; omega) hc.2.1 hc.2.2.1
noncomputable def b01 (P : Prop) : Int32 := @ite Int32 P (Classical.propDecidable P) 1 0
theorem b01_t {P : Prop} (h : P) : b01 P = 1 := by unfold b01; rw [if_pos h]
theorem b01_f {P : Prop} (h : ¬ P) : b01 P = 0 := by unfold b01; rw [if_neg h]
theorem b01_or (P : Prop) : b01 P = 0 ∨ b01 P = 1 := by
  by_cases h : P
  · exact Or.inr (b01_t h)
  · exact Or.inl (b01_f h)
theorem b01_0 {P : Prop} (h : b01 P = 0) : ¬ P := fun z => by rw [b01_t z] at h; exact absurd h (by decide)
theorem b01_n {P : Prop} (h : ¬ b01 P = 0) : P := Classical.byContradiction fun z => h (b01_f z)
theorem b01_1 {P : Prop} (h : b01 P = 1) : P := Classical.byContradiction fun z => by rw [b01_f z] at h; exact absurd h (by decide)
theorem b01_c {P Q : Prop} (h : P ↔ Q) : b01 P = b01 Q := by
  by_cases z : P
  · rw [b01_t z, b01_t (h.mp z)]
  · rw [b01_f z, b01_f (fun y => z (h.mpr y))]
theorem b01_of {x : Int32} (h : x = 0 ∨ x = 1) : b01 (x = 1) = x := by
  rcases h with rfl | rfl
  · exact b01_f (by decide)
  · exact b01_t rfl
/-- the receiver is the one object of group g -/
def thisM (q : Nat × Nat) (g : Nat) (P : Prop) : Prop := cond (Nat.beq q.1 g && Nat.beq q.2 0) P False
theorem thisM_out {q : Nat × Nat} {g : Nat} {P : Prop} (h : thisM q g P) : q = (g, 0) ∧ P := by
  unfold thisM at h
  cases hb : (Nat.beq q.1 g && Nat.beq q.2 0) with
  | false => rw [hb] at h; exact h.elim
  | true =>
    rw [hb] at h
    simp only [Bool.and_eq_true] at hb
    exact ⟨Prod.ext (Nat.eq_of_beq_eq_true hb.1) (Nat.eq_of_beq_eq_true hb.2), h⟩
/-- all but the groups gs is as it was -/
def eqx (gs : List Nat) (σ σ' : Mem) : Prop := (∀ g i k, g ∉ gs → rd σ' g i k = rd σ g i k) ∧ σ'.2 = σ.2
theorem eqx.refl (gs : List Nat) (σ : Mem) : eqx gs σ σ := ⟨fun _ _ _ _ => rfl, rfl⟩
theorem eqx.trans {gs : List Nat} {σ σ' σ'' : Mem} (h1 : eqx gs σ σ') (h2 : eqx gs σ' σ'') : eqx gs σ σ'' := ⟨fun g i k hg => (h2.1 g i k hg).trans (h1.1 g i k hg), h2.2.trans h1.2⟩
theorem eqx.mono {gs hs : List Nat} {σ σ' : Mem} (h : eqx gs σ σ') (hh : ∀ g ∈ gs, g ∈ hs) : eqx hs σ σ' := ⟨fun g i k hg => h.1 g i k (fun z => hg (hh g z)), h.2⟩
theorem eqx.wr {gs : List Nat} {σ σ' : Mem} (h : eqx gs σ σ') {g i k : Nat} {v : Int32} (hg : g ∈ gs) : eqx gs σ (wr σ' g i k v) := ⟨fun g' i' k' hg' => by
  have hne : ¬ (g' = g ∧ i' = i ∧ k' = k) := fun z => hg' (by rw [z.1]; exact hg)
  rw [rd_wr, if_neg hne]
  exact h.1 g' i' k' hg', h.2⟩
theorem eqx.rl {gs : List Nat} {σ σ' : Mem} (h : eqx gs σ σ') (g k : Nat) : rl σ' g k = rl σ g k := by show σ'.2.1 g k = σ.2.1 g k; rw [h.2]
theorem tM_eqx {gs : List Nat} {σ σ' : Mem} (h : eqx gs σ σ') (hg : ∀ g ∈ gs, g < 12 ∨ 16 < g) : tM σ' = tM σ := by
  funext j k
  unfold tM
  split
  next hj => exact h.1 _ _ _ (fun z => by have := hg _ z; omega)
  next => rfl
theorem tC_eqx {gs : List Nat} {σ σ' : Mem} (h : eqx gs σ σ') (hg : ∀ g ∈ gs, g < 2 ∨ 6 < g) : tC σ' = tC σ := by
  funext j k
  unfold tC
  split
  next hj => exact h.1 _ _ _ (fun z => by have := hg _ z; omega)
  next => rfl
/-- how many nodes the reference has, how many the class has -/
def nM (σ : Mem) : Nat := ix (rd σ 11 0 1)
def nC (σ : Mem) : Nat := ix (rd σ 1 0 5)
def oknM (σ : Mem) : Prop := rd σ 11 0 1 = nI (nM σ) ∧ nM σ ≤ 60
def oknC (σ : Mem) : Prop := rd σ 1 0 5 = nI (nC σ) ∧ nC σ ≤ 60
theorem rng_iff {x : Int32} {n : Nat} (hn : n ≤ 1000) : (0 ≤ x ∧ x ≤ nI n - 1) ↔ vp_in x n := by
  have h1 : (nI n - 1).toInt = (n : Int) - 1 := pk_sub_toInt (a := n) (b := 1) (by omega) (by decide)
  rw [vp_in_iff, Int32.le_iff_toInt_le, Int32.le_iff_toInt_le, h1]
  have e0 : (0 : Int32).toInt = 0 := by decide
  rw [e0]
  omega
end
section
def S_thrown : SpecT := fun av σ Φ => match av with
  | [Sum.inr (Sum.inr (Sum.inr q))] => thisM q 11 (Φ (some (aI (rd σ 11 0 0))) σ)
  | _ => False
set_option maxRecDepth 100000 in
theorem c_thrown (l : Launch) : Con l yX5_thrown cX5_thrown 1 (some .int) 1 0 S_thrown := by
  refine Con.of (by decide) (by decide) ?_
  intro p e s s0 a0 m args below meth c D ad cA A av σ Φ hlen hS hr X
  match av, hS with
  | [Sum.inr (Sum.inr (Sum.inr q))], hS =>
    obtain ⟨rfl, hS⟩ := thisM_out hS
    refine wp_sound (ps := []) (C := fun _ _ _ _ => False) (tk_X5_thrown X hr) (fun _ _ _ _ h => h.elim) 400 _ _ _ _ ?_
    exact hS
def S_refuse : SpecT := fun av σ Φ => match av with
  | [Sum.inr (Sum.inr (Sum.inr q)), Sum.inl x] => thisM q 11 (Φ (some (aI 0)) (wr σ 11 0 0 x))
  | _ => False
set_option maxRecDepth 100000 in
theorem c_refuse (l : Launch) : Con l yX5_refuse cX5_refuse 2 (some .int) 2 0 S_refuse := by
  refine Con.of (by decide) (by decide) ?_
  intro p e s s0 a0 m args below meth c D ad cA A av σ Φ hlen hS hr X
  match av, hS with
  | [Sum.inr (Sum.inr (Sum.inr q)), Sum.inl x], hS =>
    obtain ⟨rfl, hS⟩ := thisM_out hS
    refine wp_sound (ps := []) (C := fun _ _ _ _ => False) (tk_X5_refuse X hr) (fun _ _ _ _ h => h.elim) 400 _ _ _ _ ?_
    exact hS
def S_in : SpecT := fun av σ Φ => match av with
  | [Sum.inl x, Sum.inl lo, Sum.inl hi] => Φ (some (aI (b01 (lo ≤ x ∧ x ≤ hi)))) σ
  | _ => False
set_option maxRecDepth 100000 in
theorem c_in (l : Launch) : Con l yX5_in cX5_in 3 (some .boolean) 3 0 S_in := by
  refine Con.of (by decide) (by decide) ?_
  intro p e s s0 a0 m args below meth c D ad cA A av σ Φ hlen hS hr X
  match av, hS with
  | [Sum.inl x, Sum.inl lo, Sum.inl hi], hS =>
    replace hS : Φ (some (aI (b01 (lo ≤ x ∧ x ≤ hi)))) σ := hS
    refine wp_sound (ps := []) (C := fun _ _ _ _ => False) (tk_X5_in X hr) (fun _ _ _ _ h => h.elim) 400 _ _ _ _ ?_
    refine And.intro (fun h1 => ?_) (fun h1 => ?_)
    · rw [b01_f (fun z => absurd h1 (Int32.not_lt.mpr z.1))] at hS
      exact And.intro (Or.inl rfl) hS
    · refine And.intro (fun h2 => ?_) (fun h2 => ?_)
      · rw [b01_f (fun z => absurd h2 (Int32.not_lt.mpr z.2))] at hS
        exact And.intro (Or.inl rfl) hS
      · rw [b01_t ⟨Int32.not_lt.mp h1, Int32.not_lt.mp h2⟩] at hS
        exact And.intro (Or.inr rfl) hS
def S_isKind : SpecT := fun av σ Φ => match av with
  | [Sum.inr (Sum.inr (Sum.inr q)), Sum.inl x, Sum.inl lo, Sum.inl hi] => thisM q 11 (oknM σ ∧ Φ (some (aI (b01 (isN (tM σ) (nM σ) lo hi x)))) σ)
  | _ => False
set_option maxRecDepth 100000 in
theorem c_isKind (l : Launch) : Con l yX5_isKind cX5_isKind 4 (some .boolean) 4 1 S_isKind := by
  refine Con.of (by decide) (by decide) ?_
  intro p e s s0 a0 m args below meth c D ad cA A av σ Φ hlen hS hr X
  match av, hS with
  | [Sum.inr (Sum.inr (Sum.inr q)), Sum.inl x, Sum.inl lo, Sum.inl hi], hS =>
    obtain ⟨rfl, hS⟩ := thisM_out hS
    refine wp_sound (ps := []) (C := fun _ _ _ _ => False) (tk_X5_isKind X hr (c_in l) (by omega)) (fun _ _ _ _ h => h.elim) 400 _ _ _ _ ?_
    obtain ⟨⟨hn, h60⟩, hS⟩ := hS
    have hx : ∀ {P : Prop}, (0 ≤ x ∧ x ≤ rd σ 11 0 1 - 1 ↔ P) → (vp_in x (nM σ) ↔ P) := fun h => by rw [← h, hn, rng_iff (by omega)]
    refine And.intro (fun h1 => ?_) (fun h1 => ?_)
    · rw [b01_f (fun z => b01_0 h1 ((hx Iff.rfl).mp z.1))] at hS
      exact And.intro (Or.inl rfl) hS
    · have hv := (hx Iff.rfl).mpr (b01_n h1)
      refine And.intro (fun h2 => absurd h2 h1) (fun _ => ?_)
      refine And.intro (vp_mono hv h60) ?_
      refine And.intro (fun h3 => ?_) (fun h3 => ?_)
      · rw [b01_f (fun z => b01_0 h3 z.2)] at hS
        exact And.intro (Or.inl rfl) hS
      · rw [b01_t ⟨hv, b01_n h3⟩] at hS
        exact And.intro (Or.inr rfl) hS
def S_isExpression : SpecT := fun av σ Φ => match av with
  | [Sum.inr (Sum.inr (Sum.inr q)), Sum.inl x] => thisM q 11 (oknM σ ∧ Φ (some (aI (b01 (isN (tM σ) (nM σ) 0 4 x)))) σ)
  | _ => False
set_option maxRecDepth 100000 in
theorem c_isExpression (l : Launch) : Con l yX5_isExpression cX5_isExpression 2 (some .boolean) 2 2 S_isExpression := by
  refine Con.of (by decide) (by decide) ?_
  intro p e s s0 a0 m args below meth c D ad cA A av σ Φ hlen hS hr X
  match av, hS with
  | [Sum.inr (Sum.inr (Sum.inr q)), Sum.inl x], hS =>
    obtain ⟨rfl, hS⟩ := thisM_out hS
    refine wp_sound (ps := []) (C := fun _ _ _ _ => False) (tk_X5_isExpression X hr (c_isKind l) (by omega)) (fun _ _ _ _ h => h.elim) 400 _ _ _ _ ?_
    refine And.intro hS.1 ?_
    exact And.intro (b01_or _) hS.2
def S_isCondition : SpecT := fun av σ Φ => match av with
  | [Sum.inr (Sum.inr (Sum.inr q)), Sum.inl x] => thisM q 11 (oknM σ ∧ Φ (some (aI (b01 (isN (tM σ) (nM σ) 5 10 x)))) σ)
  | _ => False
set_option maxRecDepth 100000 in
theorem c_isCondition (l : Launch) : Con l yX5_isCondition cX5_isCondition 2 (some .boolean) 2 2 S_isCondition := by
  refine Con.of (by decide) (by decide) ?_
  intro p e s s0 a0 m args below meth c D ad cA A av σ Φ hlen hS hr X
  match av, hS with
  | [Sum.inr (Sum.inr (Sum.inr q)), Sum.inl x], hS =>
    obtain ⟨rfl, hS⟩ := thisM_out hS
    refine wp_sound (ps := []) (C := fun _ _ _ _ => False) (tk_X5_isCondition X hr (c_isKind l) (by omega)) (fun _ _ _ _ h => h.elim) 400 _ _ _ _ ?_
    refine And.intro hS.1 ?_
    exact And.intro (b01_or _) hS.2
def S_isCommand : SpecT := fun av σ Φ => match av with
  | [Sum.inr (Sum.inr (Sum.inr q)), Sum.inl x] => thisM q 11 (oknM σ ∧ Φ (some (aI (b01 (isN (tM σ) (nM σ) 11 15 x)))) σ)
  | _ => False
set_option maxRecDepth 100000 in
theorem c_isCommand (l : Launch) : Con l yX5_isCommand cX5_isCommand 2 (some .boolean) 2 2 S_isCommand := by
  refine Con.of (by decide) (by decide) ?_
  intro p e s s0 a0 m args below meth c D ad cA A av σ Φ hlen hS hr X
  match av, hS with
  | [Sum.inr (Sum.inr (Sum.inr q)), Sum.inl x], hS =>
    obtain ⟨rfl, hS⟩ := thisM_out hS
    refine wp_sound (ps := []) (C := fun _ _ _ _ => False) (tk_X5_isCommand X hr (c_isKind l) (by omega)) (fun _ _ _ _ h => h.elim) 400 _ _ _ _ ?_
    refine And.intro hS.1 ?_
    exact And.intro (b01_or _) hS.2
def finK (kd : Int32) : Prop := kd = 2 ∨ kd = 3 ∨ kd = 5 ∨ kd = 6 ∨ (8 ≤ kd ∧ kd ≤ 10) ∨ 12 < kd
def sinK (kd : Int32) : Prop := (2 ≤ kd ∧ kd ≤ 7) ∨ kd = 9 ∨ kd = 10 ∨ 11 < kd
def S_firstIsNode : SpecT := fun av σ Φ => match av with
  | [Sum.inl x] => Φ (some (aI (b01 (finK x)))) σ
  | _ => False
set_option maxRecDepth 100000 in
theorem c_firstIsNode (l : Launch) : Con l yX5_firstIsNode cX5_firstIsNode 1 (some .boolean) 1 1 S_firstIsNode := by
  refine Con.of (by decide) (by decide) ?_
  intro p e s s0 a0 m args below meth c D ad cA A av σ Φ hlen hS hr X
  match av, hS with
  | [Sum.inl x], hS =>
    replace hS : Φ (some (aI (b01 (finK x)))) σ := hS
    refine wp_sound (ps := []) (C := fun _ _ _ _ => False) (tk_X5_firstIsNode X hr (c_in l) (by omega)) (fun _ _ _ _ h => h.elim) 400 _ _ _ _ ?_
    have ht : finK x → (1 = (0 : Int32) ∨ (1 : Int32) = 1) ∧ Φ (some (aI 1)) σ := fun h => ⟨Or.inr rfl, by rw [b01_t h] at hS; exact hS⟩
    refine And.intro (fun h => ht (Or.inl h)) (fun h1 => ?_)
    refine And.intro (fun h => ht (Or.inr (Or.inl h))) (fun h2 => ?_)
    refine And.intro (fun h => ht (Or.inr (Or.inr (Or.inl h)))) (fun h3 => ?_)
    refine And.intro (fun h => ht (Or.inr (Or.inr (Or.inr (Or.inl h))))) (fun h4 => ?_)
    refine And.intro (fun h => ht (Or.inr (Or.inr (Or.inr (Or.inr (Or.inl (b01_n h))))))) (fun h5 => ?_)
    refine And.intro (fun h => ?_) (fun h => ht (Or.inr (Or.inr (Or.inr (Or.inr (Or.inr (Int32.not_le.mp h)))))))
    rw [b01_f (fun z => by
      rcases z with z | z | z | z | z | z
      · exact h1 z
      · exact h2 z
      · exact h3 z
      · exact h4 z
      · exact b01_0 h5 z
      · exact absurd h (Int32.not_le.mpr z))] at hS
    exact And.intro (Or.inl rfl) hS
def S_secondIsNode : SpecT := fun av σ Φ => match av with
  | [Sum.inl x] => Φ (some (aI (b01 (sinK x)))) σ
  | _ => False
set_option maxRecDepth 100000 in
theorem c_secondIsNode (l : Launch) : Con l yX5_secondIsNode cX5_secondIsNode 1 (some .boolean) 1 1 S_secondIsNode := by
  refine Con.of (by decide) (by decide) ?_
  intro p e s s0 a0 m args below meth c D ad cA A av σ Φ hlen hS hr X
  match av, hS with
  | [Sum.inl x], hS =>
    replace hS : Φ (some (aI (b01 (sinK x)))) σ := hS
    refine wp_sound (ps := []) (C := fun _ _ _ _ => False) (tk_X5_secondIsNode X hr (c_in l) (by omega)) (fun _ _ _ _ h => h.elim) 400 _ _ _ _ ?_
    have ht : sinK x → (1 = (0 : Int32) ∨ (1 : Int32) = 1) ∧ Φ (some (aI 1)) σ := fun h => ⟨Or.inr rfl, by rw [b01_t h] at hS; exact hS⟩
    refine And.intro (fun h => ht (Or.inl (b01_n h))) (fun h1 => ?_)
    refine And.intro (fun h => ht (Or.inr (Or.inl h))) (fun h2 => ?_)
    refine And.intro (fun h => ht (Or.inr (Or.inr (Or.inl h)))) (fun h3 => ?_)
    refine And.intro (fun h => ?_) (fun h => ht (Or.inr (Or.inr (Or.inr (Int32.not_le.mp h)))))
    rw [b01_f (fun z => by
      rcases z with z | z | z | z
      · exact b01_0 h1 z
      · exact h2 z
      · exact h3 z
      · exact absurd h (Int32.not_le.mpr z))] at hS
    exact And.intro (Or.inl rfl) hS
def hwV (t : Tbl) (h x : Int32) : Int32 := if t 4 (ix x) + 1 ≤ h then h else t 4 (ix x) + 1
def S_heightWith : SpecT := fun av σ Φ => match av with
  | [Sum.inr (Sum.inr (Sum.inr q)), Sum.inl h, Sum.inl x] => thisM q 11 (vp_in x 60 ∧ Φ (some (aI (hwV (tM σ) h x))) σ)
  | _ => False
set_option maxRecDepth 100000 in
theorem c_heightWith (l : Launch) : Con l yX5_heightWith cX5_heightWith 3 (some .int) 3 0 S_heightWith := by
  refine Con.of (by decide) (by decide) ?_
  intro p e s s0 a0 m args below meth c D ad cA A av σ Φ hlen hS hr X
  match av, hS with
  | [Sum.inr (Sum.inr (Sum.inr q)), Sum.inl h, Sum.inl x], hS =>
    obtain ⟨rfl, hS⟩ := thisM_out hS
    refine wp_sound (ps := []) (C := fun _ _ _ _ => False) (tk_X5_heightWith X hr) (fun _ _ _ _ h => h.elim) 400 _ _ _ _ ?_
    obtain ⟨hv, hS⟩ := hS
    refine And.intro hv ?_
    refine And.intro (fun (h1 : tM σ 4 (ix x) + 1 ≤ h) => ?_) (fun (h1 : ¬ tM σ 4 (ix x) + 1 ≤ h) => ?_)
    · rw [hwV, if_pos h1] at hS
      exact hS
    · refine And.intro hv ?_
      rw [hwV, if_neg h1] at hS
      exact hS
def S_variable : SpecT := fun av σ Φ => match av with
  | [Sum.inl s, Sum.inl v] => Φ (some (aI ((s >>> ((4 * v) &&& 31)) &&& 15))) σ
  | _ => False
set_option maxRecDepth 100000 in
theorem c_variable (l : Launch) : Con l yX5_variable cX5_variable 2 (some .int) 2 0 S_variable := by
  refine Con.of (by decide) (by decide) ?_
  intro p e s s0 a0 m args below meth c D ad cA A av σ Φ hlen hS hr X
  match av, hS with
  | [Sum.inl s, Sum.inl v], hS =>
    replace hS : Φ (some (aI ((s >>> ((4 * v) &&& 31)) &&& 15))) σ := hS
    refine wp_sound (ps := []) (C := fun _ _ _ _ => False) (tk_X5_variable X hr) (fun _ _ _ _ h => h.elim) 400 _ _ _ _ ?_
    exact hS
end
section
/-- the words of a node are as its kind asks -/
def fitK (t : Tbl) (n : Nat) (kd a b c : Int32) : Prop :=
  if kd = 0 then ((-100 ≤ a ∧ a ≤ 100))
  else if kd = 1 then ((0 ≤ a ∧ a ≤ 2))
  else if kd = 2 then (isN t n 0 4 a ∧ isN t n 0 4 b)
  else if kd = 3 then (isN t n 0 4 a ∧ isN t n 0 4 b)
  else if kd = 4 then ((-16 ≤ a ∧ a ≤ 16) ∧ isN t n 0 4 b)
  else if kd = 5 then (isN t n 0 4 a ∧ isN t n 0 4 b)
  else if kd = 6 then (isN t n 0 4 a ∧ isN t n 0 4 b)
  else if kd = 7 then ((1 ≤ a ∧ a ≤ 16) ∧ isN t n 0 4 b)
  else if kd = 8 then (isN t n 5 10 a)
  else if kd = 9 then (isN t n 5 10 a ∧ isN t n 5 10 b)
  else if kd = 10 then (isN t n 5 10 a ∧ isN t n 5 10 b)
  else if kd = 11 then (True)
  else if kd = 12 then ((0 ≤ a ∧ a ≤ 2) ∧ isN t n 0 4 b)
  else if kd = 13 then (isN t n 11 15 a ∧ isN t n 11 15 b)
  else if kd = 14 then (isN t n 5 10 a ∧ isN t n 11 15 b ∧ isN t n 11 15 c)
  else if kd = 15 then (isN t n 5 10 a ∧ isN t n 5 10 b ∧ isN t n 11 15 c)
  else False
theorem fitK0 {t : Tbl} {n : Nat} {kd a b c : Int32} (h : kd = 0) : fitK t n kd a b c ↔ ((-100 ≤ a ∧ a ≤ 100)) := by
  unfold fitK
  rw [if_pos h]
theorem fitK1 {t : Tbl} {n : Nat} {kd a b c : Int32} (h : kd = 1) : fitK t n kd a b c ↔ ((0 ≤ a ∧ a ≤ 2)) := by
  unfold fitK
  rw [if_neg (by rw [h]; decide), if_pos h]
theorem fitK2 {t : Tbl} {n : Nat} {kd a b c : Int32} (h : kd = 2) : fitK t n kd a b c ↔ (isN t n 0 4 a ∧ isN t n 0 4 b) := by
  unfold fitK
  rw [if_neg (by rw [h]; decide), if_neg (by rw [h]; decide), if_pos h]
theorem fitK3 {t : Tbl} {n : Nat} {kd a b c : Int32} (h : kd = 3) : fitK t n kd a b c ↔ (isN t n 0 4 a ∧ isN t n 0 4 b) := by
  unfold fitK
  rw [if_neg (by rw [h]; decide), if_neg (by rw [h]; decide), if_neg (by rw [h]; decide), if_pos h]
theorem fitK4 {t : Tbl} {n : Nat} {kd a b c : Int32} (h : kd = 4) : fitK t n kd a b c ↔ ((-16 ≤ a ∧ a ≤ 16) ∧ isN t n 0 4 b) := by
  unfold fitK
  rw [if_neg (by rw [h]; decide), if_neg (by rw [h]; decide), if_neg (by rw [h]; decide), if_neg (by rw [h]; decide), if_pos h]
theorem fitK5 {t : Tbl} {n : Nat} {kd a b c : Int32} (h : kd = 5) : fitK t n kd a b c ↔ (isN t n 0 4 a ∧ isN t n 0 4 b) := by
  unfold fitK
  rw [if_neg (by rw [h]; decide), if_neg (by rw [h]; decide), if_neg (by rw [h]; decide), if_neg (by rw [h]; decide), if_neg (by rw [h]; decide), if_pos h]
theorem fitK6 {t : Tbl} {n : Nat} {kd a b c : Int32} (h : kd = 6) : fitK t n kd a b c ↔ (isN t n 0 4 a ∧ isN t n 0 4 b) := by
  unfold fitK
  rw [if_neg (by rw [h]; decide), if_neg (by rw [h]; decide), if_neg (by rw [h]; decide), if_neg (by rw [h]; decide), if_neg (by rw [h]; decide), if_neg (by rw [h]; decide), if_pos h]
theorem fitK7 {t : Tbl} {n : Nat} {kd a b c : Int32} (h : kd = 7) : fitK t n kd a b c ↔ ((1 ≤ a ∧ a ≤ 16) ∧ isN t n 0 4 b) := by
  unfold fitK
  rw [if_neg (by rw [h]; decide), if_neg (by rw [h]; decide), if_neg (by rw [h]; decide), if_neg (by rw [h]; decide), if_neg (by rw [h]; decide), if_neg (by rw [h]; decide), if_neg (by rw [h]; decide), if_pos h]
theorem fitK8 {t : Tbl} {n : Nat} {kd a b c : Int32} (h : kd = 8) : fitK t n kd a b c ↔ (isN t n 5 10 a) := by
  unfold fitK
  rw [if_neg (by rw [h]; decide), if_neg (by rw [h]; decide), if_neg (by rw [h]; decide), if_neg (by rw [h]; decide), if_neg (by rw [h]; decide), if_neg (by rw [h]; decide), if_neg (by rw [h]; decide), if_neg (by rw [h]; decide), if_pos h]
theorem fitK9 {t : Tbl} {n : Nat} {kd a b c : Int32} (h : kd = 9) : fitK t n kd a b c ↔ (isN t n 5 10 a ∧ isN t n 5 10 b) := by
  unfold fitK
  rw [if_neg (by rw [h]; decide), if_neg (by rw [h]; decide), if_neg (by rw [h]; decide), if_neg (by rw [h]; decide), if_neg (by rw [h]; decide), if_neg (by rw [h]; decide), if_neg (by rw [h]; decide), if_neg (by rw [h]; decide), if_neg (by rw [h]; decide), if_pos h]
theorem fitK10 {t : Tbl} {n : Nat} {kd a b c : Int32} (h : kd = 10) : fitK t n kd a b c ↔ (isN t n 5 10 a ∧ isN t n 5 10 b) := by
  unfold fitK
  rw [if_neg (by rw [h]; decide), if_neg (by rw [h]; decide), if_neg (by rw [h]; decide), if_neg (by rw [h]; decide), if_neg (by rw [h]; decide), if_neg (by rw [h]; decide), if_neg (by rw [h]; decide), if_neg (by rw [h]; decide), if_neg (by rw [h]; decide), if_neg (by rw [h]; decide), if_pos h]
theorem fitK11 {t : Tbl} {n : Nat} {kd a b c : Int32} (h : kd = 11) : fitK t n kd a b c ↔ (True) := by
  unfold fitK
  rw [if_neg (by rw [h]; decide), if_neg (by rw [h]; decide), if_neg (by rw [h]; decide), if_neg (by rw [h]; decide), if_neg (by rw [h]; decide), if_neg (by rw [h]; decide), if_neg (by rw [h]; decide), if_neg (by rw [h]; decide), if_neg (by rw [h]; decide), if_neg (by rw [h]; decide), if_neg (by rw [h]; decide), if_pos h]
theorem fitK12 {t : Tbl} {n : Nat} {kd a b c : Int32} (h : kd = 12) : fitK t n kd a b c ↔ ((0 ≤ a ∧ a ≤ 2) ∧ isN t n 0 4 b) := by
  unfold fitK
  rw [if_neg (by rw [h]; decide), if_neg (by rw [h]; decide), if_neg (by rw [h]; decide), if_neg (by rw [h]; decide), if_neg (by rw [h]; decide), if_neg (by rw [h]; decide), if_neg (by rw [h]; decide), if_neg (by rw [h]; decide), if_neg (by rw [h]; decide), if_neg (by rw [h]; decide), if_neg (by rw [h]; decide), if_neg (by rw [h]; decide), if_pos h]
theorem fitK13 {t : Tbl} {n : Nat} {kd a b c : Int32} (h : kd = 13) : fitK t n kd a b c ↔ (isN t n 11 15 a ∧ isN t n 11 15 b) := by
  unfold fitK
  rw [if_neg (by rw [h]; decide), if_neg (by rw [h]; decide), if_neg (by rw [h]; decide), if_neg (by rw [h]; decide), if_neg (by rw [h]; decide), if_neg (by rw [h]; decide), if_neg (by rw [h]; decide), if_neg (by rw [h]; decide), if_neg (by rw [h]; decide), if_neg (by rw [h]; decide), if_neg (by rw [h]; decide), if_neg (by rw [h]; decide), if_neg (by rw [h]; decide), if_pos h]
theorem fitK14 {t : Tbl} {n : Nat} {kd a b c : Int32} (h : kd = 14) : fitK t n kd a b c ↔ (isN t n 5 10 a ∧ isN t n 11 15 b ∧ isN t n 11 15 c) := by
  unfold fitK
  rw [if_neg (by rw [h]; decide), if_neg (by rw [h]; decide), if_neg (by rw [h]; decide), if_neg (by rw [h]; decide), if_neg (by rw [h]; decide), if_neg (by rw [h]; decide), if_neg (by rw [h]; decide), if_neg (by rw [h]; decide), if_neg (by rw [h]; decide), if_neg (by rw [h]; decide), if_neg (by rw [h]; decide), if_neg (by rw [h]; decide), if_neg (by rw [h]; decide), if_neg (by rw [h]; decide), if_pos h]
theorem fitK15 {t : Tbl} {n : Nat} {kd a b c : Int32} (h : kd = 15) : fitK t n kd a b c ↔ (isN t n 5 10 a ∧ isN t n 5 10 b ∧ isN t n 11 15 c) := by
  unfold fitK
  rw [if_neg (by rw [h]; decide), if_neg (by rw [h]; decide), if_neg (by rw [h]; decide), if_neg (by rw [h]; decide), if_neg (by rw [h]; decide), if_neg (by rw [h]; decide), if_neg (by rw [h]; decide), if_neg (by rw [h]; decide), if_neg (by rw [h]; decide), if_neg (by rw [h]; decide), if_neg (by rw [h]; decide), if_neg (by rw [h]; decide), if_neg (by rw [h]; decide), if_neg (by rw [h]; decide), if_neg (by rw [h]; decide), if_pos h]
theorem fitKd {t : Tbl} {n : Nat} {kd a b c : Int32} (h : ¬ kd = 0 ∧ ¬ kd = 1 ∧ ¬ kd = 2 ∧ ¬ kd = 3 ∧ ¬ kd = 4 ∧ ¬ kd = 5 ∧ ¬ kd = 6 ∧ ¬ kd = 7 ∧ ¬ kd = 8 ∧ ¬ kd = 9 ∧ ¬ kd = 10 ∧ ¬ kd = 11 ∧ ¬ kd = 12 ∧ ¬ kd = 13 ∧ ¬ kd = 14 ∧ ¬ kd = 15) : ¬ fitK t n kd a b c := by
  obtain ⟨h0, h1, h2, h3, h4, h5, h6, h7, h8, h9, h10, h11, h12, h13, h14, h15⟩ := h
  unfold fitK
  rw [if_neg h0, if_neg h1, if_neg h2, if_neg h3, if_neg h4, if_neg h5, if_neg h6, if_neg h7, if_neg h8, if_neg h9, if_neg h10, if_neg h11, if_neg h12, if_neg h13, if_neg h14, if_neg h15]
  exact id
def S_fitting : SpecT := fun av σ Φ => match av with
  | [Sum.inr (Sum.inr (Sum.inr q)), Sum.inl kd, Sum.inl a, Sum.inl b, Sum.inl c] => thisM q 11 (oknM σ ∧ Φ (some (aI (b01 (fitK (tM σ) (nM σ) kd a b c)))) σ)
  | _ => False
set_option maxRecDepth 100000 in
theorem c_fitting (l : Launch) : Con l yX5_fitting cX5_fitting 5 (some .boolean) 5 3 S_fitting := by
  refine Con.of (by decide) (by decide) ?_
  intro p e s s0 a0 m args below meth c D ad cA A av σ Φ hlen hS hr X
  match av, hS with
  | [Sum.inr (Sum.inr (Sum.inr q)), Sum.inl kd, Sum.inl a, Sum.inl b, Sum.inl c], hS =>
    obtain ⟨rfl, hS⟩ := thisM_out hS
    refine wp_sound (ps := []) (C := fun _ _ _ _ => False) (tk_X5_fitting X hr (c_in l) (by omega) (c_isExpression l) (by omega) (c_isCondition l) (by omega) (c_isCommand l) (by omega)) (fun _ _ _ _ h => h.elim) 400 _ _ _ _ ?_
    obtain ⟨hn, hS⟩ := hS
    refine And.intro (fun e0 => ?_) (fun e0 => ?_)
    · rw [b01_c (fitK0 e0)] at hS
      exact And.intro (b01_or _) hS
    refine And.intro (fun e1 => ?_) (fun e1 => ?_)
    · rw [b01_c (fitK1 e1)] at hS
      exact And.intro (b01_or _) hS
    refine And.intro (fun e2 => ?_) (fun e2 => ?_)
    · rw [b01_c (fitK2 e2)] at hS
      refine And.intro hn ?_
      refine And.intro (fun z0 => ?_) (fun z0 => ?_)
      · rw [b01_f (fun w => b01_0 z0 w.1)] at hS
        exact And.intro (Or.inl rfl) hS
      refine And.intro hn ?_
      refine And.intro (fun z1 => ?_) (fun z1 => ?_)
      · rw [b01_f (fun w => b01_0 z1 w.2)] at hS
        exact And.intro (Or.inl rfl) hS
      rw [b01_t ⟨b01_n z0, b01_n z1⟩] at hS
      exact And.intro (Or.inr rfl) hS
    refine And.intro (fun e3 => ?_) (fun e3 => ?_)
    · rw [b01_c (fitK3 e3)] at hS
      refine And.intro hn ?_
      refine And.intro (fun z0 => ?_) (fun z0 => ?_)
      · rw [b01_f (fun w => b01_0 z0 w.1)] at hS
        exact And.intro (Or.inl rfl) hS
      refine And.intro hn ?_
      refine And.intro (fun z1 => ?_) (fun z1 => ?_)
      · rw [b01_f (fun w => b01_0 z1 w.2)] at hS
        exact And.intro (Or.inl rfl) hS
      rw [b01_t ⟨b01_n z0, b01_n z1⟩] at hS
      exact And.intro (Or.inr rfl) hS
    refine And.intro (fun e4 => ?_) (fun e4 => ?_)
    · rw [b01_c (fitK4 e4)] at hS
      refine And.intro (fun z0 => ?_) (fun z0 => ?_)
      · rw [b01_f (fun w => b01_0 z0 w.1)] at hS
        exact And.intro (Or.inl rfl) hS
      refine And.intro hn ?_
      refine And.intro (fun z1 => ?_) (fun z1 => ?_)
      · rw [b01_f (fun w => b01_0 z1 w.2)] at hS
        exact And.intro (Or.inl rfl) hS
      rw [b01_t ⟨b01_n z0, b01_n z1⟩] at hS
      exact And.intro (Or.inr rfl) hS
    refine And.intro (fun e5 => ?_) (fun e5 => ?_)
    · rw [b01_c (fitK5 e5)] at hS
      refine And.intro hn ?_
      refine And.intro (fun z0 => ?_) (fun z0 => ?_)
      · rw [b01_f (fun w => b01_0 z0 w.1)] at hS
        exact And.intro (Or.inl rfl) hS
      refine And.intro hn ?_
      refine And.intro (fun z1 => ?_) (fun z1 => ?_)
      · rw [b01_f (fun w => b01_0 z1 w.2)] at hS
        exact And.intro (Or.inl rfl) hS
      rw [b01_t ⟨b01_n z0, b01_n z1⟩] at hS
      exact And.intro (Or.inr rfl) hS
    refine And.intro (fun e6 => ?_) (fun e6 => ?_)
    · rw [b01_c (fitK6 e6)] at hS
      refine And.intro hn ?_
      refine And.intro (fun z0 => ?_) (fun z0 => ?_)
      · rw [b01_f (fun w => b01_0 z0 w.1)] at hS
        exact And.intro (Or.inl rfl) hS
      refine And.intro hn ?_
      refine And.intro (fun z1 => ?_) (fun z1 => ?_)
      · rw [b01_f (fun w => b01_0 z1 w.2)] at hS
        exact And.intro (Or.inl rfl) hS
      rw [b01_t ⟨b01_n z0, b01_n z1⟩] at hS
      exact And.intro (Or.inr rfl) hS
    refine And.intro (fun e7 => ?_) (fun e7 => ?_)
    · rw [b01_c (fitK7 e7)] at hS
      refine And.intro (fun z0 => ?_) (fun z0 => ?_)
      · rw [b01_f (fun w => b01_0 z0 w.1)] at hS
        exact And.intro (Or.inl rfl) hS
      refine And.intro hn ?_
      refine And.intro (fun z1 => ?_) (fun z1 => ?_)
      · rw [b01_f (fun w => b01_0 z1 w.2)] at hS
        exact And.intro (Or.inl rfl) hS
      rw [b01_t ⟨b01_n z0, b01_n z1⟩] at hS
      exact And.intro (Or.inr rfl) hS
    refine And.intro (fun e8 => ?_) (fun e8 => ?_)
    · rw [b01_c (fitK8 e8)] at hS
      refine And.intro hn ?_
      exact And.intro (b01_or _) hS
    refine And.intro (fun e9 => ?_) (fun e9 => ?_)
    · rw [b01_c (fitK9 e9)] at hS
      refine And.intro hn ?_
      refine And.intro (fun z0 => ?_) (fun z0 => ?_)
      · rw [b01_f (fun w => b01_0 z0 w.1)] at hS
        exact And.intro (Or.inl rfl) hS
      refine And.intro hn ?_
      refine And.intro (fun z1 => ?_) (fun z1 => ?_)
      · rw [b01_f (fun w => b01_0 z1 w.2)] at hS
        exact And.intro (Or.inl rfl) hS
      rw [b01_t ⟨b01_n z0, b01_n z1⟩] at hS
      exact And.intro (Or.inr rfl) hS
    refine And.intro (fun e10 => ?_) (fun e10 => ?_)
    · rw [b01_c (fitK10 e10)] at hS
      refine And.intro hn ?_
      refine And.intro (fun z0 => ?_) (fun z0 => ?_)
      · rw [b01_f (fun w => b01_0 z0 w.1)] at hS
        exact And.intro (Or.inl rfl) hS
      refine And.intro hn ?_
      refine And.intro (fun z1 => ?_) (fun z1 => ?_)
      · rw [b01_f (fun w => b01_0 z1 w.2)] at hS
        exact And.intro (Or.inl rfl) hS
      rw [b01_t ⟨b01_n z0, b01_n z1⟩] at hS
      exact And.intro (Or.inr rfl) hS
    refine And.intro (fun e11 => ?_) (fun e11 => ?_)
    · rw [b01_c (fitK11 e11)] at hS
      rw [b01_t trivial] at hS
      exact And.intro (Or.inr rfl) hS
    refine And.intro (fun e12 => ?_) (fun e12 => ?_)
    · rw [b01_c (fitK12 e12)] at hS
      refine And.intro (fun z0 => ?_) (fun z0 => ?_)
      · rw [b01_f (fun w => b01_0 z0 w.1)] at hS
        exact And.intro (Or.inl rfl) hS
      refine And.intro hn ?_
      refine And.intro (fun z1 => ?_) (fun z1 => ?_)
      · rw [b01_f (fun w => b01_0 z1 w.2)] at hS
        exact And.intro (Or.inl rfl) hS
      rw [b01_t ⟨b01_n z0, b01_n z1⟩] at hS
      exact And.intro (Or.inr rfl) hS
    refine And.intro (fun e13 => ?_) (fun e13 => ?_)
    · rw [b01_c (fitK13 e13)] at hS
      refine And.intro hn ?_
      refine And.intro (fun z0 => ?_) (fun z0 => ?_)
      · rw [b01_f (fun w => b01_0 z0 w.1)] at hS
        exact And.intro (Or.inl rfl) hS
      refine And.intro hn ?_
      refine And.intro (fun z1 => ?_) (fun z1 => ?_)
      · rw [b01_f (fun w => b01_0 z1 w.2)] at hS
        exact And.intro (Or.inl rfl) hS
      rw [b01_t ⟨b01_n z0, b01_n z1⟩] at hS
      exact And.intro (Or.inr rfl) hS
    refine And.intro (fun e14 => ?_) (fun e14 => ?_)
    · rw [b01_c (fitK14 e14)] at hS
      refine And.intro hn ?_
      refine And.intro (fun z0 => ?_) (fun z0 => ?_)
      · rw [b01_f (fun w => b01_0 z0 w.1)] at hS
        exact And.intro (Or.inl rfl) hS
      refine And.intro hn ?_
      refine And.intro (fun z1 => ?_) (fun z1 => ?_)
      · rw [b01_f (fun w => b01_0 z1 w.2.1)] at hS
        exact And.intro (Or.inl rfl) hS
      refine And.intro hn ?_
      refine And.intro (fun z2 => ?_) (fun z2 => ?_)
      · rw [b01_f (fun w => b01_0 z2 w.2.2)] at hS
        exact And.intro (Or.inl rfl) hS
      rw [b01_t ⟨b01_n z0, b01_n z1, b01_n z2⟩] at hS
      exact And.intro (Or.inr rfl) hS
    refine And.intro (fun e15 => ?_) (fun e15 => ?_)
    · rw [b01_c (fitK15 e15)] at hS
      refine And.intro hn ?_
      refine And.intro (fun z0 => ?_) (fun z0 => ?_)
      · rw [b01_f (fun w => b01_0 z0 w.1)] at hS
        exact And.intro (Or.inl rfl) hS
      refine And.intro hn ?_
      refine And.intro (fun z1 => ?_) (fun z1 => ?_)
      · rw [b01_f (fun w => b01_0 z1 w.2.1)] at hS
        exact And.intro (Or.inl rfl) hS
      refine And.intro hn ?_
      refine And.intro (fun z2 => ?_) (fun z2 => ?_)
      · rw [b01_f (fun w => b01_0 z2 w.2.2)] at hS
        exact And.intro (Or.inl rfl) hS
      rw [b01_t ⟨b01_n z0, b01_n z1, b01_n z2⟩] at hS
      exact And.intro (Or.inr rfl) hS
    rw [b01_f (fitKd ⟨e0, e1, e2, e3, e4, e5, e6, e7, e8, e9, e10, e11, e12, e13, e14, e15⟩)] at hS
    exact And.intro (Or.inl rfl) hS
end
section
def bit (w : Int64) (j : Nat) : Prop := (w >>> ((nI j).toInt64 &&& 63)) &&& 1 = 1
/-- the words of node k that are expressions or conditions -/
def kid (t : Tbl) (k : Nat) (y : Int32) : Prop := (finK (t 0 k) ∧ y = t 1 k) ∨ (sinK (t 0 k) ∧ y = t 2 k)
def BLk (t : Tbl) (B : Nat → Int64) (k : Nat) : Prop := bit (B k) k ∧ ∀ i, i ≤ k → bit (B k) i → t 0 i ≤ 10 ∧ ∀ y, kid t i y → bit (B k) (ix y)
/-- the reference's nodes are in order -/
def MI (σ : Mem) : Prop := oknM σ ∧ WF (tM σ) (nM σ) ∧ ∀ k, k < nM σ → tM σ 0 k ≤ 10 → BLk (tM σ) (rl σ 17) k
theorem finK0 : ¬ finK 0 := by unfold finK; decide
theorem sinK0 : ¬ sinK 0 := by unfold sinK; decide
theorem finK1 : ¬ finK 1 := by unfold finK; decide
theorem sinK1 : ¬ sinK 1 := by unfold sinK; decide
theorem finK2 : finK 2 := by unfold finK; decide
theorem sinK2 : sinK 2 := by unfold sinK; decide
theorem finK3 : finK 3 := by unfold finK; decide
theorem sinK3 : sinK 3 := by unfold sinK; decide
theorem finK4 : ¬ finK 4 := by unfold finK; decide
theorem sinK4 : sinK 4 := by unfold sinK; decide
theorem finK5 : finK 5 := by unfold finK; decide
theorem sinK5 : sinK 5 := by unfold sinK; decide
theorem finK6 : finK 6 := by unfold finK; decide
theorem sinK6 : sinK 6 := by unfold sinK; decide
theorem finK7 : ¬ finK 7 := by unfold finK; decide
theorem sinK7 : sinK 7 := by unfold sinK; decide
theorem finK8 : finK 8 := by unfold finK; decide
theorem sinK8 : ¬ sinK 8 := by unfold sinK; decide
theorem finK9 : finK 9 := by unfold finK; decide
theorem sinK9 : sinK 9 := by unfold sinK; decide
theorem finK10 : finK 10 := by unfold finK; decide
theorem sinK10 : sinK 10 := by unfold sinK; decide
theorem evs_kid {t : Tbl} {s : Int32} {f g : Nat → Int32} {k : Nat} (h0 : 0 ≤ t 0 k) (h10 : t 0 k ≤ 10) (h : ∀ y, kid t k y → f (ix y) = g (ix y)) : evs t s f k = evs t s g k := by
  rcases i32_cases h0 (Int32.le_trans h10 (by decide)) with e | e | e | e | e | e | e | e | e | e | e | e | e | e | e | e
  · rw [evs0 e, evs0 e]
  · rw [evs1 e, evs1 e]
  · rw [evs2 e, evs2 e, h (t 1 k) (Or.inl ⟨by rw [e]; exact finK2, rfl⟩), h (t 2 k) (Or.inr ⟨by rw [e]; exact sinK2, rfl⟩)]
  · rw [evs3 e, evs3 e, h (t 1 k) (Or.inl ⟨by rw [e]; exact finK3, rfl⟩), h (t 2 k) (Or.inr ⟨by rw [e]; exact sinK3, rfl⟩)]
  · rw [evs4 e, evs4 e, h (t 2 k) (Or.inr ⟨by rw [e]; exact sinK4, rfl⟩)]
  · rw [evs5 e, evs5 e, h (t 1 k) (Or.inl ⟨by rw [e]; exact finK5, rfl⟩), h (t 2 k) (Or.inr ⟨by rw [e]; exact sinK5, rfl⟩)]
  · rw [evs6 e, evs6 e, h (t 1 k) (Or.inl ⟨by rw [e]; exact finK6, rfl⟩), h (t 2 k) (Or.inr ⟨by rw [e]; exact sinK6, rfl⟩)]
  · rw [evs7 e, evs7 e, h (t 2 k) (Or.inr ⟨by rw [e]; exact sinK7, rfl⟩)]
  · rw [evs8 e, evs8 e, h (t 1 k) (Or.inl ⟨by rw [e]; exact finK8, rfl⟩)]
  · rw [evs9 e, evs9 e, h (t 1 k) (Or.inl ⟨by rw [e]; exact finK9, rfl⟩), h (t 2 k) (Or.inr ⟨by rw [e]; exact sinK9, rfl⟩)]
  · rw [evs10 e, evs10 e, h (t 1 k) (Or.inl ⟨by rw [e]; exact finK10, rfl⟩), h (t 2 k) (Or.inr ⟨by rw [e]; exact sinK10, rfl⟩)]
  all_goals (rw [e] at h10; exact absurd h10 (by decide))
theorem kid_chk {t : Tbl} {k : Nat} (hw : wfn t k) (h10 : t 0 k ≤ 10) {y : Int32} (h : kid t k y) : vp_in y k ∧ t 0 (ix y) ≤ 10 ∧ hN t (ix y) < hN t k := by
  have l4 : ∀ {z : Int32}, chk t k 0 4 z → vp_in z k ∧ t 0 (ix z) ≤ 10 ∧ hN t (ix z) < hN t k := fun h => ⟨h.1, Int32.le_trans h.2.2.1 (by decide), h.2.2.2⟩
  have l10 : ∀ {z : Int32}, chk t k 5 10 z → vp_in z k ∧ t 0 (ix z) ≤ 10 ∧ hN t (ix z) < hN t k := fun h => ⟨h.1, h.2.2.1, h.2.2.2⟩
  obtain ⟨⟨h0, h15⟩, -, hE, hB, -, -, hC, hC2, -⟩ := hw
  rcases i32_cases h0 h15 with e | e | e | e | e | e | e | e | e | e | e | e | e | e | e | e
  · rcases h with ⟨z, rfl⟩ | ⟨z, rfl⟩
    · rw [e] at z; exact absurd z finK0
    · rw [e] at z; exact absurd z sinK0
  · rcases h with ⟨z, rfl⟩ | ⟨z, rfl⟩
    · rw [e] at z; exact absurd z finK1
    · rw [e] at z; exact absurd z sinK1
  · rcases h with ⟨z, rfl⟩ | ⟨z, rfl⟩
    · exact (l4 (hE (Or.inl e)).1)
    · exact (l4 (hE (Or.inl e)).2)
  · rcases h with ⟨z, rfl⟩ | ⟨z, rfl⟩
    · exact (l4 (hE (Or.inr (Or.inl e))).1)
    · exact (l4 (hE (Or.inr (Or.inl e))).2)
  · rcases h with ⟨z, rfl⟩ | ⟨z, rfl⟩
    · rw [e] at z; exact absurd z finK4
    · exact (l4 (hB (Or.inl e)))
  · rcases h with ⟨z, rfl⟩ | ⟨z, rfl⟩
    · exact (l4 (hE (Or.inr (Or.inr (Or.inl e)))).1)
    · exact (l4 (hE (Or.inr (Or.inr (Or.inl e)))).2)
  · rcases h with ⟨z, rfl⟩ | ⟨z, rfl⟩
    · exact (l4 (hE (Or.inr (Or.inr (Or.inr e)))).1)
    · exact (l4 (hE (Or.inr (Or.inr (Or.inr e)))).2)
  · rcases h with ⟨z, rfl⟩ | ⟨z, rfl⟩
    · rw [e] at z; exact absurd z finK7
    · exact (l4 (hB (Or.inr (Or.inl e))))
  · rcases h with ⟨z, rfl⟩ | ⟨z, rfl⟩
    · exact (l10 (hC (Or.inl e)))
    · rw [e] at z; exact absurd z sinK8
  · rcases h with ⟨z, rfl⟩ | ⟨z, rfl⟩
    · exact (l10 (hC (Or.inr (Or.inl e))))
    · exact (l10 (hC2 (Or.inl e)))
  · rcases h with ⟨z, rfl⟩ | ⟨z, rfl⟩
    · exact (l10 (hC (Or.inr (Or.inr e))))
    · exact (l10 (hC2 (Or.inr e)))
  all_goals (rw [e] at h10; exact absurd h10 (by decide))
def S_reckon : SpecT := fun av σ Φ => match av with
  | [Sum.inr (Sum.inr (Sum.inr q)), Sum.inl x, Sum.inl s] => thisM q 11 (vp_in x 60 ∧ wfn (tM σ) (ix x) ∧ ix x ≤ 60 ∧ tM σ 0 (ix x) ≤ 10 ∧ Φ (some (aI (evs (tM σ) s (fun j => rd σ 18 0 j) (ix x)))) σ)
  | _ => False
set_option maxRecDepth 100000 in
theorem c_reckon (l : Launch) : Con l yX5_reckon cX5_reckon 6 (some .int) 3 2 S_reckon := by
  refine Con.of (by decide) (by decide) ?_
  intro p e s s0 a0 m args below meth c D ad cA A av σ Φ hlen hS hr X
  match av, hS with
  | [Sum.inr (Sum.inr (Sum.inr q)), Sum.inl x, Sum.inl s], hS =>
    obtain ⟨rfl, hS⟩ := thisM_out hS
    refine wp_sound (ps := []) (C := fun _ _ _ _ => False) (tk_X5_reckon X hr (c_firstIsNode l) (by omega) (c_secondIsNode l) (by omega) (c_variable l) (by omega)) (fun _ _ _ _ h => h.elim) 400 _ _ _ _ ?_
    obtain ⟨hv, hw, h60, h10, hS⟩ := hS
    refine And.intro hv (And.intro hv ?_)
    have hk := fun y h => vp_mono (kid_chk hw h10 (y := y) h).1 h60
    rcases i32_cases hw.1.1 hw.1.2 with e | e | e | e | e | e | e | e | e | e | e | e | e | e | e | e
    · refine And.intro (fun _ => ?_) (fun (h : ¬ b01 (finK (tM σ 0 (ix x))) = 0) => absurd (show ¬ finK (tM σ 0 (ix x)) by rw [e]; exact finK0) (fun z => z (b01_n h)))
      refine And.intro hv ?_
      refine And.intro (fun _ => ?_) (fun (h : ¬ b01 (sinK (tM σ 0 (ix x))) = 0) => absurd (show ¬ sinK (tM σ 0 (ix x)) by rw [e]; exact sinK0) (fun z => z (b01_n h)))
      refine And.intro hv ?_
      refine And.intro (fun _ => ?_) (fun (h : ¬ tM σ 0 (ix x) = 0) => absurd e h)
      rw [evs0 e] at hS
      exact hS
    · refine And.intro (fun _ => ?_) (fun (h : ¬ b01 (finK (tM σ 0 (ix x))) = 0) => absurd (show ¬ finK (tM σ 0 (ix x)) by rw [e]; exact finK1) (fun z => z (b01_n h)))
      refine And.intro hv ?_
      refine And.intro (fun _ => ?_) (fun (h : ¬ b01 (sinK (tM σ 0 (ix x))) = 0) => absurd (show ¬ sinK (tM σ 0 (ix x)) by rw [e]; exact sinK1) (fun z => z (b01_n h)))
      refine And.intro hv ?_
      refine And.intro (fun (h : tM σ 0 (ix x) = 0) => absurd (e.symm.trans h) (by decide)) (fun _ => ?_)
      refine And.intro (fun _ => ?_) (fun (h : ¬ tM σ 0 (ix x) = 1) => absurd e h)
      rw [evs1 e] at hS
      exact hS
    · refine And.intro (fun (h : b01 (finK (tM σ 0 (ix x))) = 0) => absurd (show finK (tM σ 0 (ix x)) by rw [e]; exact finK2) (b01_0 h)) (fun _ => ?_)
      refine And.intro (hk _ (Or.inl ⟨by rw [e]; exact finK2, rfl⟩)) ?_
      refine And.intro hv ?_
      refine And.intro (fun (h : b01 (sinK (tM σ 0 (ix x))) = 0) => absurd (show sinK (tM σ 0 (ix x)) by rw [e]; exact sinK2) (b01_0 h)) (fun _ => ?_)
      refine And.intro hv ?_
      refine And.intro (hk _ (Or.inr ⟨by rw [e]; exact sinK2, rfl⟩)) ?_
      refine And.intro hv ?_
      refine And.intro (fun (h : tM σ 0 (ix x) = 0) => absurd (e.symm.trans h) (by decide)) (fun _ => ?_)
      refine And.intro (fun (h : tM σ 0 (ix x) = 1) => absurd (e.symm.trans h) (by decide)) (fun _ => ?_)
      refine And.intro (fun _ => ?_) (fun (h : ¬ tM σ 0 (ix x) = 2) => absurd e h)
      rw [evs2 e] at hS
      exact hS
    · refine And.intro (fun (h : b01 (finK (tM σ 0 (ix x))) = 0) => absurd (show finK (tM σ 0 (ix x)) by rw [e]; exact finK3) (b01_0 h)) (fun _ => ?_)
      refine And.intro (hk _ (Or.inl ⟨by rw [e]; exact finK3, rfl⟩)) ?_
      refine And.intro hv ?_
      refine And.intro (fun (h : b01 (sinK (tM σ 0 (ix x))) = 0) => absurd (show sinK (tM σ 0 (ix x)) by rw [e]; exact sinK3) (b01_0 h)) (fun _ => ?_)
      refine And.intro hv ?_
      refine And.intro (hk _ (Or.inr ⟨by rw [e]; exact sinK3, rfl⟩)) ?_
      refine And.intro hv ?_
      refine And.intro (fun (h : tM σ 0 (ix x) = 0) => absurd (e.symm.trans h) (by decide)) (fun _ => ?_)
      refine And.intro (fun (h : tM σ 0 (ix x) = 1) => absurd (e.symm.trans h) (by decide)) (fun _ => ?_)
      refine And.intro (fun (h : tM σ 0 (ix x) = 2) => absurd (e.symm.trans h) (by decide)) (fun _ => ?_)
      refine And.intro (fun _ => ?_) (fun (h : ¬ tM σ 0 (ix x) = 3) => absurd e h)
      rw [evs3 e] at hS
      exact hS
    · refine And.intro (fun _ => ?_) (fun (h : ¬ b01 (finK (tM σ 0 (ix x))) = 0) => absurd (show ¬ finK (tM σ 0 (ix x)) by rw [e]; exact finK4) (fun z => z (b01_n h)))
      refine And.intro hv ?_
      refine And.intro (fun (h : b01 (sinK (tM σ 0 (ix x))) = 0) => absurd (show sinK (tM σ 0 (ix x)) by rw [e]; exact sinK4) (b01_0 h)) (fun _ => ?_)
      refine And.intro hv ?_
      refine And.intro (hk _ (Or.inr ⟨by rw [e]; exact sinK4, rfl⟩)) ?_
      refine And.intro hv ?_
      refine And.intro (fun (h : tM σ 0 (ix x) = 0) => absurd (e.symm.trans h) (by decide)) (fun _ => ?_)
      refine And.intro (fun (h : tM σ 0 (ix x) = 1) => absurd (e.symm.trans h) (by decide)) (fun _ => ?_)
      refine And.intro (fun (h : tM σ 0 (ix x) = 2) => absurd (e.symm.trans h) (by decide)) (fun _ => ?_)
      refine And.intro (fun (h : tM σ 0 (ix x) = 3) => absurd (e.symm.trans h) (by decide)) (fun _ => ?_)
      refine And.intro (fun _ => ?_) (fun (h : ¬ tM σ 0 (ix x) = 4) => absurd e h)
      rw [evs4 e] at hS
      exact hS
    · refine And.intro (fun (h : b01 (finK (tM σ 0 (ix x))) = 0) => absurd (show finK (tM σ 0 (ix x)) by rw [e]; exact finK5) (b01_0 h)) (fun _ => ?_)
      refine And.intro (hk _ (Or.inl ⟨by rw [e]; exact finK5, rfl⟩)) ?_
      refine And.intro hv ?_
      refine And.intro (fun (h : b01 (sinK (tM σ 0 (ix x))) = 0) => absurd (show sinK (tM σ 0 (ix x)) by rw [e]; exact sinK5) (b01_0 h)) (fun _ => ?_)
      refine And.intro hv ?_
      refine And.intro (hk _ (Or.inr ⟨by rw [e]; exact sinK5, rfl⟩)) ?_
      refine And.intro hv ?_
      refine And.intro (fun (h : tM σ 0 (ix x) = 0) => absurd (e.symm.trans h) (by decide)) (fun _ => ?_)
      refine And.intro (fun (h : tM σ 0 (ix x) = 1) => absurd (e.symm.trans h) (by decide)) (fun _ => ?_)
      refine And.intro (fun (h : tM σ 0 (ix x) = 2) => absurd (e.symm.trans h) (by decide)) (fun _ => ?_)
      refine And.intro (fun (h : tM σ 0 (ix x) = 3) => absurd (e.symm.trans h) (by decide)) (fun _ => ?_)
      refine And.intro (fun (h : tM σ 0 (ix x) = 4) => absurd (e.symm.trans h) (by decide)) (fun _ => ?_)
      refine And.intro (fun _ => ?_) (fun (h : ¬ tM σ 0 (ix x) = 5) => absurd e h)
      rw [evs5 e] at hS
      refine And.intro (fun (h : rd σ 18 0 (ix (tM σ 2 (ix x))) ≤ rd σ 18 0 (ix (tM σ 1 (ix x)))) => ?_) (fun (h : ¬ rd σ 18 0 (ix (tM σ 2 (ix x))) ≤ rd σ 18 0 (ix (tM σ 1 (ix x)))) => ?_)
      · rw [if_neg (Int32.not_lt.mpr h)] at hS; exact hS
      · rw [if_pos (Int32.not_le.mp h)] at hS; exact hS
    · refine And.intro (fun (h : b01 (finK (tM σ 0 (ix x))) = 0) => absurd (show finK (tM σ 0 (ix x)) by rw [e]; exact finK6) (b01_0 h)) (fun _ => ?_)
      refine And.intro (hk _ (Or.inl ⟨by rw [e]; exact finK6, rfl⟩)) ?_
      refine And.intro hv ?_
      refine And.intro (fun (h : b01 (sinK (tM σ 0 (ix x))) = 0) => absurd (show sinK (tM σ 0 (ix x)) by rw [e]; exact sinK6) (b01_0 h)) (fun _ => ?_)
      refine And.intro hv ?_
      refine And.intro (hk _ (Or.inr ⟨by rw [e]; exact sinK6, rfl⟩)) ?_
      refine And.intro hv ?_
      refine And.intro (fun (h : tM σ 0 (ix x) = 0) => absurd (e.symm.trans h) (by decide)) (fun _ => ?_)
      refine And.intro (fun (h : tM σ 0 (ix x) = 1) => absurd (e.symm.trans h) (by decide)) (fun _ => ?_)
      refine And.intro (fun (h : tM σ 0 (ix x) = 2) => absurd (e.symm.trans h) (by decide)) (fun _ => ?_)
      refine And.intro (fun (h : tM σ 0 (ix x) = 3) => absurd (e.symm.trans h) (by decide)) (fun _ => ?_)
      refine And.intro (fun (h : tM σ 0 (ix x) = 4) => absurd (e.symm.trans h) (by decide)) (fun _ => ?_)
      refine And.intro (fun (h : tM σ 0 (ix x) = 5) => absurd (e.symm.trans h) (by decide)) (fun _ => ?_)
      refine And.intro (fun _ => ?_) (fun (h : ¬ tM σ 0 (ix x) = 6) => absurd e h)
      rw [evs6 e] at hS
      refine And.intro (fun (h : ¬ rd σ 18 0 (ix (tM σ 1 (ix x))) = rd σ 18 0 (ix (tM σ 2 (ix x)))) => ?_) (fun (h : rd σ 18 0 (ix (tM σ 1 (ix x))) = rd σ 18 0 (ix (tM σ 2 (ix x)))) => ?_)
      · rw [if_neg h] at hS; exact hS
      · rw [if_pos h] at hS; exact hS
    · refine And.intro (fun _ => ?_) (fun (h : ¬ b01 (finK (tM σ 0 (ix x))) = 0) => absurd (show ¬ finK (tM σ 0 (ix x)) by rw [e]; exact finK7) (fun z => z (b01_n h)))
      refine And.intro hv ?_
      refine And.intro (fun (h : b01 (sinK (tM σ 0 (ix x))) = 0) => absurd (show sinK (tM σ 0 (ix x)) by rw [e]; exact sinK7) (b01_0 h)) (fun _ => ?_)
      refine And.intro hv ?_
      refine And.intro (hk _ (Or.inr ⟨by rw [e]; exact sinK7, rfl⟩)) ?_
      refine And.intro hv ?_
      refine And.intro (fun (h : tM σ 0 (ix x) = 0) => absurd (e.symm.trans h) (by decide)) (fun _ => ?_)
      refine And.intro (fun (h : tM σ 0 (ix x) = 1) => absurd (e.symm.trans h) (by decide)) (fun _ => ?_)
      refine And.intro (fun (h : tM σ 0 (ix x) = 2) => absurd (e.symm.trans h) (by decide)) (fun _ => ?_)
      refine And.intro (fun (h : tM σ 0 (ix x) = 3) => absurd (e.symm.trans h) (by decide)) (fun _ => ?_)
      refine And.intro (fun (h : tM σ 0 (ix x) = 4) => absurd (e.symm.trans h) (by decide)) (fun _ => ?_)
      refine And.intro (fun (h : tM σ 0 (ix x) = 5) => absurd (e.symm.trans h) (by decide)) (fun _ => ?_)
      refine And.intro (fun (h : tM σ 0 (ix x) = 6) => absurd (e.symm.trans h) (by decide)) (fun _ => ?_)
      refine And.intro (fun _ => ?_) (fun (h : ¬ tM σ 0 (ix x) = 7) => absurd e h)
      rw [evs7 e] at hS
      refine And.intro (fun (z : tM σ 1 (ix x) = 0) => absurd (hw.2.2.2.2.1 e) (by rw [z]; decide)) ?_
      refine And.intro (fun (h : ¬ rd σ 18 0 (ix (tM σ 2 (ix x))) - rd σ 18 0 (ix (tM σ 2 (ix x))) / tM σ 1 (ix x) * tM σ 1 (ix x) = 0) => ?_) (fun (h : rd σ 18 0 (ix (tM σ 2 (ix x))) - rd σ 18 0 (ix (tM σ 2 (ix x))) / tM σ 1 (ix x) * tM σ 1 (ix x) = 0) => ?_)
      · rw [if_neg h] at hS; exact hS
      · rw [if_pos h] at hS; exact hS
    · refine And.intro (fun (h : b01 (finK (tM σ 0 (ix x))) = 0) => absurd (show finK (tM σ 0 (ix x)) by rw [e]; exact finK8) (b01_0 h)) (fun _ => ?_)
      refine And.intro (hk _ (Or.inl ⟨by rw [e]; exact finK8, rfl⟩)) ?_
      refine And.intro hv ?_
      refine And.intro (fun _ => ?_) (fun (h : ¬ b01 (sinK (tM σ 0 (ix x))) = 0) => absurd (show ¬ sinK (tM σ 0 (ix x)) by rw [e]; exact sinK8) (fun z => z (b01_n h)))
      refine And.intro hv ?_
      refine And.intro (fun (h : tM σ 0 (ix x) = 0) => absurd (e.symm.trans h) (by decide)) (fun _ => ?_)
      refine And.intro (fun (h : tM σ 0 (ix x) = 1) => absurd (e.symm.trans h) (by decide)) (fun _ => ?_)
      refine And.intro (fun (h : tM σ 0 (ix x) = 2) => absurd (e.symm.trans h) (by decide)) (fun _ => ?_)
      refine And.intro (fun (h : tM σ 0 (ix x) = 3) => absurd (e.symm.trans h) (by decide)) (fun _ => ?_)
      refine And.intro (fun (h : tM σ 0 (ix x) = 4) => absurd (e.symm.trans h) (by decide)) (fun _ => ?_)
      refine And.intro (fun (h : tM σ 0 (ix x) = 5) => absurd (e.symm.trans h) (by decide)) (fun _ => ?_)
      refine And.intro (fun (h : tM σ 0 (ix x) = 6) => absurd (e.symm.trans h) (by decide)) (fun _ => ?_)
      refine And.intro (fun (h : tM σ 0 (ix x) = 7) => absurd (e.symm.trans h) (by decide)) (fun _ => ?_)
      refine And.intro (fun _ => ?_) (fun (h : ¬ tM σ 0 (ix x) = 8) => absurd e h)
      rw [evs8 e] at hS
      exact hS
    · refine And.intro (fun (h : b01 (finK (tM σ 0 (ix x))) = 0) => absurd (show finK (tM σ 0 (ix x)) by rw [e]; exact finK9) (b01_0 h)) (fun _ => ?_)
      refine And.intro (hk _ (Or.inl ⟨by rw [e]; exact finK9, rfl⟩)) ?_
      refine And.intro hv ?_
      refine And.intro (fun (h : b01 (sinK (tM σ 0 (ix x))) = 0) => absurd (show sinK (tM σ 0 (ix x)) by rw [e]; exact sinK9) (b01_0 h)) (fun _ => ?_)
      refine And.intro hv ?_
      refine And.intro (hk _ (Or.inr ⟨by rw [e]; exact sinK9, rfl⟩)) ?_
      refine And.intro hv ?_
      refine And.intro (fun (h : tM σ 0 (ix x) = 0) => absurd (e.symm.trans h) (by decide)) (fun _ => ?_)
      refine And.intro (fun (h : tM σ 0 (ix x) = 1) => absurd (e.symm.trans h) (by decide)) (fun _ => ?_)
      refine And.intro (fun (h : tM σ 0 (ix x) = 2) => absurd (e.symm.trans h) (by decide)) (fun _ => ?_)
      refine And.intro (fun (h : tM σ 0 (ix x) = 3) => absurd (e.symm.trans h) (by decide)) (fun _ => ?_)
      refine And.intro (fun (h : tM σ 0 (ix x) = 4) => absurd (e.symm.trans h) (by decide)) (fun _ => ?_)
      refine And.intro (fun (h : tM σ 0 (ix x) = 5) => absurd (e.symm.trans h) (by decide)) (fun _ => ?_)
      refine And.intro (fun (h : tM σ 0 (ix x) = 6) => absurd (e.symm.trans h) (by decide)) (fun _ => ?_)
      refine And.intro (fun (h : tM σ 0 (ix x) = 7) => absurd (e.symm.trans h) (by decide)) (fun _ => ?_)
      refine And.intro (fun (h : tM σ 0 (ix x) = 8) => absurd (e.symm.trans h) (by decide)) (fun _ => ?_)
      refine And.intro (fun _ => ?_) (fun (h : ¬ tM σ 0 (ix x) = 9) => absurd e h)
      rw [evs9 e] at hS
      exact hS
    · refine And.intro (fun (h : b01 (finK (tM σ 0 (ix x))) = 0) => absurd (show finK (tM σ 0 (ix x)) by rw [e]; exact finK10) (b01_0 h)) (fun _ => ?_)
      refine And.intro (hk _ (Or.inl ⟨by rw [e]; exact finK10, rfl⟩)) ?_
      refine And.intro hv ?_
      refine And.intro (fun (h : b01 (sinK (tM σ 0 (ix x))) = 0) => absurd (show sinK (tM σ 0 (ix x)) by rw [e]; exact sinK10) (b01_0 h)) (fun _ => ?_)
      refine And.intro hv ?_
      refine And.intro (hk _ (Or.inr ⟨by rw [e]; exact sinK10, rfl⟩)) ?_
      refine And.intro hv ?_
      refine And.intro (fun (h : tM σ 0 (ix x) = 0) => absurd (e.symm.trans h) (by decide)) (fun _ => ?_)
      refine And.intro (fun (h : tM σ 0 (ix x) = 1) => absurd (e.symm.trans h) (by decide)) (fun _ => ?_)
      refine And.intro (fun (h : tM σ 0 (ix x) = 2) => absurd (e.symm.trans h) (by decide)) (fun _ => ?_)
      refine And.intro (fun (h : tM σ 0 (ix x) = 3) => absurd (e.symm.trans h) (by decide)) (fun _ => ?_)
      refine And.intro (fun (h : tM σ 0 (ix x) = 4) => absurd (e.symm.trans h) (by decide)) (fun _ => ?_)
      refine And.intro (fun (h : tM σ 0 (ix x) = 5) => absurd (e.symm.trans h) (by decide)) (fun _ => ?_)
      refine And.intro (fun (h : tM σ 0 (ix x) = 6) => absurd (e.symm.trans h) (by decide)) (fun _ => ?_)
      refine And.intro (fun (h : tM σ 0 (ix x) = 7) => absurd (e.symm.trans h) (by decide)) (fun _ => ?_)
      refine And.intro (fun (h : tM σ 0 (ix x) = 8) => absurd (e.symm.trans h) (by decide)) (fun _ => ?_)
      refine And.intro (fun (h : tM σ 0 (ix x) = 9) => absurd (e.symm.trans h) (by decide)) (fun _ => ?_)
      rw [evs10 e] at hS
      exact hS
    all_goals (rw [e] at h10; exact absurd h10 (by decide))
theorem lg_cmp_ne {a b : Int64} : ¬ lg_cmp a b = 0 ↔ ¬ a = b := by
  unfold lg_cmp
  constructor
  · intro h e
    subst e
    exact h (by simp)
  · intro h
    by_cases hg : a > b
    · rw [if_pos hg]; decide
    · rw [if_neg hg, if_neg h]; decide
def S_give : SpecT := fun av σ Φ => match av with
  | [Sum.inr (Sum.inr (Sum.inr q)), Sum.inl x, Sum.inl s] => thisM q 11 (MI σ ∧ isN (tM σ) (nM σ) 0 10 x ∧ ∀ σ', eqx [18] σ σ' → Φ (some (aI (EV (tM σ) s (ix x)))) σ')
  | _ => False
set_option maxRecDepth 100000 in
theorem c_give (l : Launch) : Con l yX5_give cX5_give 4 (some .int) 3 3 S_give := by
  refine Con.of (by decide) (by decide) ?_
  intro p e s s0 a0 m args below meth c D ad cA A av σ Φ hlen hS hr X
  match av, hS with
  | [Sum.inr (Sum.inr (Sum.inr q)), Sum.inl x, Sum.inl s], hS =>
    obtain ⟨rfl, hS⟩ := thisM_out hS
    obtain ⟨⟨hn, hwf, hbl⟩, ⟨hx, -, hx10⟩, hS⟩ := hS
    have hxl := vp_lt hx
    have h60 := hn.2
    obtain ⟨hb1, hb2⟩ := hbl _ hxl hx10
    have ex : x = nI (ix x) := by
      obtain ⟨j, hj, e⟩ := vp_in_of hx (by omega)
      rw [e, ix, nI_clamp (by omega)]
    refine wp_meth (β := Nat) (ps := [2]) (N := 60) (N0 := 20) (fun _ => 2) (fun j => [some (aR 11 0), some (aI x), some (aI s), some (aI (nI j))]) (fun j σ' => j ≤ ix x + 1 ∧ eqx [18] σ σ' ∧ ∀ i, i < j → bit (rl σ 17 (ix x)) i → rd σ' 18 0 i = EV (tM σ) s i) (fun j _ => 61 - j) (tk_X5_give X hr (c_reckon l) (by omega)) ?_ ?_
    · rintro j σ' ⟨hj, he, hI⟩
      have ht := tM_eqx he (by decide)
      refine And.intro (fun (h1 : x < nI j) => ?_) (fun (h1 : ¬ x < nI j) => ?_)
      · refine And.intro (vp_mono hx h60) ?_
        have hjx : ix x < j := by
          rw [ex, nI_ltI (by omega) (by omega)] at h1
          exact h1
        have := hS σ' he
        rw [← hI (ix x) hjx hb1] at this
        exact this
      · have hjx : j ≤ ix x := by
          rw [ex, nI_ltI (by omega) (by omega)] at h1
          omega
        refine And.intro (vp_mono hx h60) ?_
        have hbe : rl σ' 17 (ix x) = rl σ 17 (ix x) := he.rl 17 (ix x)
        refine And.intro (fun (h2 : ¬ lg_cmp ((rl σ' 17 (ix x) >>> ((nI j).toInt64 &&& 63)) &&& 1) 1 = 0) => ?_) (fun (h2 : lg_cmp ((rl σ' 17 (ix x) >>> ((nI j).toInt64 &&& 63)) &&& 1) 1 = 0) => ?_)
        · rw [hbe, lg_cmp_ne] at h2
          refine ⟨j + 1, rfl, ⟨rfl, rfl, rfl, by rw [nI_succ]; rfl, trivial⟩, rfl, ⟨by omega, he, fun i hi hb => ?_⟩, by show 61 - (j + 1) < 61 - j; omega⟩
          by_cases hij : i = j
          · subst hij; exact absurd hb h2
          · exact hI i (by omega) hb
        · have h2 : bit (rl σ 17 (ix x)) j := by
            rw [hbe] at h2
            exact Classical.byContradiction fun z => lg_cmp_ne.mpr z h2
          obtain ⟨hj10, hjk⟩ := hb2 j hjx h2
          have hjn : j < nM σ := by omega
          have hwj := hwf.2 j hjn
          have hcl : ix (nI j) = j := nI_clamp (by omega)
          refine And.intro (vp_in_nI (by omega) (by omega)) (And.intro (by rw [ht, hcl]; exact hwj) (And.intro (by rw [hcl]; omega) (And.intro (by rw [ht, hcl]; exact hj10) ?_)))
          refine And.intro (vp_in_nI (by omega) (by omega)) ?_
          refine ⟨j + 1, rfl, ⟨rfl, rfl, rfl, by rw [nI_succ]; rfl, trivial⟩, rfl, ⟨by omega, he.wr (by decide), fun i hi hb => ?_⟩, by show 61 - (j + 1) < 61 - j; omega⟩
          rw [rd_wr]
          by_cases hij : i = j
          · subst hij
            rw [if_pos ⟨rfl, rfl, hcl.symm⟩, hcl, ht, EV_unf hwf s hjn hj10]
            refine evs_kid hwj.1.1 hj10 (fun y hy => ?_)
            exact hI _ (vp_lt (kid_chk hwj hj10 hy).1) (hjk y hy)
          · rw [if_neg (fun z => hij (z.2.2.trans hcl))]
            exact hI i (by omega) hb
    · exact ⟨0, rfl, ⟨rfl, rfl, rfl, rfl, trivial⟩, rfl, ⟨by omega, eqx.refl _ _, fun i hi => absurd hi (by omega)⟩, trivial⟩
def S_isTrue : SpecT := fun av σ Φ => match av with
  | [Sum.inr (Sum.inr (Sum.inr q)), Sum.inl x, Sum.inl s] => thisM q 11 (MI σ ∧ isN (tM σ) (nM σ) 5 10 x ∧ ∀ σ', eqx [18] σ σ' → Φ (some (aI (EV (tM σ) s (ix x)))) σ')
  | _ => False
set_option maxRecDepth 100000 in
theorem c_isTrue (l : Launch) : Con l yX5_isTrue cX5_isTrue 3 (some .boolean) 3 4 S_isTrue := by
  refine Con.of (by decide) (by decide) ?_
  intro p e s s0 a0 m args below meth c D ad cA A av σ Φ hlen hS hr X
  match av, hS with
  | [Sum.inr (Sum.inr (Sum.inr q)), Sum.inl x, Sum.inl s], hS =>
    obtain ⟨rfl, hS⟩ := thisM_out hS
    refine wp_sound (ps := []) (C := fun _ _ _ _ => False) (tk_X5_isTrue X hr (c_give l) (by omega)) (fun _ _ _ _ h => h.elim) 400 _ _ _ _ ?_
    obtain ⟨hM, hx, hS⟩ := hS
    have h01 := EV_01 hM.2.1 s 6 (ix x) (vp_lt hx.1) (hM.2.1.2 _ (vp_lt hx.1)).2.1.2 hx.2.1 hx.2.2
    refine And.intro hM (And.intro ⟨hx.1, Int32.le_trans (by decide) hx.2.1, hx.2.2⟩ (fun σ' he => ?_))
    have hS := hS σ' he
    refine And.intro (fun (h : ¬ EV (tM σ) s (ix x) = 1) => ?_) (fun (h : EV (tM σ) s (ix x) = 1) => ?_)
    · rcases h01 with z | z
      · rw [z] at hS; exact And.intro (Or.inl rfl) hS
      · exact absurd z h
    · rw [h] at hS; exact And.intro (Or.inr rfl) hS
/-- a store with a variable changed -/
def chg (s a v : Int32) : Int32 := (s &&& (15 <<< ((4 * a) &&& 31) ^^^ (-1))) ||| ((v &&& 15) <<< ((4 * a) &&& 31))
def S_changed : SpecT := fun av σ Φ => match av with
  | [Sum.inr (Sum.inr (Sum.inr q)), Sum.inl x, Sum.inl s] => thisM q 11 (MI σ ∧ isN (tM σ) (nM σ) 12 12 x ∧ ∀ σ', eqx [18] σ σ' → Φ (some (aI (chg s (tM σ 1 (ix x)) (EV (tM σ) s (ix (tM σ 2 (ix x))))))) σ')
  | _ => False
set_option maxRecDepth 100000 in
theorem c_changed (l : Launch) : Con l yX5_changed cX5_changed 4 (some .int) 3 4 S_changed := by
  refine Con.of (by decide) (by decide) ?_
  intro p e s s0 a0 m args below meth c D ad cA A av σ Φ hlen hS hr X
  match av, hS with
  | [Sum.inr (Sum.inr (Sum.inr q)), Sum.inl x, Sum.inl s], hS =>
    obtain ⟨rfl, hS⟩ := thisM_out hS
    refine wp_sound (ps := []) (C := fun _ _ _ _ => False) (tk_X5_changed X hr (c_give l) (by omega)) (fun _ _ _ _ h => h.elim) 400 _ _ _ _ ?_
    obtain ⟨hM, hx, hS⟩ := hS
    have hv := vp_mono hx.1 hM.1.2
    have hk : tM σ 0 (ix x) = 12 := Int32.le_antisymm hx.2.2 hx.2.1
    have hw := hM.2.1.2 _ (vp_lt hx.1)
    have hc := (hw.2.2.2.1 (Or.inr (Or.inr hk)))
    have hlt := vp_lt hx.1
    refine And.intro hv ?_
    refine And.intro hM (And.intro ⟨vp_mono hc.1 (by omega), hc.2.1, Int32.le_trans hc.2.2.1 (by decide)⟩ (fun σ' he => ?_))
    refine And.intro hv (And.intro hv ?_)
    have hS := hS σ' he
    have e1 : rd σ' 13 0 (ix x) = tM σ 1 (ix x) := he.1 13 0 (ix x) (by decide)
    rw [← e1] at hS
    exact hS
end
section
theorem Con.none {l : Launch} {y : MethodName} {cc : ByteArray} {maxL n lev : Nat} {ret : Option FieldType} {S : SpecT} (h : ∀ av σ Φ, ¬ S av σ Φ) : Con l y cc maxL ret n lev S := fun _ _ _ _ _ _ av σ Φ _ _ hS => absurd hS (h av σ Φ)
/-- the class's nodes are in order -/
def CI (σ : Mem) : Prop := oknC σ ∧ WF (tC σ) (nC σ)
def srt (x : Int32) : Int32 := if 5 ≤ x then (if 11 ≤ x then 7 else 6) else 5
def S_sortOf : SpecT := fun av σ Φ => match av with
  | [Sum.inl x] => Φ (some (aI (srt x))) σ
  | _ => False
set_option maxRecDepth 100000 in
theorem c_sortOf (l : Launch) : Con l yX2_sortOf cX2_sortOf 1 (some .int) 1 0 S_sortOf := by
  refine Con.of (by decide) (by decide) ?_
  intro p e s s0 a0 m args below meth c D ad cA A av σ Φ hlen hS hr X
  match av, hS with
  | [Sum.inl x], hS =>
    replace hS : Φ (some (aI (srt x))) σ := hS
    refine wp_sound (ps := []) (C := fun _ _ _ _ => False) (tk_X2_sortOf X hr) (fun _ _ _ _ h => h.elim) 400 _ _ _ _ ?_
    refine And.intro (fun h1 => ?_) (fun h1 => ?_)
    · refine And.intro (fun h2 => ?_) (fun h2 => ?_)
      · rw [srt, if_pos h1, if_pos h2] at hS; exact hS
      · rw [srt, if_pos h1, if_neg h2] at hS; exact hS
    · rw [srt, if_neg h1] at hS; exact hS
def S_has : SpecT := fun av σ Φ => match av with
  | [Sum.inr (Sum.inr (Sum.inr q)), Sum.inl x, Sum.inl r] => thisM q 1 (oknC σ ∧ Φ (some (aI (b01 (vp_in x (nC σ) ∧ srt (tC σ 0 (ix x)) = r)))) σ)
  | _ => False
set_option maxRecDepth 100000 in
theorem c_has (l : Launch) : Con l yX2_has cX2_has 3 (some .boolean) 3 1 S_has := by
  refine Con.of (by decide) (by decide) ?_
  intro p e s s0 a0 m args below meth c D ad cA A av σ Φ hlen hS hr X
  match av, hS with
  | [Sum.inr (Sum.inr (Sum.inr q)), Sum.inl x, Sum.inl r], hS =>
    obtain ⟨rfl, hS⟩ := thisM_out hS
    refine wp_sound (ps := []) (C := fun _ _ _ _ => False) (tk_X2_has X hr (c_sortOf l) (by omega)) (fun _ _ _ _ h => h.elim) 400 _ _ _ _ ?_
    obtain ⟨⟨hn, h60⟩, hS⟩ := hS
    have e0 : (0 : Int32).toInt = 0 := by decide
    have en : (nI (nC σ)).toInt = (nC σ : Int) := nI_toInt (by omega)
    refine And.intro (fun h1 => ?_) (fun h1 => ?_)
    · rw [b01_f (fun z => by
        have z1 := (vp_in_iff.mp z.1).1
        have := Int32.lt_iff_toInt_lt.mp h1
        omega)] at hS
      exact And.intro (Or.inl rfl) hS
    · refine And.intro (fun (h2 : rd σ 1 0 5 ≤ x) => ?_) (fun (h2 : ¬ rd σ 1 0 5 ≤ x) => ?_)
      · rw [b01_f (fun z => by
          have z1 := (vp_in_iff.mp z.1).2
          rw [hn] at h2
          have := Int32.le_iff_toInt_le.mp h2
          omega)] at hS
        exact And.intro (Or.inl rfl) hS
      · have hv : vp_in x (nC σ) := by
          rw [hn] at h2
          have a := Int32.lt_iff_toInt_lt.mp (Int32.not_le.mp h2)
          have b := Int32.le_iff_toInt_le.mp (Int32.not_lt.mp h1)
          exact vp_in_iff.mpr ⟨by omega, by omega⟩
        refine And.intro (vp_mono hv h60) ?_
        refine And.intro (fun (h3 : ¬ srt (tC σ 0 (ix x)) = r) => ?_) (fun (h3 : srt (tC σ 0 (ix x)) = r) => ?_)
        · rw [b01_f (fun z => h3 z.2)] at hS; exact And.intro (Or.inl rfl) hS
        · rw [b01_t ⟨hv, h3⟩] at hS; exact And.intro (Or.inr rfl) hS
theorem srt_le4 {x : Int32} (h : x ≤ 4) : srt x = 5 := by
  rw [srt, if_neg (fun z => absurd (Int32.le_trans z h) (by decide))]
theorem srt_10 {x : Int32} (h5 : 5 ≤ x) (h : x ≤ 10) : srt x = 6 := by
  rw [srt, if_pos h5, if_neg (fun z => absurd (Int32.le_trans z h) (by decide))]
theorem srt_15 {x : Int32} (h : 11 ≤ x) : srt x = 7 := by
  rw [srt, if_pos (Int32.le_trans (by decide) h), if_pos h]
theorem has_iff {t : Tbl} {n : Nat} (hw : WF t n) (x : Int32) : ((vp_in x n ∧ srt (t 0 (ix x)) = 5) ↔ isN t n 0 4 x) ∧ ((vp_in x n ∧ srt (t 0 (ix x)) = 6) ↔ isN t n 5 10 x) ∧ ((vp_in x n ∧ srt (t 0 (ix x)) = 7) ↔ isN t n 11 15 x) := by
  have key : vp_in x n → (srt (t 0 (ix x)) = 5 ↔ 0 ≤ t 0 (ix x) ∧ t 0 (ix x) ≤ 4) ∧ (srt (t 0 (ix x)) = 6 ↔ 5 ≤ t 0 (ix x) ∧ t 0 (ix x) ≤ 10) ∧ (srt (t 0 (ix x)) = 7 ↔ 11 ≤ t 0 (ix x) ∧ t 0 (ix x) ≤ 15) := by
    intro hv
    obtain ⟨h0, h15⟩ := (hw.2 _ (vp_lt hv)).1
    rcases i32_cases h0 h15 with e | e | e | e | e | e | e | e | e | e | e | e | e | e | e | e <;> rw [e] <;> decide
  refine ⟨⟨fun h => ⟨h.1, (key h.1).1.mp h.2⟩, fun h => ⟨h.1, (key h.1).1.mpr h.2⟩⟩, ⟨fun h => ⟨h.1, (key h.1).2.1.mp h.2⟩, fun h => ⟨h.1, (key h.1).2.1.mpr h.2⟩⟩, ⟨fun h => ⟨h.1, (key h.1).2.2.mp h.2⟩, fun h => ⟨h.1, (key h.1).2.2.mpr h.2⟩⟩⟩
def S_changedStore : SpecT := fun av σ Φ => match av with
  | [Sum.inl s, Sum.inl a, Sum.inl v] => Φ (some (aI (chg s a v))) σ
  | _ => False
set_option maxRecDepth 100000 in
theorem c_changedStore (l : Launch) : Con l yX4_changedStore cX4_changedStore 4 (some .int) 3 0 S_changedStore := by
  refine Con.of (by decide) (by decide) ?_
  intro p e s s0 a0 m args below meth c D ad cA A av σ Φ hlen hS hr X
  match av, hS with
  | [Sum.inl s, Sum.inl a, Sum.inl v], hS =>
    replace hS : Φ (some (aI (chg s a v))) σ := hS
    refine wp_sound (ps := []) (C := fun _ _ _ _ => False) (tk_X4_changedStore X hr) (fun _ _ _ _ h => h.elim) 400 _ _ _ _ ?_
    exact hS
def S_isStore : SpecT := fun av σ Φ => match av with
  | [Sum.inl s] => Φ (some (aI (b01 (0 ≤ s ∧ s ≤ 4095)))) σ
  | _ => False
set_option maxRecDepth 100000 in
theorem c_isStore (l : Launch) : Con l yX4_isStore cX4_isStore 1 (some .boolean) 1 0 S_isStore := by
  refine Con.of (by decide) (by decide) ?_
  intro p e s s0 a0 m args below meth c D ad cA A av σ Φ hlen hS hr X
  match av, hS with
  | [Sum.inl s], hS =>
    replace hS : Φ (some (aI (b01 (0 ≤ s ∧ s ≤ 4095)))) σ := hS
    refine wp_sound (ps := []) (C := fun _ _ _ _ => False) (tk_X4_isStore X hr) (fun _ _ _ _ h => h.elim) 400 _ _ _ _ ?_
    refine And.intro (fun h1 => ?_) (fun h1 => ?_)
    · rw [b01_f (fun z => absurd h1 (Int32.not_lt.mpr z.1))] at hS; exact And.intro (Or.inl rfl) hS
    · refine And.intro (fun h2 => ?_) (fun h2 => ?_)
      · rw [b01_f (fun z => absurd h2 (Int32.not_lt.mpr z.2))] at hS; exact And.intro (Or.inl rfl) hS
      · rw [b01_t ⟨Int32.not_lt.mp h1, Int32.not_lt.mp h2⟩] at hS; exact And.intro (Or.inr rfl) hS
def S_numberIn (d : Nat) : SpecT := fun av σ Φ => match av with
  | [Sum.inr (Sum.inr (Sum.inr q)), Sum.inl x, Sum.inl s] => thisM q 1 (CI σ ∧ isN (tC σ) (nC σ) 0 4 x ∧ hN (tC σ) (ix x) ≤ d ∧ Φ (some (aI (EV (tC σ) s (ix x)))) σ)
  | _ => False
set_option maxRecDepth 100000 in
theorem c_numberIn_s (l : Launch) (d : Nat) (ih : Con l yX2_numberIn cX2_numberIn 5 (some .int) 3 d (S_numberIn d)) : Con l yX2_numberIn cX2_numberIn 5 (some .int) 3 (d + 1) (S_numberIn (d + 1)) := by
  refine Con.of (by decide) (by decide) ?_
  intro p e s s0 a0 m args below meth c D ad cA A av σ Φ hlen hS hr X
  match av, hS with
  | [Sum.inr (Sum.inr (Sum.inr q)), Sum.inl x, Sum.inl s], hS =>
    obtain ⟨rfl, hS⟩ := thisM_out hS
    refine wp_sound (ps := []) (C := fun _ _ _ _ => False) (tk_X2_numberIn X hr (ih) (by omega)) (fun _ _ _ _ h => h.elim) 400 _ _ _ _ ?_
    obtain ⟨hC, hx, hd, hS⟩ := hS
    have hlt := vp_lt hx.1
    have hv := vp_mono hx.1 hC.1.2
    have hw := hC.2.2 _ hlt
    have h10 : tC σ 0 (ix x) ≤ 10 := Int32.le_trans hx.2.2 (by decide)
    have kidE : ∀ y, chk (tC σ) (ix x) 0 4 y → isN (tC σ) (nC σ) 0 4 y ∧ hN (tC σ) (ix y) ≤ d := fun y h => ⟨h.isN (by omega), by have := h.2.2.2; omega⟩
    have kidC : ∀ y, chk (tC σ) (ix x) 5 10 y → isN (tC σ) (nC σ) 5 10 y ∧ hN (tC σ) (ix y) ≤ d := fun y h => ⟨h.isN (by omega), by have := h.2.2.2; omega⟩
    rw [EV_unf hC.2 s hlt h10] at hS
    obtain ⟨⟨h0, h15⟩, -, hE, hB, h7, -, hCn, hCn2, -⟩ := hw
    refine And.intro hv (And.intro hv (And.intro hv ?_))
    rcases i32_cases h0 h15 with e | e | e | e | e | e | e | e | e | e | e | e | e | e | e | e
    · refine And.intro (fun _ => ?_) (fun (h : ¬ tC σ 0 (ix x) = 0) => absurd e h)
      rw [evs0 e] at hS
      exact hS
    · refine And.intro (fun (h : tC σ 0 (ix x) = 0) => absurd (e.symm.trans h) (by decide)) (fun _ => ?_)
      refine And.intro (fun _ => ?_) (fun (h : ¬ tC σ 0 (ix x) = 1) => absurd e h)
      rw [evs1 e] at hS
      exact hS
    · refine And.intro (fun (h : tC σ 0 (ix x) = 0) => absurd (e.symm.trans h) (by decide)) (fun _ => ?_)
      refine And.intro (fun (h : tC σ 0 (ix x) = 1) => absurd (e.symm.trans h) (by decide)) (fun _ => ?_)
      refine And.intro (fun _ => ?_) (fun (h : ¬ tC σ 0 (ix x) = 2) => absurd e h)
      rw [evs2 e] at hS
      obtain ⟨ha, hb⟩ := hE (Or.inl e)
      refine And.intro hC (And.intro (kidE _ ha).1 (And.intro (kidE _ ha).2 ?_))
      refine And.intro hC (And.intro (kidE _ hb).1 (And.intro (kidE _ hb).2 ?_))
      exact hS
    · refine And.intro (fun (h : tC σ 0 (ix x) = 0) => absurd (e.symm.trans h) (by decide)) (fun _ => ?_)
      refine And.intro (fun (h : tC σ 0 (ix x) = 1) => absurd (e.symm.trans h) (by decide)) (fun _ => ?_)
      refine And.intro (fun (h : tC σ 0 (ix x) = 2) => absurd (e.symm.trans h) (by decide)) (fun _ => ?_)
      refine And.intro (fun _ => ?_) (fun (h : ¬ tC σ 0 (ix x) = 3) => absurd e h)
      rw [evs3 e] at hS
      obtain ⟨ha, hb⟩ := hE (Or.inr (Or.inl e))
      refine And.intro hC (And.intro (kidE _ ha).1 (And.intro (kidE _ ha).2 ?_))
      refine And.intro hC (And.intro (kidE _ hb).1 (And.intro (kidE _ hb).2 ?_))
      exact hS
    · refine And.intro (fun (h : tC σ 0 (ix x) = 0) => absurd (e.symm.trans h) (by decide)) (fun _ => ?_)
      refine And.intro (fun (h : tC σ 0 (ix x) = 1) => absurd (e.symm.trans h) (by decide)) (fun _ => ?_)
      refine And.intro (fun (h : tC σ 0 (ix x) = 2) => absurd (e.symm.trans h) (by decide)) (fun _ => ?_)
      refine And.intro (fun (h : tC σ 0 (ix x) = 3) => absurd (e.symm.trans h) (by decide)) (fun _ => ?_)
      rw [evs4 e] at hS
      have hb := hB (Or.inl e)
      refine And.intro hC (And.intro (kidE _ hb).1 (And.intro (kidE _ hb).2 ?_))
      exact hS
    all_goals exact absurd hx.2.2 (by rw [e]; decide)
theorem c_numberIn_0 (l : Launch) : Con l yX2_numberIn cX2_numberIn 5 (some .int) 3 0 (S_numberIn 0) := Con.none (by
  intro av σ Φ hS
  match av, hS with
  | [Sum.inr (Sum.inr (Sum.inr q)), Sum.inl x, Sum.inl s], hS =>
    obtain ⟨rfl, hC, hx, hd, -⟩ := thisM_out hS
    have := (hC.2.2 _ (vp_lt hx.1)).2.1.1
    omega)
theorem c_numberIn (l : Launch) : ∀ d, Con l yX2_numberIn cX2_numberIn 5 (some .int) 3 d (S_numberIn d)
  | 0 => c_numberIn_0 l
  | d + 1 => c_numberIn_s l d (c_numberIn l d)
def S_isTrueIn (d : Nat) : SpecT := fun av σ Φ => match av with
  | [Sum.inr (Sum.inr (Sum.inr q)), Sum.inl x, Sum.inl s] => thisM q 1 (CI σ ∧ isN (tC σ) (nC σ) 5 10 x ∧ hN (tC σ) (ix x) ≤ d ∧ Φ (some (aI (EV (tC σ) s (ix x)))) σ)
  | _ => False
set_option maxRecDepth 100000 in
theorem c_isTrueIn_s (l : Launch) (d : Nat) (ih : Con l yX2_isTrueIn cX2_isTrueIn 5 (some .boolean) 3 (10 + d) (S_isTrueIn d)) : Con l yX2_isTrueIn cX2_isTrueIn 5 (some .boolean) 3 (10 + (d + 1)) (S_isTrueIn (d + 1)) := by
  refine Con.of (by decide) (by decide) ?_
  intro p e s s0 a0 m args below meth c D ad cA A av σ Φ hlen hS hr X
  match av, hS with
  | [Sum.inr (Sum.inr (Sum.inr q)), Sum.inl x, Sum.inl s], hS =>
    obtain ⟨rfl, hS⟩ := thisM_out hS
    refine wp_sound (ps := []) (C := fun _ _ _ _ => False) (tk_X2_isTrueIn X hr (c_numberIn l 6) (by omega) (ih) (by omega)) (fun _ _ _ _ h => h.elim) 400 _ _ _ _ ?_
    obtain ⟨hC, hx, hd, hS⟩ := hS
    have hlt := vp_lt hx.1
    have hv := vp_mono hx.1 hC.1.2
    have hw := hC.2.2 _ hlt
    have h10 : tC σ 0 (ix x) ≤ 10 := Int32.le_trans hx.2.2 (by decide)
    have kidE : ∀ y, chk (tC σ) (ix x) 0 4 y → isN (tC σ) (nC σ) 0 4 y ∧ hN (tC σ) (ix y) ≤ 6 := fun y h => ⟨h.isN (by omega), by have := h.2.2.2; have := hw.2.1.2; omega⟩
    have kidC : ∀ y, chk (tC σ) (ix x) 5 10 y → isN (tC σ) (nC σ) 5 10 y ∧ hN (tC σ) (ix y) ≤ d := fun y h => ⟨h.isN (by omega), by have := h.2.2.2; omega⟩
    have k01 : ∀ y, chk (tC σ) (ix x) 5 10 y → EV (tC σ) s (ix y) = 0 ∨ EV (tC σ) s (ix y) = 1 := fun y h => EV_01 hC.2 s 6 (ix y) (by have := vp_lt h.1; omega) (by have := h.2.2.2; have := hw.2.1.2; omega) h.2.1 h.2.2.1
    rw [EV_unf hC.2 s hlt h10] at hS
    obtain ⟨⟨h0, h15⟩, -, hE, hB, h7, -, hCn, hCn2, -⟩ := hw
    refine And.intro hv (And.intro hv (And.intro hv ?_))
    rcases i32_cases h0 h15 with e | e | e | e | e | e | e | e | e | e | e | e | e | e | e | e
    · exact absurd hx.2.1 (by rw [e]; decide)
    · exact absurd hx.2.1 (by rw [e]; decide)
    · exact absurd hx.2.1 (by rw [e]; decide)
    · exact absurd hx.2.1 (by rw [e]; decide)
    · exact absurd hx.2.1 (by rw [e]; decide)
    · refine And.intro (fun _ => ?_) (fun (h : ¬ tC σ 0 (ix x) = 5) => absurd e h)
      rw [evs5 e] at hS
      obtain ⟨ha, hb⟩ := hE (Or.inr (Or.inr (Or.inl e)))
      refine And.intro hC (And.intro (kidE _ ha).1 (And.intro (kidE _ ha).2 ?_))
      refine And.intro hC (And.intro (kidE _ hb).1 (And.intro (kidE _ hb).2 ?_))
      refine And.intro (fun (h : EV (tC σ) s (ix (tC σ 2 (ix x))) ≤ EV (tC σ) s (ix (tC σ 1 (ix x)))) => ?_) (fun (h : ¬ EV (tC σ) s (ix (tC σ 2 (ix x))) ≤ EV (tC σ) s (ix (tC σ 1 (ix x)))) => ?_)
      · rw [if_neg (Int32.not_lt.mpr h)] at hS; exact And.intro (Or.inl rfl) hS
      · rw [if_pos (Int32.not_le.mp h)] at hS; exact And.intro (Or.inr rfl) hS
    · refine And.intro (fun (h : tC σ 0 (ix x) = 5) => absurd (e.symm.trans h) (by decide)) (fun _ => ?_)
      refine And.intro (fun _ => ?_) (fun (h : ¬ tC σ 0 (ix x) = 6) => absurd e h)
      rw [evs6 e] at hS
      obtain ⟨ha, hb⟩ := hE (Or.inr (Or.inr (Or.inr e)))
      refine And.intro hC (And.intro (kidE _ ha).1 (And.intro (kidE _ ha).2 ?_))
      refine And.intro hC (And.intro (kidE _ hb).1 (And.intro (kidE _ hb).2 ?_))
      refine And.intro (fun (h : ¬ EV (tC σ) s (ix (tC σ 1 (ix x))) = EV (tC σ) s (ix (tC σ 2 (ix x)))) => ?_) (fun (h : EV (tC σ) s (ix (tC σ 1 (ix x))) = EV (tC σ) s (ix (tC σ 2 (ix x)))) => ?_)
      · rw [if_neg h] at hS; exact And.intro (Or.inl rfl) hS
      · rw [if_pos h] at hS; exact And.intro (Or.inr rfl) hS
    · refine And.intro (fun (h : tC σ 0 (ix x) = 5) => absurd (e.symm.trans h) (by decide)) (fun _ => ?_)
      refine And.intro (fun (h : tC σ 0 (ix x) = 6) => absurd (e.symm.trans h) (by decide)) (fun _ => ?_)
      refine And.intro (fun _ => ?_) (fun (h : ¬ tC σ 0 (ix x) = 7) => absurd e h)
      rw [evs7 e] at hS
      have hb := hB (Or.inr (Or.inl e))
      refine And.intro hC (And.intro (kidE _ hb).1 (And.intro (kidE _ hb).2 ?_))
      refine And.intro (fun (z : tC σ 1 (ix x) = 0) => absurd (h7 e) (by rw [z]; decide)) ?_
      refine And.intro (fun (h : ¬ EV (tC σ) s (ix (tC σ 2 (ix x))) - EV (tC σ) s (ix (tC σ 2 (ix x))) / tC σ 1 (ix x) * tC σ 1 (ix x) = 0) => ?_) (fun (h : EV (tC σ) s (ix (tC σ 2 (ix x))) - EV (tC σ) s (ix (tC σ 2 (ix x))) / tC σ 1 (ix x) * tC σ 1 (ix x) = 0) => ?_)
      · rw [if_neg h] at hS; exact And.intro (Or.inl rfl) hS
      · rw [if_pos h] at hS; exact And.intro (Or.inr rfl) hS
    · refine And.intro (fun (h : tC σ 0 (ix x) = 5) => absurd (e.symm.trans h) (by decide)) (fun _ => ?_)
      refine And.intro (fun (h : tC σ 0 (ix x) = 6) => absurd (e.symm.trans h) (by decide)) (fun _ => ?_)
      refine And.intro (fun (h : tC σ 0 (ix x) = 7) => absurd (e.symm.trans h) (by decide)) (fun _ => ?_)
      refine And.intro (fun _ => ?_) (fun (h : ¬ tC σ 0 (ix x) = 8) => absurd e h)
      rw [evs8 e] at hS
      have ha := hCn (Or.inl e)
      refine And.intro hC (And.intro (kidC _ ha).1 (And.intro (kidC _ ha).2 ?_))
      refine And.intro (fun (h : ¬ EV (tC σ) s (ix (tC σ 1 (ix x))) = 0) => ?_) (fun (h : EV (tC σ) s (ix (tC σ 1 (ix x))) = 0) => ?_)
      · rw [(k01 _ ha).resolve_left h] at hS; exact And.intro (Or.inl rfl) hS
      · rw [h] at hS; exact And.intro (Or.inr rfl) hS
    · refine And.intro (fun (h : tC σ 0 (ix x) = 5) => absurd (e.symm.trans h) (by decide)) (fun _ => ?_)
      refine And.intro (fun (h : tC σ 0 (ix x) = 6) => absurd (e.symm.trans h) (by decide)) (fun _ => ?_)
      refine And.intro (fun (h : tC σ 0 (ix x) = 7) => absurd (e.symm.trans h) (by decide)) (fun _ => ?_)
      refine And.intro (fun (h : tC σ 0 (ix x) = 8) => absurd (e.symm.trans h) (by decide)) (fun _ => ?_)
      refine And.intro (fun _ => ?_) (fun (h : ¬ tC σ 0 (ix x) = 9) => absurd e h)
      rw [evs9 e] at hS
      have ha := hCn (Or.inr (Or.inl e))
      have hb := hCn2 (Or.inl e)
      refine And.intro hC (And.intro (kidC _ ha).1 (And.intro (kidC _ ha).2 ?_))
      refine And.intro (fun (h : EV (tC σ) s (ix (tC σ 1 (ix x))) = 0) => ?_) (fun (h : ¬ EV (tC σ) s (ix (tC σ 1 (ix x))) = 0) => ?_)
      · rw [h, Int32.zero_and] at hS; exact And.intro (Or.inl rfl) hS
      · refine And.intro hC (And.intro (kidC _ hb).1 (And.intro (kidC _ hb).2 ?_))
        refine And.intro (fun (h2 : EV (tC σ) s (ix (tC σ 2 (ix x))) = 0) => ?_) (fun (h2 : ¬ EV (tC σ) s (ix (tC σ 2 (ix x))) = 0) => ?_)
        · rw [h2, Int32.and_zero] at hS; exact And.intro (Or.inl rfl) hS
        · rw [(k01 _ ha).resolve_left h, (k01 _ hb).resolve_left h2] at hS; exact And.intro (Or.inr rfl) hS
    · refine And.intro (fun (h : tC σ 0 (ix x) = 5) => absurd (e.symm.trans h) (by decide)) (fun _ => ?_)
      refine And.intro (fun (h : tC σ 0 (ix x) = 6) => absurd (e.symm.trans h) (by decide)) (fun _ => ?_)
      refine And.intro (fun (h : tC σ 0 (ix x) = 7) => absurd (e.symm.trans h) (by decide)) (fun _ => ?_)
      refine And.intro (fun (h : tC σ 0 (ix x) = 8) => absurd (e.symm.trans h) (by decide)) (fun _ => ?_)
      refine And.intro (fun (h : tC σ 0 (ix x) = 9) => absurd (e.symm.trans h) (by decide)) (fun _ => ?_)
      rw [evs10 e] at hS
      have ha := hCn (Or.inr (Or.inr e))
      have hb := hCn2 (Or.inr e)
      refine And.intro hC (And.intro (kidC _ ha).1 (And.intro (kidC _ ha).2 ?_))
      refine And.intro (fun (h : ¬ EV (tC σ) s (ix (tC σ 1 (ix x))) = 0) => ?_) (fun (h : EV (tC σ) s (ix (tC σ 1 (ix x))) = 0) => ?_)
      · rw [(k01 _ ha).resolve_left h] at hS
        rcases k01 _ hb with z | z <;> rw [z] at hS <;> exact And.intro (Or.inr rfl) hS
      · refine And.intro hC (And.intro (kidC _ hb).1 (And.intro (kidC _ hb).2 ?_))
        refine And.intro (fun (h2 : EV (tC σ) s (ix (tC σ 2 (ix x))) = 0) => ?_) (fun (h2 : ¬ EV (tC σ) s (ix (tC σ 2 (ix x))) = 0) => ?_)
        · rw [h, h2] at hS; exact And.intro (Or.inl rfl) hS
        · rw [h, (k01 _ hb).resolve_left h2] at hS; exact And.intro (Or.inr rfl) hS
    · exact absurd hx.2.2 (by rw [e]; decide)
    · exact absurd hx.2.2 (by rw [e]; decide)
    · exact absurd hx.2.2 (by rw [e]; decide)
    · exact absurd hx.2.2 (by rw [e]; decide)
    · exact absurd hx.2.2 (by rw [e]; decide)
theorem c_isTrueIn_0 (l : Launch) : Con l yX2_isTrueIn cX2_isTrueIn 5 (some .boolean) 3 (10 + 0) (S_isTrueIn 0) := Con.none (by
  intro av σ Φ hS
  match av, hS with
  | [Sum.inr (Sum.inr (Sum.inr q)), Sum.inl x, Sum.inl s], hS =>
    obtain ⟨rfl, hC, hx, hd, -⟩ := thisM_out hS
    have := (hC.2.2 _ (vp_lt hx.1)).2.1.1
    omega)
theorem c_isTrueIn (l : Launch) : ∀ d, Con l yX2_isTrueIn cX2_isTrueIn 5 (some .boolean) 3 (10 + d) (S_isTrueIn d)
  | 0 => c_isTrueIn_0 l
  | d + 1 => c_isTrueIn_s l d (c_isTrueIn l d)
end
