/-! THE CLAIM OUT OF ONE WALK OF THE LAW'S BODY. Your part is whole_start (and what it stands on); all else here is the same for every law, but numbers. -/
def R_law : String := "PromiseDeskLaw"
def lw_P (b : Addr) (xs : List Int32) (args : Array Value) (s : State) : Prop := args = #[.ref b] ∧ s.IntsAt b xs ∧ xs.length ≤ 2560 ∧ (Jvm.Cond.and given_1 narrow_1).before args s = true
def lw_Q (_ : Array Value) (s : State) (o : Outcome) (t : State) : Prop := o = .returned (some (.int 1)) ∧ Framed s o t [] 601024 7293034
def lw_Z (below : List Frame) (a : Array Value) (s : State) : State → Prop := fun t => ∃ o, t.status = .running ∧ Ended t below o ∧ lw_Q a s o t
/-- the law's own end, with 1 on the stack, nothing written that was there before, its room as the claim has it -/
theorem lw_ret {p : Program} {l : Launch} {e : Env} {s : State} {m : MethodId} {below : List Frame} {meth : Method} {c : Code} {b : Nat} (hx : p.tables.exec = Jvm.exec) (hb : c.code = code) (hr : meth.sig.returnType = ret) (hlocks : meth.locks = false) {pc : Nat} {H : Heap} {ls : Array Slot} (hdg : decode code pc = .ok (.ireturn, 1)) : W p l e room_1 s m #[Value.ref b] below meth c H [] 601024 7293034 (lw_Z below #[Value.ref b] s) (F0 m pc ls [.int 1]) := by
  intro T hT X
  obtain ⟨fs, hret, hrun, hended, hW, hframe⟩ := X.leave (v := some (.int 1)) (hlocks := hlocks) (fun h => by rw [hr] at h; cases h)
  have hmeth' : T.vm.method? m = some meth := X.method'
  refine ⟨T.setFrames fs, ?_, .returned (some (.int 1)), hrun, hended, rfl, ⟨_, rfl⟩, hW, hframe⟩
  jvm_step X.here [X.here.top, hx, hb, hdg, hmeth', hr, ret, narrow_b1]
  (try refine ⟨rfl, ?_⟩); (try refine ⟨rfl, ?_⟩)
  first | (intro acts; rw [hret _ acts rfl rfl rfl]) | rw [hret _ _ rfl rfl rfl]
  exact Steps.refl _
/-- what holds at the law's entry: the machine, the code, the tables' words (any of lw_tbl by 'hts w (by decide +kernel)'), the script of L ints xs at the cell b, what the Statement gives of the start (any of its parts by flat_of_before) -/
def lw_At (p : Program) (s : State) (m : MethodId) (meth : Method) (c : Code) (b L : Nat) (xs : Nat → Int32) : Prop :=
  p.tables.exec = Jvm.exec ∧ c.code = code ∧ meth.sig.returnType = ret ∧ c.maxLocals = 9 ∧ s.vm.findClass R_law = some m.cls ∧ (∀ w ∈ lw_tbl, w.before #[Value.ref b] s = true) ∧ va_X b L xs s s.heap ∧ b < s.heap.size ∧ meth.locks = false ∧ (Jvm.Cond.and given_1 narrow_1).before #[Value.ref b] s = true
section LAW
variable {p : Program} {l : Launch} {e : Env} {R : Room} {s s0 : State} {a0 : Array Value} {m : MethodId} {args : Array Value} {below : List Frame} {meth : Method} {c : Code} {D : va_G} {ad : Nat → Nat → Nat} {cA : Nat → ClassId} {A : Nat → Prop} {nL cl sl : Nat} {Q : State → Prop} {cc : ByteArray} {own : String} {pc : Nat}
/-- an int of the script -/
def tq_sl (L : Nat) (xs : Nat → Int32) (np : Nat) : Tr := fun lv st σ k => match st with
  | Sum.inl x :: Sum.inr (Sum.inr (Sum.inr (g, i))) :: r => cond (Nat.beq g 43 && Nat.beq i 0) (vp_in x L ∧ k np lv (aI (xs (ix x)) :: r) σ) False
  | _ => False
theorem sq_sl (X : Cx p l s0 a0 s m args meth c cc nL own D ad cA A) {L : Nat} {xs : Nat → Int32} (hX : va_X (ad 43 0) L xs s s.heap) (hbl : ad 43 0 < s.heap.size) (hbA : ¬ A (ad 43 0)) (d : decode cc pc = .ok (.iaload, 1)) : Snd (K p l e R s m args below meth c D ad cA A nL cl sl Q) pc (tq_sl L xs (pc + 1)) := by
  intro lv st σ k h hk ls H locs hl hP hD hS
  match st, h with
  | Sum.inl x :: Sum.inr (Sum.inr (Sum.inr (g, i))) :: r, h =>
    simp only [tq_sl] at h
    cases hb : (Nat.beq g 43 && Nat.beq i 0) with
    | false => rw [hb] at h; exact h.elim
    | true =>
      rw [hb] at h
      simp only [Bool.and_eq_true] at hb
      have h2 : g = 43 := Nat.eq_of_beq_eq_true hb.1
      have h3 : i = 0 := Nat.eq_of_beq_eq_true hb.2
      subst h2; subst h3
      exact va_sld X.1 X.2.1 hX hbl hbA hS h.1 d (hk _ _ _ _ h.2 ls H locs hl hP hD hS)
def tq_slen (L : Nat) (np : Nat) : Tr := fun lv st σ k => match st with
  | Sum.inr (Sum.inr (Sum.inr (g, i))) :: r => cond (Nat.beq g 43 && Nat.beq i 0) (k np lv (aI (nI L) :: r) σ) False
  | _ => False
theorem sq_slen (X : Cx p l s0 a0 s m args meth c cc nL own D ad cA A) {L : Nat} {xs : Nat → Int32} (hX : va_X (ad 43 0) L xs s s.heap) (hbl : ad 43 0 < s.heap.size) (hbA : ¬ A (ad 43 0)) (d : decode cc pc = .ok (.arraylength, 1)) : Snd (K p l e R s m args below meth c D ad cA A nL cl sl Q) pc (tq_slen L (pc + 1)) := by
  intro lv st σ k h hk ls H locs hl hP hD hS
  match st, h with
  | Sum.inr (Sum.inr (Sum.inr (g, i))) :: r, h =>
    simp only [tq_slen] at h
    cases hb : (Nat.beq g 43 && Nat.beq i 0) with
    | false => rw [hb] at h; exact h.elim
    | true =>
      rw [hb] at h
      simp only [Bool.and_eq_true] at hb
      have h2 : g = 43 := Nat.eq_of_beq_eq_true hb.1
      have h3 : i = 0 := Nat.eq_of_beq_eq_true hb.2
      subst h2; subst h3
      exact va_slen X.1 X.2.1 hX hbl hbA hS d (hk _ _ _ _ h ls H locs hl hP hD hS)
/-- the law's end -/
def tq_lret : Tr := fun _ st _ _ => match st with
  | [Sum.inl x] => x = 1
  | _ => False
theorem sq_lret {b : Nat} (X : Cx p l s a0 s m #[Value.ref b] meth c code 9 own D ad cA (fun q => s.heap.size ≤ q)) (hr : meth.sig.returnType = ret) (hcl : cl ≤ 601024 ∧ sl ≤ 7293034) (d : decode code pc = .ok (.ireturn, 1)) : Snd (K p l e room_1 s m #[Value.ref b] below meth c D ad cA (fun q => s.heap.size ≤ q) 9 cl sl (lw_Z below #[Value.ref b] s)) pc tq_lret := by
  intro lv st σ k h hk ls H locs hl hP hD hS
  match st, h with
  | [Sum.inl x], h =>
    replace h : x = 1 := h
    subst h
    refine va_forget (fun q hq => hS.2.2 q hq) ?_
    exact W.widen (k := 601024) (n := 7293034) hcl.1 hcl.2 (lw_ret X.1 X.2.1 hr X.2.2.2.2.2.2.2.2 d)
/-- a call of a static method with a table -/
def tq_ch (n : Nat) (S : SpecT) (np : Nat) (W2 : Kt) : Tr := fun lv st σ _ =>
  cond (Nat.ble n st.length && Nat.ble st.length (n + 4) && (st.take n).all c1w) (S (st.take n).reverse σ (fun r σ' => W2 np lv (r.toList ++ st.drop n) σ')) False
theorem sq_ch (X : Cx p l s0 a0 s m args meth c cc nL own D ad cA A) {y : MethodName} {bytes : ByteArray} {maxL n index lev : Nat} {ret : Option FieldType} {hh : List (Nat × Nat × Nat × Nat)} {S : SpecT} {W2 : Kt} (hM : ConH l y bytes maxL ret hh n lev S) (hnc : va_Nc "java/lang/IllegalStateException" "java/lang/IllegalArgumentException" s0) (hw : ∀ w ∈ va_wsS own index y [.codeWith y bytes maxL ret hh], w ∈ lw_tbl)
    (hd : y.cls ≠ "java/lang/invoke/MethodHandle" ∧ y.cls ≠ "java/lang/invoke/VarHandle" ∧ (parseMethodDescriptor y.desc).map (fun d => d.parameters.length) = some n) (hg : (va_wsS own index y [.codeWith y bytes maxL ret hh]).all goodWord = true) (hR : lev + 1 ≤ R.frames ∧ 8 + (maxL + 11) + 60 * lev ≤ R.locals) (hcl : cl + 1 ≤ R.cells ∧ sl + 6 ≤ R.slots)
    (h2 : ∀ pc lv st σ, W2 pc lv st σ → K p l e R s m args below meth c D ad cA A nL (cl + 1) (sl + 6) Q pc lv st σ)
    (d : decode cc pc = .ok (.invokestatic index, 3)) : Snd (K p l e R s m args below meth c D ad cA A nL cl sl Q) pc (tq_ch n S (pc + 3) W2) := by
  intro lv st σ k h hk ls H locs hl hP hD hS
  unfold tq_ch at h
  cases hb : (Nat.ble n st.length && Nat.ble st.length (n + 4) && (st.take n).all c1w) with
  | false => rw [hb] at h; exact h.elim
  | true =>
    rw [hb] at h
    simp only [cond] at h
    simp only [Bool.and_eq_true] at hb
    obtain ⟨⟨h1, h2'⟩, h3⟩ := hb
    have h1 := Nat.le_of_ble_eq_true h1
    have h2' := Nat.le_of_ble_eq_true h2'
    obtain ⟨As, e1⟩ : ∃ As, (st.take n).reverse = As := ⟨_, rfl⟩
    have hAs : As.length = n := by rw [← e1, List.length_reverse, List.length_take]; omega
    have hall : As.all c1w = true := by rw [← e1, List.all_reverse]; exact h3
    rw [e1] at h
    have hst : st = As.reverse ++ st.drop n := by
      rw [← e1, List.reverse_reverse, List.take_append_drop]
    have hpre := fun U hU hW => X.pre hP hD hS U hU hW
    have hts := X.ws hw hg
    have run := vx_runSX (cells := cl) (slots := sl) (p := p) (e := e) (R := R) (below := below) (meth := meth) (locs := locs) (Ts := va_wsS own index y [.codeWith y bytes maxL ret hh]) (g := F0 m pc ls (st.map (conc ad))) (As := As.map (conc ad)) (rest := (st.drop n).map (conc ad)) ⟨X.1, X.2.1, X.2.2.1, X.2.2.2.1, hts⟩
      (hM a0 s0 D ad cA H.size As σ _ hnc hAs hall h)
      (vx_cwSW n hts (fun w hw => ⟨hw, good_of_word (List.all_eq_true.mp hg w hw)⟩) rfl rfl rfl hd hR)
      ⟨PcW_blind, fun U hU hW => ⟨rfl, by rw [hU], hpre U hU hW⟩⟩ rfl (by simp [hAs]) hl.1
      (by have z := congrArg (List.map (conc ad)) hst; rw [List.map_append, List.map_reverse] at z; exact z) (lv_room (cat_sum _ (by rw [List.length_drop]; omega))) d ⟨hcl.1, hcl.2⟩
    have run2 : vx_Run p l e R s m args below meth c H locs cl sl 1 6 (F0 m pc ls (st.map (conc ad))) ((st.drop n).map (conc ad)) (QcW (fun r σ' => W2 (pc + 3) lv (r.toList ++ st.drop n) σ') D ad cA (va_A (wld ad cA σ) H.size) (As.map (conc ad)).toArray) (XcW (fun _ _ => False) D ad cA (va_A (wld ad cA σ) H.size)) (va_A (wld ad cA σ) H.size) := by
      intro T hT Y
      rcases run T hT Y with z | ⟨q, st₀, t, T', L, E, ce, h0, Y', hL, e1, e2, hf, -⟩
      · exact Or.inl z
      · exact hf.elim
    refine X.backX run2 hD hS (fun E σ' H1 locs1 q ce hp _ _ _ _ _ _ => hp.elim) (fun r σ' H1 locs1 hp hP1 hD1 hS1 => ?_)
    exact h2 _ _ _ _ hp ls H1 locs1 hl hP1 hD1 hS1
end LAW
theorem MD_wrl {σ : Mem} {Ds : List Duty} {v : Int64} (h : MD σ Ds) : MD (wrl σ 34 0 v) Ds := by
  have e : rl (wrl σ 34 0 v) 17 = rl σ 17 := by
    funext k
    show (if 17 = 34 ∧ k = 0 then v else rl σ 17 k) = _
    rw [if_neg (fun z => absurd z.1 (by decide))]
  have hM : MI (wrl σ 34 0 v) := ⟨h.1.1, h.1.2.1, by rw [e]; exact h.1.2.2⟩
  exact MD_of (σ := σ) (σ' := wrl σ 34 0 v) (fun _ _ _ => rfl) rfl hM (fun _ _ _ => rfl) (Nat.le_refl _) h
theorem INV_wrl {σ : Mem} {Ds : List Duty} {v : Int64} (h : INV σ Ds) : INV (wrl σ 34 0 v) Ds := ⟨h.1, h.2.1, (DSt_of (σ := σ) (σ' := wrl σ 34 0 v) (fun _ _ _ _ => rfl) h.2.2.1).1, MD_wrl h.2.2.2⟩
theorem INV_wrz {σ : Mem} {Ds : List Duty} {v : UInt64} (h : INV σ Ds) : INV (wrz σ 35 0 v) Ds := ⟨h.1, h.2.1, (DSt_of (σ := σ) (σ' := wrz σ 35 0 v) (fun _ _ _ _ => rfl) h.2.2.1).1, MD_of (σ := σ) (σ' := wrz σ 35 0 v) (fun _ _ _ => rfl) rfl ⟨h.2.2.2.1.1, h.2.2.2.1.2.1, h.2.2.2.1.2.2⟩ (fun _ _ _ => rfl) (Nat.le_refl _) h.2.2.2⟩
theorem rl_34 (σ : Mem) (v : Int64) : rl (wrl σ 34 0 v) 34 0 = v := by rw [rl_wrl, if_pos ⟨rfl, rfl⟩]
theorem rz_35 (σ : Mem) (v : UInt64) : rz (wrz σ 35 0 v) 35 0 = v := by simp [rz, wrz]
/-- a change of the reference's own cells -/
theorem INV_q {gs fs : List Nat} {σ σ' : Mem} {Ds : List Duty} (hI : INV σ Ds) (h : eqf gs fs σ σ') (hg : ∀ g ∈ gs, 17 < g ∧ g < 36) (h1 : 1 ∉ fs) (hM : MD σ' Ds) : INV σ' Ds := by
  obtain ⟨et, en, hD, hM0⟩ := hI
  obtain ⟨-, tm, nm⟩ := MI_eqf h (fun g q => Or.inr (hg g q).1) h1 hM0.1
  have f : ∀ g i k, g < 11 ∨ 36 ≤ g → rd σ' g i k = rd σ g i k := fun g i k hk => h.1 g i k (fun z => by have := hg g z; omega) (fun z => by omega)
  obtain ⟨hD', tc, nc⟩ := DSt_of (fun g i k hk => f g i k (by omega)) hD
  exact ⟨by rw [tc, tm, et], by rw [nc, nm, en], hD', hM⟩
theorem INV_q0 {gs fs : List Nat} {σ σ' : Mem} {Ds : List Duty} (hI : INV σ Ds) (h : eqf gs fs σ σ') (hg : ∀ g ∈ gs, g = 18 ∨ g = 33) (h1 : 1 ∉ fs) (h12 : 12 ∉ fs) : INV σ' Ds :=
  INV_q hI h (fun g z => by have := hg g z; omega) h1 (MD_eqf h (fun g z => by have := hg g z; omega) h1 h12 hI.2.2.2).1
theorem INV_7 {σ σ' : Mem} {Ds : List Duty} (hI : INV σ Ds) (h : eqx [7] σ σ') : INV σ' Ds := by
  obtain ⟨et, en, hD, hM0⟩ := hI
  have f : ∀ g i k, ¬ g = 7 → rd σ' g i k = rd σ g i k := fun g i k hk => h.1 g i k (fun z => hk (List.mem_singleton.mp z))
  obtain ⟨hD', tc, nc⟩ := DSt_of (fun g i k hk => f g i k (by omega)) hD
  obtain ⟨hM1, tm, nm⟩ := MD_eqf (h.f (hs := [7]) (fs := []) (fun g z => z)) (fun g z => by rw [List.mem_singleton.mp z]; omega) (by decide) (by decide) hM0
  exact ⟨by rw [tc, tm, et], by rw [nc, nm, en], hD', hM1⟩
theorem INV_promise {σ σ1 σ2 : Mem} {Ds All : List Duty} (hI : INV σ Ds) (h1 : eqG 0 0 σ σ1) (hD1 : DSt σ1 All) (hl : All.length ≤ 16) (hP : PRm All σ2) (h31 : ∀ i, i < All.length → rd σ2 31 0 i = 0) (h2 : eqf GP [0, 9, 12, 16, 17] σ1 σ2) : INV σ2 All := by
  obtain ⟨et, en, hD, hM⟩ := hI
  have f1 : ∀ g i k, g < 8 ∨ (10 < g ∧ g < 36) → rd σ1 g i k = rd σ g i k := fun g i k hk => h1.1 g i k (by omega) (by omega) (by omega)
  have tc1 : tC σ1 = tC σ := tC_of (fun g k _ _ => f1 g 0 k (by omega))
  have nc1 : nC σ1 = nC σ := by unfold nC; rw [f1 1 0 5 (by omega)]
  have tm1 : tM σ1 = tM σ := tM_of (fun g k _ _ => f1 g 0 k (by omega))
  have nm1 : nM σ1 = nM σ := by unfold nM; rw [f1 11 0 1 (by omega)]
  have l1 : rl σ1 17 = rl σ 17 := by funext k; show σ1.2.1 17 k = σ.2.1 17 k; rw [h1.2]
  have hM1 : MI σ1 := ⟨⟨by rw [f1 11 0 1 (by omega), nm1]; exact hM.1.1.1, by rw [nm1]; exact hM.1.1.2⟩, by rw [tm1, nm1]; exact hM.1.2.1, by rw [tm1, nm1, l1]; exact hM.1.2.2⟩
  obtain ⟨hM2, tm2, nm2⟩ := MI_eqf h2 (by decide) (by decide) hM1
  have f2 : ∀ g i k, g < 11 ∨ 32 ≤ g → rd σ2 g i k = rd σ1 g i k := fun g i k hk => h2.1 g i k (fun z => by simp only [GP, List.mem_cons, List.not_mem_nil, or_false] at z; omega) (fun z => by omega)
  obtain ⟨hD2, tc2, nc2⟩ := DSt_of (fun g i k hk => f2 g i k (by omega)) hD1
  refine ⟨by rw [tc2, tm2, tc1, tm1, et], by rw [nc2, nm2, nc1, nm1, en], hD2, hM2, hl, hP.1, ?_⟩
  obtain ⟨T, hT, hr⟩ := hP.2
  refine ⟨T, hT, fun i E hi => ⟨hr i E hi, ?_, Or.inl (h31 i (List.getElem?_eq_some_iff.mp hi).1)⟩⟩
  have := (hD1.2.2.2 i E hi).2
  rw [tm2, nm2, tm1, nm1, ← et, ← en, ← tc1, ← nc1]
  exact this
theorem MI_34 {σ : Mem} {Ds : List Duty} (h : INV σ Ds) : MI σ := h.2.2.2.1
