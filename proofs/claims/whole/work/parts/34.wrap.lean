/-! THE LAW'S OWN METHODS: they call the class, and catch what it throws -/
def ConH (l : Launch) (y : MethodName) (cc : ByteArray) (maxL : Nat) (ret : Option FieldType) (hh : List (Nat × Nat × Nat × Nat)) (n lev : Nat) (S : SpecT) : Prop :=
  ∀ (a0 : Array Value) (s0 : State) (D : va_G) (ad : Nat → Nat → Nat) (cA : Nat → ClassId) (sz : Nat) (av : List AV) (σ : Mem) (Φ : Post), va_Nc "java/lang/IllegalStateException" "java/lang/IllegalArgumentException" s0 → av.length = n → av.all c1w = true → S av σ Φ →
    vx_Met l y [.codeWith y cc maxL ret hh] (rmX lev) (PcW l a0 s0 D ad cA sz av σ) (QcW Φ D ad cA (va_A (wld ad cA σ) sz)) (fun _ _ _ => False) 1 6 (va_A (wld ad cA σ) sz)
theorem ConH.of {l : Launch} {y : MethodName} {cc : ByteArray} {maxL n lev : Nat} {ret : Option FieldType} {hh : List (Nat × Nat × Nat × Nat)} {S : SpecT} (hy : plainName y.cls = true) (hn : n ≤ maxL)
    (body : ∀ (p : Program) (e : Env) (s s0 : State) (a0 : Array Value) (m : MethodId) (args : Array Value) (below : List Frame) (meth : Method) (c : Code) (D : va_G) (ad : Nat → Nat → Nat) (cA : Nat → ClassId) (A : Nat → Prop) (av : List AV) (σ : Mem) (Φ : Post),
      va_Nc "java/lang/IllegalStateException" "java/lang/IllegalArgumentException" s0 → av.length = n → S av σ Φ → meth.sig.returnType = ret → c.exceptionTable.toList = tableOf hh → Cx p l s0 a0 s m args meth c cc maxL y.cls D ad cA A →
      K p l e (rmX lev) s m args below meth c D ad cA A maxL 0 0 (vx_MQ below (QcW Φ D ad cA A) (fun _ _ _ => False) args s 1 6 A) 0 (lv0 maxL av) [] σ) : ConH l y cc maxL ret hh n lev S := by
  intro a0 s0 D ad cA sz av σ Φ hnc hlen hc1 hS0
  refine vx_ofWH (cc := cc) (maxL := maxL) (ret := ret) (hh := hh) hy rfl ?_
  intro p e s m args below meth c s₁ B hml hv
  have htab : c.exceptionTable.toList = tableOf hh := vx_table (x := y) B (atoms_spec (ws := [.codeWith y cc maxL ret hh]) B.pre _ List.mem_cons_self)
  obtain ⟨rfl, hsz, hP, hK, hD0, hB, hge⟩ := hv
  have hown : s.vm.findClass y.cls = some m.cls := findClass_of_methodNamed B.named
  subst hsz
  have hD := hD0.self (sz := s.heap.size)
  have hA1 : ∀ q, va_A (wld ad cA σ) s.heap.size q → s0.heap.size ≤ q := by
    intro q hq
    rcases hq with ⟨k, e, h⟩ | h
    · exact hge _ (List.mem_of_getElem? h)
    · exact Nat.le_trans hB.2.2.1 h
  have hA2 : ∀ q : Nat, s.heap.size ≤ q → va_A (wld ad cA σ) s.heap.size q := fun q h => Or.inr h
  have X : Cx p l s0 a0 s m (av.map (conc ad)).toArray meth c cc maxL y.cls D ad cA (va_A (wld ad cA σ) s.heap.size) := ⟨B.exec, B.bytes, hml, hown, hK, hB, hA1, hA2, B.notSynchronized⟩
  have k := body p e s s0 a0 m (av.map (conc ad)).toArray below meth c D ad cA (va_A (wld ad cA σ) s.heap.size) av σ Φ hnc hlen hS0 B.returns htab X
  rw [lg_entry_eq]
  exact k _ _ [] (entry_has hc1 (by omega)) hP hD va_S.rf
section WRAP
variable {p : Program} {l : Launch} {e : Env} {R : Room} {s s0 : State} {a0 : Array Value} {m : MethodId} {args : Array Value} {below : List Frame} {meth : Method} {c : Code} {D : va_G} {ad : Nat → Nat → Nat} {cA : Nat → ClassId} {A : Nat → Prop} {nL cl sl : Nat} {Q : State → Prop} {cc : ByteArray} {own : String} {pc : Nat}
/-- behind a call that may throw -/
theorem Cx.backX (X : Cx p l s0 a0 s m args meth c cc nL own D ad cA A) {mc ms : Nat} {σ : Mem} {H : Heap} {locs : List Loc} {Φ : Post} {Ψ : PostX} {a : Array Value} {ls : Array Slot} {st0 : List Value} {rest : List AV}
    (hr : vx_Run p l e R s m args below meth c H locs cl sl mc ms (F0 m pc ls st0) (rest.map (conc ad)) (QcW Φ D ad cA (va_A (wld ad cA σ) H.size) a) (XcW Ψ D ad cA (va_A (wld ad cA σ) H.size)) (va_A (wld ad cA σ) H.size))
    (hD : va_D A (wld ad cA σ)) (hS : va_S A s.heap H locs)
    (kx : ∀ (E : String) (σ' : Mem) (H1 : Heap) (locs1 : List Loc) (q : Addr) (ce : Cell), Ψ E σ' → va_P D vwCl (wld ad cA σ') H1 → va_D A (wld ad cA σ') → va_S A s.heap H1 locs1 → H1[q]? = some ce → ce.vm = .none → s.vm.findClass E = some ce.cls → vx_W p l e R s m args below meth c H1 locs1 (cl + mc) (sl + ms) Q (F0 m pc ls (rest.map (conc ad))) q)
    (kk : ∀ (r : Option AV) (σ' : Mem) (H1 : Heap) (locs1 : List Loc), Φ r σ' → va_P D vwCl (wld ad cA σ') H1 → va_D A (wld ad cA σ') → va_S A s.heap H1 locs1 → W p l e R s m args below meth c H1 locs1 (cl + mc) (sl + ms) Q (F0 m (pc + 3) ls ((r.toList ++ rest).map (conc ad)))) :
    W p l e R s m args below meth c H locs cl sl Q (F0 m pc ls st0) := by
  intro T hT Y
  have hf := fun q h => X.free (q := q) hD hS h
  rcases hr T hT Y with ⟨v, st₀, t, T', L, h0, Y', hL, e1, e2, ⟨⟨r, σ', hv, hp, hP1, hK1, hD1⟩, hz, hk⟩, st⟩ | ⟨q, st₀, t, T', L, E, ce, h0, Y', hL, e1, e2, ⟨⟨σ', hp, hP1, hK1, hD1⟩, hz, hk⟩, hce, hcv, hcl, st⟩
  · rw [h0] at hz hk
    have hv2 : v = r.map (conc ad) := by
      injection hv
    obtain ⟨t2, a1, b1⟩ := kk r σ' T'.heap (locs ++ L) hp (by rw [e1]; exact hP1) (hD1.weaken (fun k q _ z => hf q.1 z))
      ⟨Nat.le_trans hS.1 (by rw [e1]; exact hz), fun q h1 h2 => by rw [e1, hk q (Nat.lt_of_lt_of_le h1 hS.1) (fun z => h2 (hf q z))]; exact hS.2.1 q h1 h2, fun q hq => by
        rcases List.mem_append.mp hq with h | h
        · exact hS.2.2 q h
        · exact hf _ (hL q h)⟩ T' rfl Y'
    refine ⟨t2, st t2 ?_, b1⟩
    have e3 : v.toList ++ rest.map (conc ad) = (r.toList ++ rest).map (conc ad) := by
      rw [hv2, List.map_append]
      cases r <;> rfl
    rw [e3]
    exact a1
  · rw [h0] at hz hk
    obtain ⟨t2, a1, b1⟩ := kx E σ' T'.heap (locs ++ L) q ce hp (by rw [e1]; exact hP1) (hD1.weaken (fun k q _ z => hf q.1 z))
      ⟨Nat.le_trans hS.1 (by rw [e1]; exact hz), fun q h1 h2 => by rw [e1, hk q (Nat.lt_of_lt_of_le h1 hS.1) (fun z => h2 (hf q z))]; exact hS.2.1 q h1 h2, fun q hq => by
        rcases List.mem_append.mp hq with h | h
        · exact hS.2.2 q h
        · exact hf _ (hL q h)⟩ (by rw [e1]; exact hce) hcv hcl T' rfl Y'
    exact ⟨t2, st.trans a1, b1⟩
/-- a call of n words that may throw: what comes back goes on at W2, what is thrown at WX -/
def tq_cx (ci n : Nat) (S : SpecX) (np : Nat) (W2 : Kt) (WX : PostX) : Tr := fun lv st σ _ =>
  cond (Nat.ble n st.length && Nat.ble st.length (n + 4) && (st.take n).all c1w && rcv ci (st.take n).reverse) (S (st.take n).reverse σ (fun r σ' => W2 np lv (r.toList ++ st.drop n) σ') WX) False
theorem sx_cx (X : Cx p l s0 a0 s m args meth c cc nL own D ad cA A) {y : MethodName} {bytes : ByteArray} {maxL n index lev ci : Nat} {ret : Option FieldType} {C : String} {S : SpecX} {W2 : Kt} {WX : PostX} (hM : ConX l y bytes maxL ret (n + 1) lev S) (hc : ∃ T N, vwCl[ci]? = some (C, T, N)) (hw : ∀ w ∈ wsV own index C y [.code y bytes maxL ret], w ∈ lw_tbl)
    (hd : y.cls = C ∧ y.cls ≠ "java/lang/invoke/MethodHandle" ∧ y.cls ≠ "java/lang/invoke/VarHandle" ∧ (parseMethodDescriptor y.desc).map (fun d => d.parameters.length) = some n) (hg : (wsV own index C y [.code y bytes maxL ret]).all goodWord = true) (hR : lev + 1 ≤ R.frames ∧ 8 + (maxL + 11) + 60 * lev ≤ R.locals) (hcl : cl + 1 ≤ R.cells ∧ sl + 6 ≤ R.slots)
    (h2 : ∀ pc lv st σ, W2 pc lv st σ → K p l e R s m args below meth c D ad cA A nL (cl + 1) (sl + 6) Q pc lv st σ)
    (hx : ∀ (lv : LV) (st : List AV) (E : String) (σ' : Mem) (ls : Array Slot) (H1 : Heap) (locs1 : List Loc) (q : Addr) (ce : Cell), lv_has ls nL (lvl ad 0 lv) → WX E σ' → va_P D vwCl (wld ad cA σ') H1 → va_D A (wld ad cA σ') → va_S A s.heap H1 locs1 → H1[q]? = some ce → ce.vm = .none → s.vm.findClass E = some ce.cls → vx_W p l e R s m args below meth c H1 locs1 (cl + 1) (sl + 6) Q (F0 m pc ls (st.map (conc ad))) q)
    (d : decode cc pc = .ok (.invokevirtual index, 3)) : Snd (K p l e R s m args below meth c D ad cA A nL cl sl Q) pc (tq_cx ci (n + 1) S (pc + 3) W2 WX) := by
  intro lv st σ k h hk ls H locs hl hP hD hS
  unfold tq_cx at h
  cases hb : (Nat.ble (n + 1) st.length && Nat.ble st.length (n + 1 + 4) && (st.take (n + 1)).all c1w && rcv ci (st.take (n + 1)).reverse) with
  | false => rw [hb] at h; exact h.elim
  | true =>
    rw [hb] at h
    simp only [cond] at h
    simp only [Bool.and_eq_true] at hb
    obtain ⟨⟨⟨h1, h2'⟩, h3⟩, h4⟩ := hb
    have h1 := Nat.le_of_ble_eq_true h1
    have h2' := Nat.le_of_ble_eq_true h2'
    obtain ⟨g, fs, As, e1, ho, hs⟩ := rcv_out h4
    have hlen : (st.take (n + 1)).reverse.length = n + 1 := by rw [List.length_reverse, List.length_take]; omega
    have hAs : As.length = n := by
      rw [e1] at hlen
      simpa using hlen
    have hall : ((st.take (n + 1)).reverse).all c1w = true := by rw [List.all_reverse]; exact h3
    rw [e1] at h hall
    have hst : st = As.reverse ++ aR g 0 :: st.drop (n + 1) := by
      have e2 : st.take (n + 1) = As.reverse ++ [aR g 0] := by
        rw [← List.reverse_reverse (st.take (n + 1)), e1]
        simp
      conv => lhs; rw [← List.take_append_drop (n + 1) st, e2]
      simp
    obtain ⟨T, N, hc⟩ := hc
    have hpre := fun U hU hW => X.pre hP hD hS U hU hW
    have hrecv : ∃ cellB : Cell, H[ad g 0]? = some cellB ∧ cellB.vm.isStatics = false ∧ s.vm.findClass C = some cellB.cls := by
      have he := wld_at (ad := ad) (cA := cA) (σ := σ) ho hs
      exact va_recv (q := (C, T, N)) X.2.2.2.2.1 hP (ci := ci) (q0 := pos g 0) hc he
    have hts := X.ws hw hg
    have run := vx_runV (cells := cl) (slots := sl) (p := p) (e := e) (R := R) (below := below) (meth := meth) (locs := locs) (Ts := wsV own index C y [.code y bytes maxL ret]) (g := F0 m pc ls (st.map (conc ad))) (As := As.map (conc ad)) (rest := (st.drop (n + 1)).map (conc ad)) (b := ad g 0) ⟨X.1, X.2.1, X.2.2.1, X.2.2.2.1, hts⟩
      (hM a0 s0 D ad cA H.size (aR g 0 :: As) σ _ _ (by simp [hAs]) hall h)
      (cwV n hts (fun w hw => ⟨hw, good_of_word (List.all_eq_true.mp hg w hw)⟩) rfl rfl rfl hd hR)
      ⟨PcW_blind, hrecv, fun U hU hW => ⟨rfl, by rw [hU], hpre U hU hW⟩⟩ rfl (by simp [hAs]) hl.1
      (by have z := congrArg (List.map (conc ad)) hst; rw [List.map_append, List.map_reverse, List.map_cons] at z; exact z) (lv_room (cat_sum _ (by rw [List.length_drop]; omega))) d ⟨hcl.1, hcl.2⟩
    refine X.backX run hD hS (fun E σ' H1 locs1 q ce hp hP1 hD1 hS1 hce hcv hcl => ?_) (fun r σ' H1 locs1 hp hP1 hD1 hS1 => ?_)
    · exact hx lv (st.drop (n + 1)) E σ' ls H1 locs1 q ce hl hp hP1 hD1 hS1 hce hcv hcl
    · exact h2 _ _ _ _ hp ls H1 locs1 hl hP1 hD1 hS1
/-- a handler: astore, iconst, ireturn -/
theorem sx_hn (X : Cx p l s0 a0 s m args meth c cc nL own D ad cA A) {Φ : Post} {XC : String → State → State → Prop} {h i q : Nat} {n : Int} {v : Int32} {ls : Array Slot} {H : Heap} {locs : List Loc} {lvs : List (Nat × Value)} {σ : Mem} (hr : meth.sig.returnType = some .int) (d1 : decode cc h = .ok (.astore i, 2)) (hv : Int32.ofInt n = v) (d2 : decode cc (h + 2) = .ok (.iconst n, 1)) (d3 : decode cc (h + 3) = .ok (.ireturn, 1)) (hi : i < nL)
    (hl : lv_has ls nL lvs) (hF : Φ (some (aI v)) σ) (hP : va_P D vwCl (wld ad cA σ) H) (hD : va_D A (wld ad cA σ)) (hS : va_S A s.heap H locs) : W p l e R s m args below meth c H locs 1 6 (vx_MQ below (QcW Φ D ad cA A) XC args s 1 6 A) (F0 m h ls [.ref q]) := by
  refine lv_astore X.1 X.2.1 d1 hl hi rfl (fun ls' hl' => ?_)
  refine lv_iconst X.1 X.2.1 d2 hv ?_
  exact vx_ret (W.iret (v := v) X.1 X.2.1 hr (X.fin (r := some (aI v)) hF hP hD hS) hS.2.2 d3 X.2.2.2.2.2.2.2.2)
theorem sx_hn1 (X : Cx p l s0 a0 s m args meth c cc nL own D ad cA A) {Φ : Post} {XC : String → State → State → Prop} {h i q : Nat} {j : Fin 4} {n : Int} {v : Int32} {ls : Array Slot} {H : Heap} {locs : List Loc} {lvs : List (Nat × Value)} {σ : Mem} (hr : meth.sig.returnType = some .int) (d1 : decode cc h = .ok (.astore_n j, 1)) (hj : (j : Nat) = i) (hv : Int32.ofInt n = v) (d2 : decode cc (h + 1) = .ok (.iconst n, 1)) (d3 : decode cc (h + 2) = .ok (.ireturn, 1)) (hi : i < nL)
    (hl : lv_has ls nL lvs) (hF : Φ (some (aI v)) σ) (hP : va_P D vwCl (wld ad cA σ) H) (hD : va_D A (wld ad cA σ)) (hS : va_S A s.heap H locs) : W p l e R s m args below meth c H locs 1 6 (vx_MQ below (QcW Φ D ad cA A) XC args s 1 6 A) (F0 m h ls [.ref q]) := by
  refine lv_astore_n X.1 X.2.1 d1 hj hl hi rfl (fun ls' hl' => ?_)
  refine lv_iconst X.1 X.2.1 d2 hv ?_
  exact vx_ret (W.iret (v := v) X.1 X.2.1 hr (X.fin (r := some (aI v)) hF hP hD hS) hS.2.2 d3 X.2.2.2.2.2.2.2.2)
theorem sh_iret (X : Cx p l s0 a0 s m args meth c cc nL own D ad cA A) {Φ : Post} {XC : String → State → State → Prop} (hr : meth.sig.returnType = some .int) (d : decode cc pc = .ok (.ireturn, 1)) : Snd (K p l e R s m args below meth c D ad cA A nL 1 6 (vx_MQ below (QcW Φ D ad cA A) XC args s 1 6 A)) pc (tq_iret Φ) := by
  intro lv st σ k h hk ls H locs hl hP hD hS
  match st, h with
  | [Sum.inl x], h => exact vx_ret (W.iret (v := x) X.1 X.2.1 hr (X.fin (r := some (aI x)) h hP hD hS) hS.2.2 d X.2.2.2.2.2.2.2.2)
theorem Cx.nc (X : Cx p l s0 a0 s m args meth c cc nL own D ad cA A) {C T : String} (h : va_Nc C T s0) : va_Nc C T s := va_Nc.moved X.2.2.2.2.2.1.2.1.alike h
end WRAP
