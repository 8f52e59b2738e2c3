/-! CONTRACTS, CALLS, RETURNS, THE WALK OF A TABLE -/
def rmL (n : Nat) : Room := { frames := n, cells := 0, slots := 0, locals := 60 * n }
abbrev Post : Type := Option AV → Mem → Prop
abbrev SpecT : Type := List AV → Mem → Post → Prop
def WdU (l : Launch) (a0 : Array Value) (s0 : State) (D : va_G) (ad : Nat → Nat → Nat) (cA : Nat → ClassId) (σ : Mem) (U : State) : Prop :=
  va_P D vwCl (wld ad cA σ) U.heap ∧ va_K D vwCl (tysL cA) U ∧ va_D (fun _ => True) (wld ad cA σ) ∧ Bs l a0 s0 ad U ∧ ∀ q ∈ wld ad cA σ, s0.heap.size ≤ q.1
def PcW (l : Launch) (a0 : Array Value) (s0 : State) (D : va_G) (ad : Nat → Nat → Nat) (cA : Nat → ClassId) (sz : Nat) (av : List AV) (σ : Mem) : Array Value → State → Prop :=
  va_Pc (av.map (conc ad)) (fun U => U.heap.size = sz ∧ WdU l a0 s0 D ad cA σ U)
def QcW (Φ : Post) (D : va_G) (ad : Nat → Nat → Nat) (cA : Nat → ClassId) (A : Nat → Prop) : Array Value → State → Outcome → State → Prop := fun _ st oc t =>
  (∃ (r : Option AV) (σ' : Mem), oc = .returned (r.map (conc ad)) ∧ Φ r σ' ∧ va_P D vwCl (wld ad cA σ') t.heap ∧ va_K D vwCl (tysL cA) t ∧ va_D A (wld ad cA σ')) ∧ va_F A st t
/-- a one-word value -/
def c1w : AV → Bool
  | Sum.inl _ => true
  | Sum.inr (Sum.inr (Sum.inr _)) => true
  | _ => false
/-- THE CONTRACT of a method of n words (with its receiver) at a level of room -/
def Con (l : Launch) (y : MethodName) (cc : ByteArray) (maxL : Nat) (ret : Option FieldType) (n lev : Nat) (S : SpecT) : Prop :=
  ∀ (a0 : Array Value) (s0 : State) (D : va_G) (ad : Nat → Nat → Nat) (cA : Nat → ClassId) (sz : Nat) (av : List AV) (σ : Mem) (Φ : Post), av.length = n → av.all c1w = true → S av σ Φ →
    Met l y [.code y cc maxL ret] (rmL lev) (PcW l a0 s0 D ad cA sz av σ) (QcW Φ D ad cA (va_A (wld ad cA σ) sz)) 0 0 (va_A (wld ad cA σ) sz)
theorem PcW_blind {l : Launch} {a0 : Array Value} {s0 : State} {D : va_G} {ad : Nat → Nat → Nat} {cA : Nat → ClassId} {sz : Nat} {av : List AV} {σ : Mem} : FrameBlind (PcW l a0 s0 D ad cA sz av σ) := by
  intro a U g mk h
  obtain ⟨h1, h2, h3, h4, h5, ⟨h6, h7, h8⟩, h9⟩ := h
  exact ⟨h1, h2, h3, va_K.moved (u := U) (U := U.calling g mk a) (Vm.Alike.refl U.vm) h4, h5, ⟨h6, h7, h8⟩, h9⟩
theorem wld_fst {ad : Nat → Nat → Nat} {cA : Nat → ClassId} {σ σ' : Mem} : (wld ad cA σ).map Prod.fst = (wld ad cA σ').map Prod.fst := by
  simp only [wld, List.map_map]
  rfl
theorem wld_adr {ad : Nat → Nat → Nat} {cA : Nat → ClassId} {σ σ' : Mem} {P : Nat → Prop} (h : ∀ q ∈ wld ad cA σ, P q.1) : ∀ q ∈ wld ad cA σ', P q.1 := by
  intro q hq
  have h1 : q.1 ∈ (wld ad cA σ').map Prod.fst := List.mem_map.mpr ⟨q, hq, rfl⟩
  rw [wld_fst (σ' := σ)] at h1
  obtain ⟨q2, h2, h3⟩ := List.mem_map.mp h1
  rw [← h3]
  exact h q2 h2
section CALL
variable {p : Program} {l : Launch} {e : Env} {R : Room} {s s0 : State} {a0 : Array Value} {m : MethodId} {args : Array Value} {below : List Frame} {meth : Method} {c : Code} {D : va_G} {ad : Nat → Nat → Nat} {cA : Nat → ClassId} {A : Nat → Prop} {nL cl sl : Nat} {Q : State → Prop} {cc : ByteArray} {own : String} {pc : Nat}
/-- the world as a callee of y sees it -/
theorem Cx.pre (X : Cx p l s0 a0 s m args meth c cc nL own D ad cA A) {σ : Mem} {H : Heap} {locs : List Loc} (hP : va_P D vwCl (wld ad cA σ) H) (hD : va_D A (wld ad cA σ)) (hS : va_S A s.heap H locs) (U : State) (hU : U.heap = H) (hW : s.WarmedH U.vm) : WdU l a0 s0 D ad cA σ U := by
  obtain ⟨-, -, -, -, hK, ⟨b1, b2, b3, b4⟩, hA1, hA2, -⟩ := X
  refine ⟨by rw [hU]; exact hP, va_K.moved hW.alike hK, hD.weaken (fun _ _ _ _ => trivial), ⟨b1, State.WarmedH.trans b2 hW, ?_, ?_⟩, ?_⟩
  · rw [hU]; exact Nat.le_trans b3 hS.1
  · intro q hq
    rw [hU, hS.2.1 q (Nat.lt_of_lt_of_le hq b3) (fun z => absurd (hA1 q z) (Nat.not_le.mpr hq))]
    exact b4 q hq
  · intro q hq
    obtain ⟨k, hk⟩ := List.getElem?_of_mem hq
    exact hA1 _ (hD.2 k q hk)
theorem Cx.free (X : Cx p l s0 a0 s m args meth c cc nL own D ad cA A) {σ : Mem} {H : Heap} {locs : List Loc} (hD : va_D A (wld ad cA σ)) (hS : va_S A s.heap H locs) (q : Nat) (h : va_A (wld ad cA σ) H.size q) : A q := by
  rcases h with ⟨k, e, h⟩ | h
  · exact hD.2 k _ h
  · exact X.2.2.2.2.2.2.2.1 q (Nat.le_trans hS.1 h)
/-- behind a call -/
theorem Cx.back (X : Cx p l s0 a0 s m args meth c cc nL own D ad cA A) {mc ms : Nat} {σ : Mem} {H : Heap} {locs : List Loc} {Φ : Post} {a : Array Value} {ls : Array Slot} {st0 : List Value} {rest : List AV}
    (hr : va_Run p l e R s m args below meth c H locs cl sl mc ms (F0 m pc ls st0) (rest.map (conc ad)) (QcW Φ D ad cA (va_A (wld ad cA σ) H.size) a) (va_A (wld ad cA σ) H.size))
    (hD : va_D A (wld ad cA σ)) (hS : va_S A s.heap H locs)
    (kk : ∀ (r : Option AV) (σ' : Mem) (H1 : Heap) (locs1 : List Loc), Φ r σ' → va_P D vwCl (wld ad cA σ') H1 → va_D A (wld ad cA σ') → va_S A s.heap H1 locs1 → W p l e R s m args below meth c H1 locs1 (cl + mc) (sl + ms) Q (F0 m (pc + 3) ls ((r.toList ++ rest).map (conc ad)))) :
    W p l e R s m args below meth c H locs cl sl Q (F0 m pc ls st0) := by
  intro T hT Y
  obtain ⟨v, st₀, t, T', L, h0, Y', hL, e1, e2, ⟨⟨r, σ', hv, hp, hP1, hK1, hD1⟩, hz, hk⟩, st⟩ := hr T hT Y
  rw [h0] at hz hk
  have hf := fun q h => X.free (q := q) hD hS h
  have hv2 : v = r.map (conc ad) := by
    injection hv
  obtain ⟨t2, a1, b1⟩ := kk r σ' T'.heap (locs ++ L) hp (by rw [e1]; exact hP1) (hD1.weaken (fun k q _ z => hf q.1 z))
    ⟨Nat.le_trans hS.1 (by rw [e1]; exact hz), fun q h1 h2 => by rw [e1, hk q (Nat.lt_of_lt_of_le h1 hS.1) (fun z => h2 (hf q z))]; exact hS.2.1 q h1 h2, fun q hq => by
      rcases List.mem_append.mp hq with h | h
      · exact hS.2.2 q h
      · exact hf _ (hL q h)⟩ T' rfl Y'
  refine ⟨t2, st t2 ?_, b1⟩
  have e3 : v.toList ++ rest.map (conc ad) = (r.toList ++ rest).map (conc ad) := by
    rw [hv2, List.map_append]
    cases r <;> rfl
  rw [e3]
  exact a1
theorem cat_sum : ∀ (r : List AV), r.length ≤ 4 → ((r.map (conc ad)).map fun v => v.category).sum ≤ 8 := by
  intro r hr
  have h2 : ∀ a : AV, (conc ad a).category ≤ 2 := by
    intro a
    rcases a with x | x | x | x <;> simp [conc, Value.category]
  match r, hr with
  | [], _ => simp
  | [a], _ => have := h2 a; simp; omega
  | [a, b], _ => have := h2 a; have := h2 b; simp; omega
  | [a, b, d], _ => have := h2 a; have := h2 b; have := h2 d; simp; omega
  | [a, b, d, f], _ => have := h2 a; have := h2 b; have := h2 d; have := h2 f; simp; omega
  | a :: b :: d :: f :: g :: r, h => simp at h
/-- the receiver is the one object of class ci -/
def rcv (ci : Nat) : List AV → Bool
  | Sum.inr (Sum.inr (Sum.inr (g, i))) :: _ => Nat.blt g 36 && Nat.beq i 0 && (match shp g with
    | some (.inl o) => Nat.beq o.1 ci
    | _ => false)
  | _ => false
theorem rcv_out {ci : Nat} {av : List AV} (h : rcv ci av = true) : ∃ (g : Nat) (fs : List (Option Nat)) (r : List AV), av = aR g 0 :: r ∧ okT g 0 ∧ shp g = some (.inl (ci, fs)) := by
  match av, h with
  | Sum.inr (Sum.inr (Sum.inr (g, i))) :: r, h =>
    simp only [rcv, Bool.and_eq_true] at h
    obtain ⟨⟨h1, h2⟩, h3⟩ := h
    have hi : i = 0 := Nat.eq_of_beq_eq_true h2
    subst hi
    split at h3
    next o hs =>
      have ho : o.1 = ci := Nat.eq_of_beq_eq_true h3
      obtain ⟨o1, o2⟩ := o
      dsimp only at ho
      subst ho
      exact ⟨g, o2, r, rfl, Or.inl ⟨Nat.blt_eq.mp h1, rfl⟩, hs⟩
    next => cases h3
/-- a call of n words that doesn't throw -/
def tq_cv (ci n : Nat) (S : SpecT) (np : Nat) : Tr := fun lv st σ k =>
  cond (Nat.ble n st.length && Nat.ble st.length (n + 4) && (st.take n).all c1w && rcv ci (st.take n).reverse) (S (st.take n).reverse σ (fun r σ' => k np lv (r.toList ++ st.drop n) σ')) False
def tq_cs (n : Nat) (S : SpecT) (np : Nat) : Tr := fun lv st σ k =>
  cond (Nat.ble n st.length && Nat.ble st.length (n + 4) && (st.take n).all c1w) (S (st.take n).reverse σ (fun r σ' => k np lv (r.toList ++ st.drop n) σ')) False
theorem sq_cv (X : Cx p l s0 a0 s m args meth c cc nL own D ad cA A) {y : MethodName} {bytes : ByteArray} {maxL n index lev ci : Nat} {ret : Option FieldType} {C : String} {S : SpecT} (hM : Con l y bytes maxL ret (n + 1) lev S) (hc : ∃ T N, vwCl[ci]? = some (C, T, N)) (hw : ∀ w ∈ wsV own index C y [.code y bytes maxL ret], w ∈ lw_tbl)
    (hd : y.cls = C ∧ y.cls ≠ "java/lang/invoke/MethodHandle" ∧ y.cls ≠ "java/lang/invoke/VarHandle" ∧ (parseMethodDescriptor y.desc).map (fun d => d.parameters.length) = some n) (hg : (wsV own index C y [.code y bytes maxL ret]).all goodWord = true) (hR : lev + 1 ≤ R.frames ∧ 8 + (maxL + 11) + 60 * lev ≤ R.locals) (hcl : cl ≤ R.cells ∧ sl ≤ R.slots)
    (d : decode cc pc = .ok (.invokevirtual index, 3)) : Snd (K p l e R s m args below meth c D ad cA A nL cl sl Q) pc (tq_cv ci (n + 1) S (pc + 3)) := by
  intro lv st σ k h hk ls H locs hl hP hD hS
  unfold tq_cv at h
  cases hb : (Nat.ble (n + 1) st.length && Nat.ble st.length (n + 1 + 4) && (st.take (n + 1)).all c1w && rcv ci (st.take (n + 1)).reverse) with
  | false => rw [hb] at h; exact h.elim
  | true =>
    rw [hb] at h
    simp only [cond] at h
    simp only [Bool.and_eq_true] at hb
    obtain ⟨⟨⟨h1, h2⟩, h3⟩, h4⟩ := hb
    have h1 := Nat.le_of_ble_eq_true h1
    have h2 := Nat.le_of_ble_eq_true h2
    obtain ⟨g, fs, As, e1, ho, hs⟩ := rcv_out h4
    have hlen : (st.take (n + 1)).reverse.length = n + 1 := by rw [List.length_reverse, List.length_take]; omega
    have hAs : As.length = n := by
      rw [e1] at hlen
      simpa using hlen
    have hall : ((st.take (n + 1)).reverse).all c1w = true := by rw [List.all_reverse]; exact h3
    rw [e1] at h hall
    have hst : st = As.reverse ++ aR g 0 :: st.drop (n + 1) := by
      have e2 : st.take (n + 1) = As.reverse ++ [aR g 0] := by
        rw [← List.reverse_reverse (st.take (n + 1)), e1]
        simp
      conv => lhs; rw [← List.take_append_drop (n + 1) st, e2]
      simp
    obtain ⟨T, N, hc⟩ := hc
    have hpre := fun U hU hW => X.pre hP hD hS U hU hW
    have hrecv : ∃ cellB : Cell, H[ad g 0]? = some cellB ∧ cellB.vm.isStatics = false ∧ s.vm.findClass C = some cellB.cls := by
      have he := wld_at (ad := ad) (cA := cA) (σ := σ) ho hs
      exact va_recv (q := (C, T, N)) X.2.2.2.2.1 hP (ci := ci) (q0 := pos g 0) hc he
    have hts := X.ws hw hg
    have run := va_runV (cells := cl) (slots := sl) (p := p) (e := e) (R := R) (below := below) (meth := meth) (locs := locs) (Ts := wsV own index C y [.code y bytes maxL ret]) (g := F0 m pc ls (st.map (conc ad))) (As := As.map (conc ad)) (rest := (st.drop (n + 1)).map (conc ad)) (b := ad g 0) ⟨X.1, X.2.1, X.2.2.1, X.2.2.2.1, hts⟩
      (hM a0 s0 D ad cA H.size (aR g 0 :: As) σ _ (by simp [hAs]) hall h)
      (cwV n hts (fun w hw => ⟨hw, good_of_word (List.all_eq_true.mp hg w hw)⟩) rfl rfl rfl hd hR)
      ⟨PcW_blind, hrecv, fun U hU hW => ⟨rfl, by rw [hU], hpre U hU hW⟩⟩ rfl (by simp [hAs]) hl.1
      (by have z := congrArg (List.map (conc ad)) hst; rw [List.map_append, List.map_reverse, List.map_cons] at z; exact z) (lv_room (cat_sum _ (by rw [List.length_drop]; omega))) d ⟨hcl.1, hcl.2⟩
    refine X.back run hD hS (fun r σ' H1 locs1 hp hP1 hD1 hS1 => ?_)
    exact hk _ _ _ _ hp ls H1 locs1 hl hP1 hD1 hS1
theorem sq_cs (X : Cx p l s0 a0 s m args meth c cc nL own D ad cA A) {y : MethodName} {bytes : ByteArray} {maxL n index lev : Nat} {ret : Option FieldType} {S : SpecT} (hM : Con l y bytes maxL ret n lev S) (hw : ∀ w ∈ va_wsS own index y [.code y bytes maxL ret], w ∈ lw_tbl)
    (hd : y.cls ≠ "java/lang/invoke/MethodHandle" ∧ y.cls ≠ "java/lang/invoke/VarHandle" ∧ (parseMethodDescriptor y.desc).map (fun d => d.parameters.length) = some n) (hg : (va_wsS own index y [.code y bytes maxL ret]).all goodWord = true) (hR : lev + 1 ≤ R.frames ∧ 8 + (maxL + 11) + 60 * lev ≤ R.locals) (hcl : cl ≤ R.cells ∧ sl ≤ R.slots)
    (d : decode cc pc = .ok (.invokestatic index, 3)) : Snd (K p l e R s m args below meth c D ad cA A nL cl sl Q) pc (tq_cs n S (pc + 3)) := by
  intro lv st σ k h hk ls H locs hl hP hD hS
  unfold tq_cs at h
  cases hb : (Nat.ble n st.length && Nat.ble st.length (n + 4) && (st.take n).all c1w) with
  | false => rw [hb] at h; exact h.elim
  | true =>
    rw [hb] at h
    simp only [cond] at h
    simp only [Bool.and_eq_true] at hb
    obtain ⟨⟨h1, h2⟩, h3⟩ := hb
    have h1 := Nat.le_of_ble_eq_true h1
    have h2 := Nat.le_of_ble_eq_true h2
    obtain ⟨As, e1⟩ : ∃ As, (st.take n).reverse = As := ⟨_, rfl⟩
    have hAs : As.length = n := by rw [← e1, List.length_reverse, List.length_take]; omega
    have hall : As.all c1w = true := by rw [← e1, List.all_reverse]; exact h3
    rw [e1] at h
    have hst : st = As.reverse ++ st.drop n := by
      rw [← e1, List.reverse_reverse, List.take_append_drop]
    have hpre := fun U hU hW => X.pre hP hD hS U hU hW
    have hts := X.ws hw hg
    have run := va_runS (cells := cl) (slots := sl) (p := p) (e := e) (R := R) (below := below) (meth := meth) (locs := locs) (Ts := va_wsS own index y [.code y bytes maxL ret]) (g := F0 m pc ls (st.map (conc ad))) (As := As.map (conc ad)) (rest := (st.drop n).map (conc ad)) ⟨X.1, X.2.1, X.2.2.1, X.2.2.2.1, hts⟩
      (hM a0 s0 D ad cA H.size As σ _ hAs hall h)
      (va_cwS n hts (fun w hw => ⟨hw, good_of_word (List.all_eq_true.mp hg w hw)⟩) rfl rfl rfl hd hR)
      ⟨PcW_blind, fun U hU hW => ⟨rfl, by rw [hU], hpre U hU hW⟩⟩ rfl (by simp [hAs]) hl.1
      (by have z := congrArg (List.map (conc ad)) hst; rw [List.map_append, List.map_reverse] at z; exact z) (lv_room (cat_sum _ (by rw [List.length_drop]; omega))) d ⟨hcl.1, hcl.2⟩
    refine X.back run hD hS (fun r σ' H1 locs1 hp hP1 hD1 hS1 => ?_)
    exact hk _ _ _ _ hp ls H1 locs1 hl hP1 hD1 hS1
/-- a static method of a nest mate -/
theorem sq_cn (X : Cx p l s0 a0 s m args meth c cc nL own D ad cA A) {y : MethodName} {bytes : ByteArray} {maxL n index lev : Nat} {ret : Option FieldType} {host : String} {S : SpecT} (hM : Con l y bytes maxL ret n lev S) (hn : Cond.methodLinkNest own index y host ∈ lw_tbl) (hw : ∀ w ∈ ([.code y bytes maxL ret, .static y, .initialized y.cls] : List Cond), w ∈ lw_tbl)
    (hd : y.cls ≠ "java/lang/invoke/MethodHandle" ∧ y.cls ≠ "java/lang/invoke/VarHandle" ∧ (parseMethodDescriptor y.desc).map (fun d => d.parameters.length) = some n) (hg : ([.code y bytes maxL ret, .static y, .initialized y.cls] : List Cond).all goodWord = true) (hR : lev + 1 ≤ R.frames ∧ 8 + (maxL + 11) + 60 * lev ≤ R.locals) (hcl : cl ≤ R.cells ∧ sl ≤ R.slots)
    (d : decode cc pc = .ok (.invokestatic index, 3)) : Snd (K p l e R s m args below meth c D ad cA A nL cl sl Q) pc (tq_cs n S (pc + 3)) := by
  intro lv st σ k h hk ls H locs hl hP hD hS
  unfold tq_cs at h
  cases hb : (Nat.ble n st.length && Nat.ble st.length (n + 4) && (st.take n).all c1w) with
  | false => rw [hb] at h; exact h.elim
  | true =>
    rw [hb] at h
    simp only [cond] at h
    simp only [Bool.and_eq_true] at hb
    obtain ⟨⟨h1, h2⟩, h3⟩ := hb
    have h1 := Nat.le_of_ble_eq_true h1
    have h2 := Nat.le_of_ble_eq_true h2
    obtain ⟨As, e1⟩ : ∃ As, (st.take n).reverse = As := ⟨_, rfl⟩
    have hAs : As.length = n := by rw [← e1, List.length_reverse, List.length_take]; omega
    have hall : As.all c1w = true := by rw [← e1, List.all_reverse]; exact h3
    rw [e1] at h
    have hst : st = As.reverse ++ st.drop n := by
      rw [← e1, List.reverse_reverse, List.take_append_drop]
    have hpre := fun U hU hW => X.pre hP hD hS U hU hW
    have hts := X.ws hw hg
    have hnest : va_Nw (.methodLinkNest own index y host) s := va_Nw.warmM X.2.2.2.2.2.1.2.1 (va_Nw.of rfl (X.2.2.2.2.2.1.1.1 _ hn))
    have run := va_runSN (cells := cl) (slots := sl) (p := p) (e := e) (R := R) (below := below) (meth := meth) (locs := locs) (Ts := [.code y bytes maxL ret, .static y, .initialized y.cls]) (g := F0 m pc ls (st.map (conc ad))) (As := As.map (conc ad)) (rest := (st.drop n).map (conc ad)) ⟨X.1, X.2.1, X.2.2.1, X.2.2.2.1, hts⟩
      (hM a0 s0 D ad cA H.size As σ _ hAs hall h)
      ⟨va_cnB n hts (fun w hw => ⟨by simp only [List.mem_singleton] at hw; rw [hw]; exact List.mem_cons_self, good_of_word (List.all_eq_true.mp hg w (by simp only [List.mem_singleton] at hw; rw [hw]; exact List.mem_cons_self))⟩) rfl rfl rfl hnest (hts _ (by simp)) hd hR, hts _ (by simp), trivial⟩
      ⟨PcW_blind, fun U hU hW => ⟨rfl, by rw [hU], hpre U hU hW⟩⟩ rfl (by simp [hAs]) hl.1
      (by have z := congrArg (List.map (conc ad)) hst; rw [List.map_append, List.map_reverse] at z; exact z) (lv_room (cat_sum _ (by rw [List.length_drop]; omega))) d ⟨hcl.1, hcl.2⟩
    refine X.back run hD hS (fun r σ' H1 locs1 hp hP1 hD1 hS1 => ?_)
    exact hk _ _ _ _ hp ls H1 locs1 hl hP1 hD1 hS1
/-- the end of a method that doesn't throw -/
theorem Cx.fin (X : Cx p l s0 a0 s m args meth c cc nL own D ad cA A) {Φ : Post} {σ : Mem} {H : Heap} {locs : List Loc} {r : Option AV} (h : Φ r σ) (hP : va_P D vwCl (wld ad cA σ) H) (hD : va_D A (wld ad cA σ)) (hS : va_S A s.heap H locs) : ∀ t : State, t.heap = H → s.WarmedH t.vm → QcW Φ D ad cA A args s (.returned (r.map (conc ad))) t :=
  fun t ht hW => ⟨⟨r, σ, rfl, h, by rw [ht]; exact hP, va_K.moved hW.alike X.2.2.2.2.1, hD⟩, hS.F ht⟩
def tq_iret (Φ : Post) : Tr := fun _ st σ _ => match st with
  | [Sum.inl x] => Φ (some (aI x)) σ
  | _ => False
def tq_zret (Φ : Post) : Tr := fun _ st σ _ => match st with
  | [Sum.inl x] => (x = 0 ∨ x = 1) ∧ Φ (some (aI x)) σ
  | _ => False
def tq_dret (Φ : Post) : Tr := fun _ st σ _ => match st with
  | [Sum.inr (Sum.inr (Sum.inl x))] => Φ (some (aD x)) σ
  | _ => False
def tq_vret (Φ : Post) : Tr := fun _ st σ _ => match st with
  | [] => Φ none σ
  | _ => False
theorem sq_iret (X : Cx p l s0 a0 s m args meth c cc nL own D ad cA A) {Φ : Post} (hr : meth.sig.returnType = some .int) (d : decode cc pc = .ok (.ireturn, 1)) : Snd (K p l e R s m args below meth c D ad cA A nL cl sl (MQ below (QcW Φ D ad cA A) args s cl sl A)) pc (tq_iret Φ) := by
  intro lv st σ k h hk ls H locs hl hP hD hS
  match st, h with
  | [Sum.inl x], h => exact W.iret (v := x) X.1 X.2.1 hr (X.fin (r := some (aI x)) h hP hD hS) hS.2.2 d X.2.2.2.2.2.2.2.2
theorem sq_zret (X : Cx p l s0 a0 s m args meth c cc nL own D ad cA A) {Φ : Post} (hr : meth.sig.returnType = some .boolean) (d : decode cc pc = .ok (.ireturn, 1)) : Snd (K p l e R s m args below meth c D ad cA A nL cl sl (MQ below (QcW Φ D ad cA A) args s cl sl A)) pc (tq_zret Φ) := by
  intro lv st σ k h hk ls H locs hl hP hD hS
  match st, h with
  | [Sum.inl x], h => exact W.zret (v := x) X.1 X.2.1 hr (by rcases h.1 with rfl | rfl <;> rfl) (X.fin (r := some (aI x)) h.2 hP hD hS) hS.2.2 d X.2.2.2.2.2.2.2.2
theorem sq_dret (X : Cx p l s0 a0 s m args meth c cc nL own D ad cA A) {Φ : Post} (hr : meth.sig.returnType = some .double) (d : decode cc pc = .ok (.dreturn, 1)) : Snd (K p l e R s m args below meth c D ad cA A nL cl sl (MQ below (QcW Φ D ad cA A) args s cl sl A)) pc (tq_dret Φ) := by
  intro lv st σ k h hk ls H locs hl hP hD hS
  match st, h with
  | [Sum.inr (Sum.inr (Sum.inl x))], h => exact W.dret (v := x) X.1 X.2.1 hr (X.fin (r := some (aD x)) h hP hD hS) hS.2.2 d X.2.2.2.2.2.2.2.2
theorem sq_vret (X : Cx p l s0 a0 s m args meth c cc nL own D ad cA A) {Φ : Post} (hr : meth.sig.returnType = none) (d : decode cc pc = .ok (.return_, 1)) : Snd (K p l e R s m args below meth c D ad cA A nL cl sl (MQ below (QcW Φ D ad cA A) args s cl sl A)) pc (tq_vret Φ) := by
  intro lv st σ k h hk ls H locs hl hP hD hS
  match st, h with
  | [], h => exact W.vret X.1 X.2.1 hr (X.fin (r := none) h hP hD hS) hS.2.2 d X.2.2.2.2.2.2.2.2
/-! the walk of a table of transformers -/
def lk {α : Type} (n : Nat) : List (Nat × α) → Option α
  | [] => none
  | q :: r => cond (Nat.beq n q.1) (some q.2) (lk n r)
def isIn (n : Nat) : List Nat → Bool
  | [] => false
  | k :: r => cond (Nat.beq n k) true (isIn n r)
def wp (tab : List (Nat × Tr)) (ps : List Nat) (C : Kt) : Nat → Kt
  | 0 => fun _ _ _ _ => False
  | n + 1 => fun pc lv st σ => match lk pc tab with
    | none => False
    | some T => T lv st σ (fun pc' lv' st' σ' => cond (isIn pc' ps) (C pc' lv' st' σ') (wp tab ps C n pc' lv' st' σ'))
def tabOK (k0 : Kt) : List (Nat × Tr) → Prop
  | [] => True
  | q :: r => Snd k0 q.1 q.2 ∧ tabOK k0 r
theorem tabOK.at {k0 : Kt} {pc : Nat} {T : Tr} : ∀ {tab : List (Nat × Tr)}, tabOK k0 tab → lk pc tab = some T → Snd k0 pc T
  | [], _, h => by simp [lk] at h
  | q :: r, ht, h => by
    unfold lk at h
    cases hb : Nat.beq pc q.1 with
    | true =>
      rw [hb] at h
      simp only [cond, Option.some.injEq] at h
      subst h
      have e := Nat.eq_of_beq_eq_true hb
      subst e
      exact ht.1
    | false =>
      rw [hb] at h
      exact tabOK.at ht.2 h
theorem wp_sound {k0 : Kt} {tab : List (Nat × Tr)} {ps : List Nat} {C : Kt} (ht : tabOK k0 tab) (hC : ∀ pc lv st σ, C pc lv st σ → k0 pc lv st σ) : ∀ (n pc : Nat) (lv : LV) (st : List AV) (σ : Mem), wp tab ps C n pc lv st σ → k0 pc lv st σ
  | 0, _, _, _, _, h => h.elim
  | n + 1, pc, lv, st, σ, h => by
    simp only [wp] at h
    split at h
    next => exact h.elim
    next T hT =>
      refine ht.at hT lv st σ _ h (fun pc' lv' st' σ' h' => ?_)
      cases hb : isIn pc' ps with
      | true => rw [hb] at h'; exact hC _ _ _ _ h'
      | false => rw [hb] at h'; exact wp_sound ht hC n pc' lv' st' σ' h'
def subl : LV → LV → Prop
  | [], _ => True
  | none :: r, lv => subl r lv.tail
  | some a :: r, lv => lv.head? = some (some a) ∧ subl r lv.tail
theorem subl_get : ∀ (l1 l2 : LV) (j : Nat) (a : AV), subl l1 l2 → l1[j]? = some (some a) → l2[j]? = some (some a)
  | [], _, j, a, _, h => by simp at h
  | none :: r, lv, 0, a, _, h => by simp at h
  | none :: r, lv, j + 1, a, hs, h => by
    have := subl_get r lv.tail j a hs (by simpa using h)
    rw [List.getElem?_tail] at this
    exact this
  | some b :: r, lv, 0, a, hs, h => by
    simp at h
    subst h
    rw [← List.head?_eq_getElem?]
    exact hs.1
  | some b :: r, lv, j + 1, a, hs, h => by
    have := subl_get r lv.tail j a hs.2 (by simpa using h)
    rw [List.getElem?_tail] at this
    exact this
theorem K_sub {lv lv' : LV} {st : List AV} {σ : Mem} (hs : subl lv' lv) (h : (K p l e R s m args below meth c D ad cA A nL cl sl Q) pc lv' st σ) : (K p l e R s m args below meth c D ad cA A nL cl sl Q) pc lv st σ := by
  intro ls H locs hl hP hD hS
  refine h ls H locs (lv_mono hl (fun q hq => ?_)) hP hD hS
  obtain ⟨j, a, h1, h2⟩ := (mem_lvl _ 0).mp hq
  exact (mem_lvl _ 0).mpr ⟨j, a, subl_get _ _ j a hs h1, h2⟩
/-- where a loop is met again: its numbers, its invariant, its measure -/
def cutC {β : Type} (pcO : β → Nat) (Lf : β → LV) (I : β → Mem → Prop) (μ : β → Mem → Nat) (ok : Nat → Prop) : Kt := fun pc lv st σ => ∃ b, pcO b = pc ∧ subl (Lf b) lv ∧ st = [] ∧ I b σ ∧ ok (μ b σ)
theorem wp_loop {β : Type} {tab : List (Nat × Tr)} {ps : List Nat} {N : Nat} {pcO : β → Nat} {Lf : β → LV} {I : β → Mem → Prop} {μ : β → Mem → Nat} (ht : tabOK (K p l e R s m args below meth c D ad cA A nL cl sl Q) tab)
    (hl : ∀ b σ, I b σ → wp tab ps (cutC pcO Lf I μ (fun z => z < μ b σ)) N (pcO b) (Lf b) [] σ) : ∀ (n : Nat) (b : β) (σ : Mem), μ b σ < n → I b σ → (K p l e R s m args below meth c D ad cA A nL cl sl Q) (pcO b) (Lf b) [] σ := by
  intro n
  induction n with
  | zero => intro b σ h; omega
  | succ n ih =>
    intro b σ hm hI
    refine wp_sound ht (fun pc lv st σ' hC => ?_) N _ _ _ _ (hl b σ hI)
    obtain ⟨b', rfl, hs, rfl, hI', hlt⟩ := hC
    exact K_sub hs (ih b' σ' (by omega) hI')
theorem wp_meth {β : Type} {tab : List (Nat × Tr)} {ps : List Nat} {N N0 pc0 : Nat} {lv0 : LV} {st0 : List AV} {σ0 : Mem} (pcO : β → Nat) (Lf : β → LV) (I : β → Mem → Prop) (μ : β → Mem → Nat) (ht : tabOK (K p l e R s m args below meth c D ad cA A nL cl sl Q) tab)
    (hl : ∀ b σ, I b σ → wp tab ps (cutC pcO Lf I μ (fun z => z < μ b σ)) N (pcO b) (Lf b) [] σ) (he : wp tab ps (cutC pcO Lf I μ (fun _ => True)) N0 pc0 lv0 st0 σ0) : (K p l e R s m args below meth c D ad cA A nL cl sl Q) pc0 lv0 st0 σ0 := by
  refine wp_sound ht (fun pc lv st σ' hC => ?_) N0 _ _ _ _ he
  obtain ⟨b', rfl, hs, rfl, hI', -⟩ := hC
  exact K_sub hs (wp_loop ht hl _ b' σ' (Nat.lt_succ_self _) hI')
end CALL
/-- the locals with which a method begins -/
def lv0 (n : Nat) (av : List AV) : LV := av.map some ++ List.replicate (n - av.length) none
theorem lv_args_c1 {ad : Nat → Nat → Nat} : ∀ (av : List AV) (i : Nat), av.all c1w = true → ∀ (j : Nat) (a : AV), av[j]? = some a → (i + j, conc ad a) ∈ lv_args i (av.map (conc ad))
  | [], _, _, j, a, h => by simp at h
  | b :: r, i, hc, j, a, h => by
    simp only [List.all_cons, Bool.and_eq_true] at hc
    have hb : ¬ (conc ad b).category = 2 := by
      rcases b with x | x | x | x
      · simp [conc, Value.category]
      · simp [c1w] at hc
      · simp [c1w] at hc
      · simp [conc, Value.category]
    simp only [List.map_cons, lv_args, if_neg hb]
    cases j with
    | zero =>
      simp at h
      subst h
      exact List.mem_cons_self
    | succ j =>
      refine List.mem_cons_of_mem _ ?_
      have := lv_args_c1 (ad := ad) r (i + 1) hc.2 j a (by simpa using h)
      rwa [show i + (j + 1) = i + 1 + j by omega]
theorem sl_len {ad : Nat → Nat → Nat} : ∀ (av : List AV), av.all c1w = true → (lg_sl (av.map (conc ad))).length = av.length
  | [], _ => rfl
  | b :: r, hc => by
    simp only [List.all_cons, Bool.and_eq_true] at hc
    have hb : ¬ (conc ad b).category = 2 := by
      rcases b with x | x | x | x
      · simp [conc, Value.category]
      · simp [c1w] at hc
      · simp [c1w] at hc
      · simp [conc, Value.category]
    have := sl_len (ad := ad) r hc.2
    unfold lg_sl at this ⊢
    simp only [List.map_cons, List.flatMap_cons, if_neg hb, List.length_append, this, List.length_cons, List.length_nil]
    omega
theorem entry_has {ad : Nat → Nat → Nat} {av : List AV} {n : Nat} (hc : av.all c1w = true) (hn : av.length ≤ n) : lv_has ((lg_sl (av.map (conc ad)) ++ List.replicate (n - (lg_sl (av.map (conc ad))).length) Slot.unset).toArray) n (lvl ad 0 (lv0 n av)) := by
  refine lv_mono (lv_entry (av.map (conc ad)) (n := n) (by rw [sl_len av hc]; exact hn)) (fun q hq => ?_)
  obtain ⟨j, a, h1, rfl⟩ := (mem_lvl _ 0).mp hq
  have h2 : av[j]? = some a := by
    unfold lv0 at h1
    by_cases hj : j < av.length
    · rw [List.getElem?_append_left (by simpa using hj), List.getElem?_map] at h1
      cases hv : av[j]? with
      | none => rw [hv] at h1; simp at h1
      | some b => rw [hv] at h1; simpa using h1
    · rw [List.getElem?_append_right (by simpa using hj)] at h1
      rw [List.getElem?_replicate] at h1
      split at h1 <;> simp at h1
  exact lv_args_c1 av 0 hc j a h2
/-- a contract out of the walk of its body -/
theorem Con.of {l : Launch} {y : MethodName} {cc : ByteArray} {maxL n lev : Nat} {ret : Option FieldType} {S : SpecT} (hy : plainName y.cls = true) (hn : n ≤ maxL)
    (body : ∀ (p : Program) (e : Env) (s s0 : State) (a0 : Array Value) (m : MethodId) (args : Array Value) (below : List Frame) (meth : Method) (c : Code) (D : va_G) (ad : Nat → Nat → Nat) (cA : Nat → ClassId) (A : Nat → Prop) (av : List AV) (σ : Mem) (Φ : Post),
      av.length = n → S av σ Φ → meth.sig.returnType = ret → Cx p l s0 a0 s m args meth c cc maxL y.cls D ad cA A →
      K p l e (rmL lev) s m args below meth c D ad cA A maxL 0 0 (MQ below (QcW Φ D ad cA A) args s 0 0 A) 0 (lv0 maxL av) [] σ) : Con l y cc maxL ret n lev S := by
  intro a0 s0 D ad cA sz av σ Φ hlen hc1 hS0
  refine Met.ofW (cc := cc) (maxL := maxL) (ret := ret) hy rfl ?_
  intro p e s m args below meth c s₁ B hml hv
  obtain ⟨rfl, hsz, hP, hK, hD0, hB, hge⟩ := hv
  have hown : s.vm.findClass y.cls = some m.cls := findClass_of_methodNamed B.named
  subst hsz
  have hD := hD0.self (sz := s.heap.size)
  have hA1 : ∀ q, va_A (wld ad cA σ) s.heap.size q → s0.heap.size ≤ q := by
    intro q hq
    rcases hq with ⟨k, e, h⟩ | h
    · exact hge _ (List.mem_of_getElem? h)
    · exact Nat.le_trans hB.2.2.1 h
  have hA2 : ∀ q : Nat, s.heap.size ≤ q → va_A (wld ad cA σ) s.heap.size q := fun q h => Or.inr h
  have X : Cx p l s0 a0 s m (av.map (conc ad)).toArray meth c cc maxL y.cls D ad cA (va_A (wld ad cA σ) s.heap.size) := ⟨B.exec, B.bytes, hml, hown, hK, hB, hA1, hA2, B.notSynchronized⟩
  have k := body p e s s0 a0 m (av.map (conc ad)).toArray below meth c D ad cA (va_A (wld ad cA σ) s.heap.size) av σ Φ hlen hS0 B.returns X
  rw [lg_entry_eq]
  exact k _ _ [] (entry_has hc1 (by omega)) hP hD va_S.rf
