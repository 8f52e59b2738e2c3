/-! CONSTRUCTORS: the world is built cell by cell -/
def KB (p : Program) (l : Launch) (e : Env) (R : Room) (s : State) (m : MethodId) (args : Array Value) (below : List Frame) (meth : Method) (c : Code) (D : va_G) (A : Nat → Prop) (nL cl sl : Nat) (Q : State → Prop) (pc : Nat) (lvs : List (Nat × Value)) (st : List Value) (ws : va_W) : Prop :=
  ∀ (ls : Array Slot) (H : Heap) (locs : List Loc), lv_has ls nL lvs → va_P D vwCl ws H → va_D A ws → va_S A s.heap H locs → W p l e R s m args below meth c H locs cl sl Q (F0 m pc ls st)
def QI (P : va_W → Prop) (D : va_G) (cA : Nat → ClassId) (A : Nat → Prop) : Array Value → State → Outcome → State → Prop := fun _ st oc t =>
  (∃ w1 : va_W, oc = .returned none ∧ P w1 ∧ va_P D vwCl w1 t.heap ∧ va_K D vwCl (tysL cA) t ∧ va_D A w1) ∧ va_F A st t
def rmI (lev mc ms : Nat) : Room := { frames := lev, cells := mc, slots := ms, locals := 60 * lev }
def PI (l : Launch) (a0 : Array Value) (s0 : State) (D : va_G) (ad : Nat → Nat → Nat) (cA : Nat → ClassId) (sz : Nat) (w0 : va_W) (U : State) : Prop := U.heap.size = sz ∧ va_P D vwCl w0 U.heap ∧ va_K D vwCl (tysL cA) U ∧ va_D (fun _ => True) w0 ∧ Bs l a0 s0 ad U ∧ ∀ q ∈ w0, s0.heap.size ≤ q.1
/-- a constructor of class ci with the arguments vs -/
def ConI (l : Launch) (y : MethodName) (cc : ByteArray) (maxL lev mc ms ci : Nat) (f0 : List Value) (vs : List Value) (P : (Nat → ClassId) → Nat → va_W → Prop) : Prop :=
  ∀ (a0 : Array Value) (s0 : State) (D : va_G) (ad : Nat → Nat → Nat) (cA : Nat → ClassId) (sz h : Nat), Met l y [.code y cc maxL none] (rmI lev mc ms) (va_Pc (.ref h :: vs) (PI l a0 s0 D ad cA sz [(h, .inr (ci, f0))])) (QI (P cA h) D cA (va_A [(h, .inr (ci, f0))] sz)) mc ms (va_A [(h, .inr (ci, f0))] sz)
theorem PI_blind {l : Launch} {a0 : Array Value} {s0 : State} {D : va_G} {ad : Nat → Nat → Nat} {cA : Nat → ClassId} {sz : Nat} {w0 : va_W} {vs : List Value} : FrameBlind (va_Pc vs (PI l a0 s0 D ad cA sz w0)) := by
  intro a U g mk h
  obtain ⟨h1, h2, h3, h4, h5, ⟨h6, h7, h8⟩, h9⟩ := h
  exact ⟨h1, h2, h3, va_K.moved (u := U) (U := U.calling g mk a) (Vm.Alike.refl U.vm) h4, h5, ⟨h6, h7, h8⟩, h9⟩
theorem ConI.of {l : Launch} {y : MethodName} {cc : ByteArray} {maxL lev mc ms ci : Nat} {f0 vs : List Value} {P : (Nat → ClassId) → Nat → va_W → Prop} (hy : plainName y.cls = true) (hle : (∀ h : Nat, (lg_sl (.ref h :: vs)).length ≤ maxL) ∧ y.name = "<init>")
    (body : ∀ (p : Program) (e : Env) (s s0 : State) (a0 : Array Value) (m : MethodId) (args : Array Value) (below : List Frame) (meth : Method) (c : Code) (D : va_G) (ad : Nat → Nat → Nat) (cA : Nat → ClassId) (A : Nat → Prop) (h : Nat),
      meth.sig.returnType = none → meth.name = "<init>" → Cx p l s0 a0 s m args meth c cc maxL y.cls D ad cA A → ∀ (ls : Array Slot) (H : Heap), lv_has ls maxL (lv_args 0 (.ref h :: vs)) → va_P D vwCl [(h, .inr (ci, f0))] H → va_D A [(h, .inr (ci, f0))] → va_S A s.heap H [] → W p l e (rmI lev mc ms) s m args below meth c H [] 0 0 (MQ below (QI (P cA h) D cA A) args s mc ms A) (F0 m 0 ls [])) : ConI l y cc maxL lev mc ms ci f0 vs P := by
  intro a0 s0 D ad cA sz h
  refine Met.ofW (cc := cc) (maxL := maxL) (ret := none) hy rfl ?_
  intro p e s m args below meth c s₁ B hml hv
  obtain ⟨rfl, hsz, hP, hK, hD0, hB, hge⟩ := hv
  have hown : s.vm.findClass y.cls = some m.cls := findClass_of_methodNamed B.named
  subst hsz
  have hD := hD0.self (sz := s.heap.size)
  have hA1 : ∀ q, va_A [(h, .inr (ci, f0))] s.heap.size q → s0.heap.size ≤ q := by
    intro q hq
    rcases hq with ⟨k, e, hk⟩ | hq
    · exact hge _ (List.mem_of_getElem? hk)
    · exact Nat.le_trans hB.2.2.1 hq
  have hA2 : ∀ q : Nat, s.heap.size ≤ q → va_A [(h, .inr (ci, f0))] s.heap.size q := fun q z => Or.inr z
  have X : Cx p l s0 a0 s m (Value.ref h :: vs).toArray meth c cc maxL y.cls D ad cA (va_A [(h, .inr (ci, f0))] s.heap.size) := ⟨B.exec, B.bytes, hml, hown, hK, hB, hA1, hA2, B.notSynchronized⟩
  have hl := lv_entry (.ref h :: vs) (n := maxL) (hle.1 h)
  rw [lg_entry_eq]
  exact body p e s s0 a0 m _ below meth c D ad cA _ h B.returns ((name_of_methodNamed B.named B.method).1.trans hle.2) X _ _ hl hP hD va_S.rf
section BUILD
variable {p : Program} {l : Launch} {e : Env} {R : Room} {s s0 : State} {a0 : Array Value} {m : MethodId} {args : Array Value} {below : List Frame} {meth : Method} {c : Code} {D : va_G} {ad : Nat → Nat → Nat} {cA : Nat → ClassId} {A : Nat → Prop} {nL cl sl : Nat} {Q : State → Prop} {cc : ByteArray} {own : String} {pc : Nat} {ls : Array Slot} {H : Heap} {locs : List Loc} {ws : va_W} {rest : List Value}
theorem cA_eq {tys : List (ClassId × FieldType)} {k : Nat} {ty : FieldType} {cB : ClassId} (hK : va_K D vwCl tys s) (hk : tys[k]? = some (cB, ty)) {cN : ClassId} (hN : va_K D vwCl (tys ++ [(cN, ty)]) s) : cN = cB := by
  have h1 := (hK.2 k _ hk).2
  have h2 := (hN.2 tys.length (cN, ty) (by simp)).2
  dsimp only at h1 h2
  unfold va_RA at h1 h2
  split at h1
  · obtain ⟨-, -, -, -, -, q1⟩ := h1
    obtain ⟨-, -, -, -, -, q2⟩ := h2
    exact Option.some.inj (q2.symm.trans q1)
  · next hne =>
    split at h2
    · next C => exact absurd rfl (hne C)
    · exact Option.some.inj (h2.symm.trans h1)
/-- a new array -/
theorem b_newa (X : Cx p l s0 a0 s m args meth c cc nL own D ad cA A) {atype : ArrayType} {ty : FieldType} {k N : Nat} {n : Int32} {a1 : vp_A} (hw : Cond.arrayClass (newarray.typeOf atype) ∈ lw_tbl) (hg : goodWord (Cond.arrayClass (newarray.typeOf atype)) = true) (hty : newarray.typeOf atype = ty) (hk : (tysL cA)[k]? = some (cA k, ty)) (ha : ∀ cB : ClassId, vp_cell cB a1 = arrV cB N (fun _ => defaultValue ty)) (hn : ¬ n < 0) (hN : n.toNatClampNeg = N) (hbytes : N * componentBytes ty ≤ 536870912)
    (hcells : cl + 1 ≤ R.cells) (hslots : sl + N ≤ R.slots) (d : decode cc pc = .ok (.newarray atype, 2)) (hP : va_P D vwCl ws H) (hD : va_D A ws) (hS : va_S A s.heap H locs)
    (kk : ∀ (q : Nat) (H1 : Heap), va_P D vwCl (ws ++ [(q, .inl (cA k, a1))]) H1 → va_D A (ws ++ [(q, .inl (cA k, a1))]) → va_S A s.heap H1 locs → W p l e R s m args below meth c H1 locs (cl + 1) (sl + N) Q (F0 m (pc + 2) ls (.ref q :: rest))) : W p l e R s m args below meth c H locs cl sl Q (F0 m pc ls (.int n :: rest)) := by
  refine va_newa X.1 X.2.1 (X.w hw hg) hty X.2.2.2.2.1 hP hD hS X.2.2.2.2.2.2.2.1 ha hn hN hbytes hcells hslots d (fun q cN H1 hK1 hP1 hD1 hS1 => ?_)
  have e := cA_eq X.2.2.2.2.1 hk hK1
  subst e
  exact kk q H1 hP1 hD1 hS1
end BUILD
