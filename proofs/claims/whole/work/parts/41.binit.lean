section INITS
variable {p : Program} {l : Launch} {e : Env} {R : Room} {s s0 : State} {a0 : Array Value} {m : MethodId} {args : Array Value} {below : List Frame} {meth : Method} {c : Code} {D : va_G} {ad : Nat → Nat → Nat} {cA : Nat → ClassId} {A : Nat → Prop} {nL cl sl : Nat} {Q : State → Prop} {cc : ByteArray} {own : String} {pc : Nat} {ls : Array Slot} {H : Heap} {locs : List Loc} {rest : List Value}
theorem P_left {D : va_G} {a b : va_W} {H : Heap} (h : va_P D vwCl (a ++ b) H) : va_P D vwCl a H := fun k q hk => h k q (by rw [List.getElem?_append_left (List.getElem?_eq_some_iff.mp hk).1]; exact hk)
theorem P_last {D : va_G} {a : va_W} {x : Nat × va_E} {H : Heap} (h : va_P D vwCl (a ++ [x]) H) : va_P D vwCl [x] H := fun k q hk => by
  have hl := (List.getElem?_eq_some_iff.mp hk).1
  have : k = 0 := by simpa using hl
  subst this
  exact h a.length q (by rw [List.getElem?_append_right (Nat.le_refl _), Nat.sub_self]; exact hk)
/-- behind a constructor's call: what was there stands, the callee's cells come -/
theorem join_last {A0 : Nat → Prop} {D : va_G} {wr w1 : va_W} {q : Nat} {x : va_E} {H H1 : Heap} (hP : va_P D vwCl (wr ++ [(q, x)]) H) (hD : va_D A0 (wr ++ [(q, x)])) (hk : ∀ a : Nat, a < H.size → ¬ va_A [(q, x)] H.size a → H1[a]? = H[a]?) (hF : ∀ a, va_A [(q, x)] H.size a → A0 a) (hP1 : va_P D vwCl w1 H1) (hD1 : va_D (va_A [(q, x)] H.size) w1) : va_P D vwCl (wr ++ w1) H1 ∧ va_D A0 (wr ++ w1) := by
  have hq : (wr ++ [(q, x)])[wr.length]? = some (q, x) := by rw [List.getElem?_append_right (Nat.le_refl _), Nat.sub_self]; rfl
  have old : ∀ (k : Nat) (y : Nat × va_E), wr[k]? = some y → y.1 < H.size ∧ ¬ va_A [(q, x)] H.size y.1 := by
    intro k y hy
    have hl := (List.getElem?_eq_some_iff.mp hy).1
    have hy' : (wr ++ [(q, x)])[k]? = some y := by rw [List.getElem?_append_left hl]; exact hy
    have hlt := (hP k y hy').lt
    refine ⟨hlt, fun z => ?_⟩
    rcases z with ⟨j, e, hj⟩ | z
    · have h0 := (List.getElem?_eq_some_iff.mp hj).1
      have : j = 0 := by simpa using h0
      subst this
      have e1 : (q, x) = (y.1, e) := Option.some.inj hj
      have := hD.1 k wr.length y (q, x) hy' hq (by rw [e1])
      omega
    · omega
  refine ⟨?_, ?_, ?_⟩
  · exact ((P_left hP).kept (fun k y hy => hk y.1 (old k y hy).1 (old k y hy).2)).app hP1
  · intro i j y z hi hj he
    by_cases h1 : i < wr.length
    · rw [List.getElem?_append_left h1] at hi
      by_cases h2 : j < wr.length
      · rw [List.getElem?_append_left h2] at hj
        exact hD.1 i j y z (by rw [List.getElem?_append_left h1]; exact hi) (by rw [List.getElem?_append_left h2]; exact hj) he
      · rw [List.getElem?_append_right (by omega)] at hj
        exact absurd (by rw [he]; exact hD1.2 _ z hj) (old i y hi).2
    · rw [List.getElem?_append_right (by omega)] at hi
      by_cases h2 : j < wr.length
      · rw [List.getElem?_append_left h2] at hj
        exact absurd (by rw [← he]; exact hD1.2 _ y hi) (old j z hj).2
      · rw [List.getElem?_append_right (by omega)] at hj
        have := hD1.1 _ _ y z hi hj he
        omega
  · intro k y hy
    by_cases h1 : k < wr.length
    · rw [List.getElem?_append_left h1] at hy
      exact hD.2 k y (by rw [List.getElem?_append_left h1]; exact hy)
    · rw [List.getElem?_append_right (by omega)] at hy
      exact hF _ (hD1.2 _ y hy)
theorem b_init (X : Cx p l s0 a0 s m args meth c cc nL own D ad cA A) {y : MethodName} {bytes : ByteArray} {maxL lev mc ms ci index q n : Nat} {f0 vs : List Value} {P : (Nat → ClassId) → Nat → va_W → Prop} {wr : va_W} (hM : ConI l y bytes maxL lev mc ms ci f0 vs P)
    (hw : Cond.methodLink own index y ∈ lw_tbl ∧ Cond.instanceMethod y ∈ lw_tbl ∧ Cond.initialized y.cls ∈ lw_tbl ∧ Cond.code y bytes maxL none ∈ lw_tbl) (hy : y.name = "<init>") (hd : y.cls ≠ "java/lang/invoke/MethodHandle" ∧ y.cls ≠ "java/lang/invoke/VarHandle" ∧ (parseMethodDescriptor y.desc).map (fun d => d.parameters.length) = some n) (hn : vs.length = n)
    (hR : lev + 1 ≤ R.frames ∧ 8 + (maxL + 11) + 60 * lev ≤ R.locals) (hcl : cl + mc ≤ R.cells ∧ sl + ms ≤ R.slots) (hls : ls.size = nL) (hrs : (rest.map fun v => v.category).sum ≤ 8) (d : decode cc pc = .ok (.invokespecial index, 3)) (hP : va_P D vwCl (wr ++ [(q, .inr (ci, f0))]) H) (hD : va_D A (wr ++ [(q, .inr (ci, f0))])) (hS : va_S A s.heap H locs)
    (kk : ∀ (w1 : va_W) (H1 : Heap) (locs1 : List Loc), P cA q w1 → va_P D vwCl (wr ++ w1) H1 → va_D A (wr ++ w1) → va_S A s.heap H1 locs1 → W p l e R s m args below meth c H1 locs1 (cl + mc) (sl + ms) Q (F0 m (pc + 3) ls rest)) : W p l e R s m args below meth c H locs cl sl Q (F0 m pc ls (vs.reverse ++ .ref q :: rest)) := by
  have hqa : A q := hD.2 wr.length (q, _) (by rw [List.getElem?_append_right (Nat.le_refl _), Nat.sub_self]; rfl)
  have hF : ∀ a, va_A [(q, .inr (ci, f0))] H.size a → A a := by
    intro a ha
    rcases ha with ⟨j, e, hj⟩ | ha
    · have h0 := (List.getElem?_eq_some_iff.mp hj).1
      have : j = 0 := by simpa using h0
      subst this
      have e1 : (q, (Sum.inr (ci, f0) : va_E)) = (a, e) := Option.some.inj hj
      have : q = a := congrArg Prod.fst e1
      rw [← this]; exact hqa
    · exact X.2.2.2.2.2.2.2.1 a (Nat.le_trans hS.1 ha)
  have hts : ∀ w ∈ ([.code y bytes maxL none] : List Cond), w.before args s = true := fun w hw' => by rw [List.mem_singleton.mp hw']; exact X.w hw.2.2.2 rfl
  have hpre : ∀ (U : State), U.heap = H → s.WarmedH U.vm → PI l a0 s0 D ad cA H.size [(q, .inr (ci, f0))] U := by
    intro U hU hW
    have hB := X.2.2.2.2.2.1
    refine ⟨by rw [hU], by rw [hU]; exact P_last hP, va_K.moved hW.alike X.2.2.2.2.1, ⟨fun i j y z hi hj _ => ?_, fun _ _ _ => trivial⟩, ⟨hB.1, State.WarmedH.trans hB.2.1 hW, by rw [hU]; exact Nat.le_trans hB.2.2.1 hS.1, fun a ha => ?_⟩, fun z hz => ?_⟩
    · have h1 := (List.getElem?_eq_some_iff.mp hi).1
      have h2 := (List.getElem?_eq_some_iff.mp hj).1
      simp at h1 h2
      omega
    · rw [hU, hS.2.1 a (Nat.lt_of_lt_of_le ha hB.2.2.1) (fun z => absurd (X.2.2.2.2.2.2.1 a z) (Nat.not_le.mpr ha))]
      exact hB.2.2.2 a ha
    · rw [List.mem_singleton.mp hz]
      exact X.2.2.2.2.2.2.1 q hqa
  have run := va_runI (cells := cl) (slots := sl) (p := p) (e := e) (R := R) (below := below) (meth := meth) (locs := locs) (H := H) (Ts := [.code y bytes maxL none]) (g := F0 m pc ls (vs.reverse ++ .ref q :: rest)) (As := vs) (rest := rest) (b := q) ⟨X.1, X.2.1, X.2.2.1, X.2.2.2.1, hts⟩
    (hM a0 s0 D ad cA H.size q) (cwI n hts (fun w hw' => ⟨hw', by rw [List.mem_singleton.mp hw']; exact good_of_word rfl⟩) rfl rfl rfl (X.w hw.2.2.1 rfl) (X.w hw.1 rfl) (X.w hw.2.1 rfl) hy hd hR)
    ⟨PI_blind, fun U hU hW => ⟨rfl, hpre U hU hW⟩⟩ rfl hn hls rfl (lv_room hrs) d hcl
  intro T hT Y
  obtain ⟨v, st₀, t, T', L, h0, Y', hL, e1, e2, ⟨⟨w1, hv, hp, hP1, hK1, hD1⟩, hz, hk⟩, st⟩ := run T hT Y
  rw [h0] at hz hk
  have hv2 : v = none := by injection hv
  subst hv2
  obtain ⟨j1, j2⟩ := join_last hP hD (fun a h1 h2 => hk a h1 h2) hF hP1 hD1
  obtain ⟨t2, a1, b1⟩ := kk w1 T'.heap (locs ++ L) hp (by rw [e1]; exact j1) j2
    ⟨Nat.le_trans hS.1 (by rw [e1]; exact hz), fun a h1 h2 => by rw [e1, hk a (Nat.lt_of_lt_of_le h1 hS.1) (fun z => h2 (hF a z))]; exact hS.2.1 a h1 h2, fun a ha => by
      rcases List.mem_append.mp ha with h | h
      · exact hS.2.2 a h
      · exact hF _ (hL a h)⟩ T' rfl Y'
  exact ⟨t2, st t2 a1, b1⟩
theorem b_initN (X : Cx p l s0 a0 s m args meth c cc nL own D ad cA A) {host : String} {y : MethodName} {bytes : ByteArray} {maxL lev mc ms ci index q n : Nat} {f0 vs : List Value} {P : (Nat → ClassId) → Nat → va_W → Prop} {wr : va_W} (hM : ConI l y bytes maxL lev mc ms ci f0 vs P)
    (hw : Cond.methodLinkNest own index y host ∈ lw_tbl ∧ Cond.instanceMethod y ∈ lw_tbl ∧ Cond.initialized y.cls ∈ lw_tbl ∧ Cond.code y bytes maxL none ∈ lw_tbl) (hy : y.name = "<init>") (hd : y.cls ≠ "java/lang/invoke/MethodHandle" ∧ y.cls ≠ "java/lang/invoke/VarHandle" ∧ (parseMethodDescriptor y.desc).map (fun d => d.parameters.length) = some n) (hn : vs.length = n)
    (hR : lev + 1 ≤ R.frames ∧ 8 + (maxL + 11) + 60 * lev ≤ R.locals) (hcl : cl + mc ≤ R.cells ∧ sl + ms ≤ R.slots) (hls : ls.size = nL) (hrs : (rest.map fun v => v.category).sum ≤ 8) (d : decode cc pc = .ok (.invokespecial index, 3)) (hP : va_P D vwCl (wr ++ [(q, .inr (ci, f0))]) H) (hD : va_D A (wr ++ [(q, .inr (ci, f0))])) (hS : va_S A s.heap H locs)
    (kk : ∀ (w1 : va_W) (H1 : Heap) (locs1 : List Loc), P cA q w1 → va_P D vwCl (wr ++ w1) H1 → va_D A (wr ++ w1) → va_S A s.heap H1 locs1 → W p l e R s m args below meth c H1 locs1 (cl + mc) (sl + ms) Q (F0 m (pc + 3) ls rest)) : W p l e R s m args below meth c H locs cl sl Q (F0 m pc ls (vs.reverse ++ .ref q :: rest)) := by
  have hqa : A q := hD.2 wr.length (q, _) (by rw [List.getElem?_append_right (Nat.le_refl _), Nat.sub_self]; rfl)
  have hF : ∀ a, va_A [(q, .inr (ci, f0))] H.size a → A a := by
    intro a ha
    rcases ha with ⟨j, e, hj⟩ | ha
    · have h0 := (List.getElem?_eq_some_iff.mp hj).1
      have : j = 0 := by simpa using h0
      subst this
      have e1 : (q, (Sum.inr (ci, f0) : va_E)) = (a, e) := Option.some.inj hj
      have : q = a := congrArg Prod.fst e1
      rw [← this]; exact hqa
    · exact X.2.2.2.2.2.2.2.1 a (Nat.le_trans hS.1 ha)
  have hts : ∀ w ∈ ([.code y bytes maxL none] : List Cond), w.before args s = true := fun w hw' => by rw [List.mem_singleton.mp hw']; exact X.w hw.2.2.2 rfl
  have hpre : ∀ (U : State), U.heap = H → s.WarmedH U.vm → PI l a0 s0 D ad cA H.size [(q, .inr (ci, f0))] U := by
    intro U hU hW
    have hB := X.2.2.2.2.2.1
    refine ⟨by rw [hU], by rw [hU]; exact P_last hP, va_K.moved hW.alike X.2.2.2.2.1, ⟨fun i j y z hi hj _ => ?_, fun _ _ _ => trivial⟩, ⟨hB.1, State.WarmedH.trans hB.2.1 hW, by rw [hU]; exact Nat.le_trans hB.2.2.1 hS.1, fun a ha => ?_⟩, fun z hz => ?_⟩
    · have h1 := (List.getElem?_eq_some_iff.mp hi).1
      have h2 := (List.getElem?_eq_some_iff.mp hj).1
      simp at h1 h2
      omega
    · rw [hU, hS.2.1 a (Nat.lt_of_lt_of_le ha hB.2.2.1) (fun z => absurd (X.2.2.2.2.2.2.1 a z) (Nat.not_le.mpr ha))]
      exact hB.2.2.2 a ha
    · rw [List.mem_singleton.mp hz]
      exact X.2.2.2.2.2.2.1 q hqa
  have hnest := va_Nw.warmM X.2.2.2.2.2.1.2.1 (va_Nw.of (A := a0) rfl (X.2.2.2.2.2.1.1.1 _ hw.1))
  have run := va_runIN (cells := cl) (slots := sl) (p := p) (e := e) (R := R) (below := below) (meth := meth) (locs := locs) (H := H) (Ts := [.code y bytes maxL none]) (g := F0 m pc ls (vs.reverse ++ .ref q :: rest)) (As := vs) (rest := rest) (b := q) ⟨X.1, X.2.1, X.2.2.1, X.2.2.2.1, hts⟩
    (hM a0 s0 D ad cA H.size q) ⟨va_cnB n hts (fun w hw' => ⟨hw', by rw [List.mem_singleton.mp hw']; exact good_of_word rfl⟩) rfl rfl rfl hnest (X.w hw.2.2.1 rfl) hd hR, hy, X.w hw.2.1 rfl⟩
    ⟨PI_blind, fun U hU hW => ⟨rfl, hpre U hU hW⟩⟩ rfl hn hls rfl (lv_room hrs) d hcl
  intro T hT Y
  obtain ⟨v, st₀, t, T', L, h0, Y', hL, e1, e2, ⟨⟨w1, hv, hp, hP1, hK1, hD1⟩, hz, hk⟩, st⟩ := run T hT Y
  rw [h0] at hz hk
  have hv2 : v = none := by injection hv
  subst hv2
  obtain ⟨j1, j2⟩ := join_last hP hD (fun a h1 h2 => hk a h1 h2) hF hP1 hD1
  obtain ⟨t2, a1, b1⟩ := kk w1 T'.heap (locs ++ L) hp (by rw [e1]; exact j1) j2
    ⟨Nat.le_trans hS.1 (by rw [e1]; exact hz), fun a h1 h2 => by rw [e1, hk a (Nat.lt_of_lt_of_le h1 hS.1) (fun z => h2 (hF a z))]; exact hS.2.1 a h1 h2, fun a ha => by
      rcases List.mem_append.mp ha with h | h
      · exact hS.2.2 a h
      · exact hF _ (hL a h)⟩ T' rfl Y'
  exact ⟨t2, st t2 a1, b1⟩
end INITS
