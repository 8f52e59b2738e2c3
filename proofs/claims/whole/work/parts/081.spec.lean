/-! SPECIAL ROWS: static rows, Math.max, arraycopy, throws -/
/-- a copy of n ints from one array into another -/
def cpm (σ : Mem) (g0 i0 g1 i1 sp dp n : Nat) : Mem := (fun g i k => if g = g1 ∧ i = i1 ∧ dp ≤ k ∧ k < dp + n then σ.1 g0 i0 (sp + (k - dp)) else σ.1 g i k, σ.2)
theorem rd_cpm (σ : Mem) (g0 i0 g1 i1 sp dp n g i k : Nat) : rd (cpm σ g0 i0 g1 i1 sp dp n) g i k = if g = g1 ∧ i = i1 ∧ dp ≤ k ∧ k < dp + n then rd σ g0 i0 (sp + (k - dp)) else rd σ g i k := rfl
theorem fcs_cpm {ad : Nat → Nat → Nat} {σ : Mem} {g i g0 i0 g1 i1 sp dp n : Nat} (hne : ¬ (g = g1 ∧ i = i1)) (fs : List (Option Nat)) (k : Nat) : fcs ad (cpm σ g0 i0 g1 i1 sp dp n) g i k fs = fcs ad σ g i k fs :=
  fcs_same (fun k => by rw [rd_cpm, if_neg (fun z => hne ⟨z.1, z.2.1⟩)]) fs k
theorem cell_cpm_ne {ad : Nat → Nat → Nat} {cA : Nat → ClassId} {σ : Mem} {g0 i0 g1 i1 sp dp n : Nat} (q : Nat × Nat × SH) (h : ¬ (q.1 = g1 ∧ q.2.1 = i1)) : cell1 ad cA (cpm σ g0 i0 g1 i1 sp dp n) q = cell1 ad cA σ q := by
  obtain ⟨g', i', sh⟩ := q
  dsimp only at h
  cases sh with
  | inl o => simp only [cell1]; rw [fcs_cpm h]
  | inr a =>
    obtain ⟨kd, n2⟩ := a
    simp only [cell1]
    congr 4
    have hf : (fun k' => rd (cpm σ g0 i0 g1 i1 sp dp n) g' i' k') = (fun k' => rd σ g' i' k') := by
      funext k'; rw [rd_cpm, if_neg (fun z => h ⟨z.1, z.2.1⟩)]
    unfold acell
    rw [hf]
    split <;> rfl
theorem wld_cpm {ad : Nat → Nat → Nat} {cA : Nat → ClassId} {σ : Mem} {g0 i0 g i sp dp n n1 : Nat} (h : okT g i) (hs : shp g = some (.inr (0, n1))) : (wld ad cA σ).set (pos g i) (ad g i, .inl (cA 0, n1, .inl (va_cpy (fun j => rd σ g0 i0 j) (fun j => rd σ g i j) sp dp n))) = wld ad cA (cpm σ g0 i0 g i sp dp n) := by
  refine wld_set h hs ?_ (fun q hq => cell_cpm_ne q hq)
  have hf : (fun j => rd (cpm σ g0 i0 g i sp dp n) g i j) = va_cpy (fun j => rd σ g0 i0 j) (fun j => rd σ g i j) sp dp n := by
    funext j
    rw [rd_cpm]
    unfold va_cpy
    by_cases hj : dp ≤ j ∧ j < dp + n
    · rw [if_pos ⟨rfl, rfl, hj⟩, if_pos hj]
    · rw [if_neg (fun z => hj z.2.2), if_neg hj]
  simp only [cell1, acell, hf]
section SPEC
variable {p : Program} {l : Launch} {e : Env} {R : Room} {s s0 : State} {a0 : Array Value} {m : MethodId} {args : Array Value} {below : List Frame} {meth : Method} {c : Code} {D : va_G} {ad : Nat → Nat → Nat} {cA : Nat → ClassId} {A : Nat → Prop} {nL cl sl : Nat} {Q : State → Prop} {cc : ByteArray} {own : String} {pc : Nat}
theorem Cx.wx (X : Cx p l s0 a0 s m args meth c cc nL own D ad cA A) {w : Cond} (hw : w ∈ lw_tbl) (hg : goodWord w = true ∨ (∃ C T, w = .castable C T) ∨ ∃ x, w = .declares x) : w.before args s = true := by
  rcases hg with hg | ⟨C, T, rfl⟩ | ⟨x, rfl⟩
  · exact X.w hw hg
  · exact va_Nw.use rfl (va_Nw.warmC X.2.2.2.2.2.1.2.1 (va_Nw.of rfl (X.2.2.2.2.2.1.1.1 _ hw)))
  · exact va_Nw.use rfl (va_Nw.warmD X.2.2.2.2.2.1.2.1 (va_Nw.of rfl (X.2.2.2.2.2.1.1.1 _ hw)))
def gx (w : Cond) : Bool := goodWord w || (match w with
  | .castable _ _ => true
  | .declares _ => true
  | _ => false)
theorem gx_out {w : Cond} (h : gx w = true) : goodWord w = true ∨ (∃ C T, w = .castable C T) ∨ ∃ x, w = .declares x := by
  unfold gx at h
  rw [Bool.or_eq_true] at h
  rcases h with h | h
  · exact Or.inl h
  · split at h
    · exact Or.inr (Or.inl ⟨_, _, rfl⟩)
    · exact Or.inr (Or.inr ⟨_, rfl⟩)
    · cases h
theorem Cx.Z (X : Cx p l s0 a0 s m args meth c cc nL own D ad cA A) {C n d : String} {v : Value} (h : va_Z C n d v (fun q => s0.heap.size ≤ q) s0 s0.heap) : va_Z C n d v A s s.heap := by
  obtain ⟨-, -, -, -, -, ⟨-, b2, b3, b4⟩, hA1, -⟩ := X
  exact ((va_Z.moved b2.alike h).kept (fun a ha _ => b4 a ha)).narrow hA1
theorem Cx.T (X : Cx p l s0 a0 s m args meth c cc nL own D ad cA A) {ty : FieldType} {t N : Nat} {f : Nat → Value} (h : va_T ty t N f (fun q => s0.heap.size ≤ q) s0 s0.heap) : va_T ty t N f A s s.heap := by
  obtain ⟨-, -, -, -, -, ⟨-, b2, b3, b4⟩, hA1, -⟩ := X
  exact ((va_T.moved b2.alike h).kept (fun a ha _ => b4 a ha)).narrow hA1
theorem Cx.Zq (X : Cx p l s0 a0 s m args meth c cc nL own D ad cA A) {C n d : String} (h : vx_Zq C n d (fun q => s0.heap.size ≤ q) s0 s0.heap) : vx_Zq C n d A s s.heap := by
  obtain ⟨-, -, -, -, -, ⟨-, b2, b3, b4⟩, hA1, -⟩ := X
  exact ((vx_Zq.moved b2.alike h).kept (fun a ha _ => b4 a ha)).narrow hA1
def tq_gs (g np : Nat) : Tr := fun lv st σ k => k np lv (aR g 0 :: st) σ
theorem sq_gs (X : Cx p l s0 a0 s m args meth c cc nL own D ad cA A) {j index : Nat} {host : String} (hj : j < 3) (hn : Cond.fieldLinkNest own index "PromiseDesk" (wnm j) "[I" host ∈ lw_tbl) (d : decode cc pc = .ok (.getstatic index, 3)) : Snd (K p l e R s m args below meth c D ad cA A nL cl sl Q) pc (tq_gs (40 + j) (pc + 3)) := by
  intro lv st σ k h hk ls H locs hl hP hD hS
  have hB := X.2.2.2.2.2.1
  have hnest := va_Nw.use (A := args) rfl (va_Nw.warmF hB.2.1 (va_Nw.of rfl (hB.1.1 _ hn)))
  exact va_getsN X.1 X.2.1 (X.Z (hB.1.2.2.1 j hj).1) hS X.2.2.2.1 hnest (fun _ h => h) d (hk _ _ _ _ h ls H locs hl hP hD hS)
def tq_ti (np : Nat) : Tr := fun lv st σ k => match st with
  | Sum.inl x :: Sum.inr (Sum.inr (Sum.inr (g, i))) :: r => cond (Nat.ble 40 g && Nat.blt g 43 && Nat.beq i 0) (vp_in x 16 ∧ k np lv (aI (wtf (g - 40) (x.toNatClampNeg)) :: r) σ) False
  | _ => False
theorem sq_ti (X : Cx p l s0 a0 s m args meth c cc nL own D ad cA A) (d : decode cc pc = .ok (.iaload, 1)) : Snd (K p l e R s m args below meth c D ad cA A nL cl sl Q) pc (tq_ti (pc + 1)) := by
  intro lv st σ k h hk ls H locs hl hP hD hS
  match st, h with
  | Sum.inl x :: Sum.inr (Sum.inr (Sum.inr (g, i))) :: r, h =>
    simp only [tq_ti] at h
    cases hb : (Nat.ble 40 g && Nat.blt g 43 && Nat.beq i 0) with
    | false => rw [hb] at h; exact h.elim
    | true =>
      rw [hb] at h
      simp only [Bool.and_eq_true] at hb
      have h1 := Nat.le_of_ble_eq_true hb.1.1
      have h2 := Nat.blt_eq.mp hb.1.2
      have h3 : i = 0 := Nat.eq_of_beq_eq_true hb.2
      subst h3
      have hB := X.2.2.2.2.2.1
      have hT := X.T (hB.1.2.2.1 (g - 40) (by omega)).2
      rw [show 40 + (g - 40) = g by omega] at hT
      exact va_ti X.1 X.2.1 hT hS h.1 rfl d (hk _ _ _ _ h.2 ls H locs hl hP hD hS)
def tq_max (np : Nat) : Tr := fun lv st σ k => match st with
  | Sum.inl y :: Sum.inl x :: r => cond (Nat.ble r.length 4) (k np lv (aI (if x < y then y else x) :: r) σ) False
  | _ => False
theorem sq_max (X : Cx p l s0 a0 s m args meth c cc nL own D ad cA A) {index : Nat} (h1 : Cond.methodLink own index Lib.Math.max.name ∈ lw_tbl) (h2 : Cond.static Lib.Math.max.name ∈ lw_tbl) (h3 : Cond.initialized "java/lang/Math" ∈ lw_tbl) (h4 : Cond.code Lib.Math.max.name Lib.Math.max.code 2 (some .int) ∈ lw_tbl) (hR : 1 ≤ R.frames ∧ 21 ≤ R.locals) (hcl : cl ≤ R.cells ∧ sl ≤ R.slots)
    (d : decode cc pc = .ok (.invokestatic index, 3)) : Snd (K p l e R s m args below meth c D ad cA A nL cl sl Q) pc (tq_max (pc + 3)) := by
  intro lv st σ k h hk ls H locs hl hP hD hS
  match st, h with
  | Sum.inl y :: Sum.inl x :: r, h =>
    simp only [tq_max] at h
    cases hb : Nat.ble r.length 4 with
    | false => rw [hb] at h; exact h.elim
    | true =>
      rw [hb] at h
      have hs := cat_sum (ad := ad) r (Nat.le_of_ble_eq_true hb)
      exact va_mmax X.1 X.2.1 (X.2.2.1.trans hl.1.symm) X.2.2.2.1 (X.w h1 rfl) (X.w h2 rfl) (X.w h3 rfl) (X.w h4 rfl) hR.1 (by omega) hcl.1 hcl.2 d (hk _ _ _ _ h ls H locs hl hP hD hS)
/-- System.arraycopy over ints -/
def tq_cpy (np : Nat) : Tr := fun lv st σ k => match st with
  | Sum.inl n :: Sum.inl dp :: Sum.inr (Sum.inr (Sum.inr (g1, i1))) :: Sum.inl sp :: Sum.inr (Sum.inr (Sum.inr (g0, i0))) :: r => cond (Nat.ble r.length 4) (match shp g0, shp g1 with
    | some (.inr b0), some (.inr b1) => cond (Nat.beq b0.1 0 && Nat.beq b1.1 0) (okq g0 i0 (okq g1 i1 (¬ sp < 0 ∧ ¬ dp < 0 ∧ ¬ n < 0 ∧ sp.toNatClampNeg + n.toNatClampNeg ≤ b0.2 ∧ dp.toNatClampNeg + n.toNatClampNeg ≤ b1.2 ∧ k np lv r (cpm σ g0 i0 g1 i1 sp.toNatClampNeg dp.toNatClampNeg n.toNatClampNeg)))) False
    | _, _ => False) False
  | _ => False
theorem sq_cpy (X : Cx p l s0 a0 s m args meth c cc nL own D ad cA A) {index : Nat} (h1 : Cond.methodLink own index arraycopyName ∈ lw_tbl) (h2 : Cond.native arraycopyName ∈ lw_tbl) (h3 : Cond.static arraycopyName ∈ lw_tbl) (h4 : Cond.initialized "java/lang/System" ∈ lw_tbl) (hR : 1 ≤ R.frames ∧ 8 + (nativeFrameWords "java/lang/System" "arraycopy" 5 + 11) ≤ R.locals)
    (d : decode cc pc = .ok (.invokestatic index, 3)) : Snd (K p l e R s m args below meth c D ad cA A nL cl sl Q) pc (tq_cpy (pc + 3)) := by
  intro lv st σ k h hk ls H locs hl hP hD hS
  have hK := X.2.2.2.2.1
  match st, h with
  | Sum.inl n :: Sum.inl dp :: Sum.inr (Sum.inr (Sum.inr (g1, i1))) :: Sum.inl sp :: Sum.inr (Sum.inr (Sum.inr (g0, i0))) :: r, h =>
    simp only [tq_cpy] at h
    cases hb : Nat.ble r.length 4 with
    | false => rw [hb] at h; exact h.elim
    | true =>
      rw [hb] at h
      have hsum := cat_sum (ad := ad) r (Nat.le_of_ble_eq_true hb)
      simp only [cond] at h
      split at h
      next b0 b1 hs0 hs1 =>
        obtain ⟨k0, n0⟩ := b0
        obtain ⟨k1, n1⟩ := b1
        dsimp only at h
        split at h
        next hbb =>
          simp only [Bool.and_eq_true] at hbb
          have e0 : k0 = 0 := Nat.eq_of_beq_eq_true hbb.1
          have e1 : k1 = 0 := Nat.eq_of_beq_eq_true hbb.2
          subst e0
          subst e1
          obtain ⟨ho0, h9⟩ := okq_out hs0 h
          obtain ⟨ho1, z1, z2, z3, z4, z5, h8⟩ := okq_out hs1 h9
          have he0 := wld_at (ad := ad) (cA := cA) (σ := σ) ho0 hs0
          have he1 := wld_at (ad := ad) (cA := cA) (σ := σ) ho1 hs1
          refine va_copyi (ty := .int) (D := D) X.1 X.2.1 (X.2.2.1.trans hl.1.symm) X.2.2.2.1 (X.w h1 rfl) (X.w h2 rfl) (X.w h3 rfl) (X.w h4 rfl) hK hP hD hS (pos g0 i0) (pos g1 i1) 0 0 he0 he1 rfl rfl rfl z1 z2 z3 z4 z5 (fun _ _ => rfl) hR.1 (by omega) d (fun H1 locs1 hP1 hD1 hS1 => ?_)
          rw [wld_cpm ho1 hs1] at hP1 hD1
          exact hk _ _ _ _ h8 ls H1 locs1 hl hP1 hD1 hS1
        next => exact h.elim
      next => exact h.elim
/-! methods that may throw -/
abbrev PostX : Type := String → Mem → Prop
def XcW (Ψ : PostX) (D : va_G) (ad : Nat → Nat → Nat) (cA : Nat → ClassId) (A : Nat → Prop) : String → State → State → Prop := fun E st t =>
  (∃ σ' : Mem, Ψ E σ' ∧ va_P D vwCl (wld ad cA σ') t.heap ∧ va_K D vwCl (tysL cA) t ∧ va_D A (wld ad cA σ')) ∧ va_F A st t
def rmX (n : Nat) : Room := { frames := n, cells := 1, slots := 6, locals := 60 * n }
abbrev SpecX : Type := List AV → Mem → Post → PostX → Prop
def ConX (l : Launch) (y : MethodName) (cc : ByteArray) (maxL : Nat) (ret : Option FieldType) (n lev : Nat) (S : SpecX) : Prop :=
  ∀ (a0 : Array Value) (s0 : State) (D : va_G) (ad : Nat → Nat → Nat) (cA : Nat → ClassId) (sz : Nat) (av : List AV) (σ : Mem) (Φ : Post) (Ψ : PostX), av.length = n → av.all c1w = true → S av σ Φ Ψ →
    vx_Met l y [.code y cc maxL ret] (rmX lev) (PcW l a0 s0 D ad cA sz av σ) (QcW Φ D ad cA (va_A (wld ad cA σ) sz)) (XcW Ψ D ad cA (va_A (wld ad cA σ) sz)) 1 6 (va_A (wld ad cA σ) sz)
theorem lev_okX {lev L maxL : Nat} (h : lev + 1 ≤ L) (hm : maxL ≤ 41) : lev + 1 ≤ (rmX L).frames ∧ 8 + (maxL + 11) + 60 * lev ≤ (rmX L).locals := ⟨h, by show _ ≤ 60 * L; omega⟩
theorem sx_iret (X : Cx p l s0 a0 s m args meth c cc nL own D ad cA A) {Φ : Post} {Ψ : PostX} (hr : meth.sig.returnType = some .int) (d : decode cc pc = .ok (.ireturn, 1)) : Snd (K p l e R s m args below meth c D ad cA A nL 0 0 (vx_MQ below (QcW Φ D ad cA A) (XcW Ψ D ad cA A) args s 1 6 A)) pc (tq_iret Φ) := by
  intro lv st σ k h hk ls H locs hl hP hD hS
  match st, h with
  | [Sum.inl x], h =>
    refine W.widen (k := 1) (n := 6) (by omega) (by omega) (vx_ret ?_)
    exact W.iret (v := x) X.1 X.2.1 hr (X.fin (r := some (aI x)) h hP hD hS) hS.2.2 d X.2.2.2.2.2.2.2.2
theorem sx_zret (X : Cx p l s0 a0 s m args meth c cc nL own D ad cA A) {Φ : Post} {Ψ : PostX} (hr : meth.sig.returnType = some .boolean) (d : decode cc pc = .ok (.ireturn, 1)) : Snd (K p l e R s m args below meth c D ad cA A nL 0 0 (vx_MQ below (QcW Φ D ad cA A) (XcW Ψ D ad cA A) args s 1 6 A)) pc (tq_zret Φ) := by
  intro lv st σ k h hk ls H locs hl hP hD hS
  match st, h with
  | [Sum.inl x], h =>
    refine W.widen (k := 1) (n := 6) (by omega) (by omega) (vx_ret ?_)
    exact W.zret (v := x) X.1 X.2.1 hr (by rcases h.1 with rfl | rfl <;> rfl) (X.fin (r := some (aI x)) h.2 hP hD hS) hS.2.2 d X.2.2.2.2.2.2.2.2
theorem sx_dret (X : Cx p l s0 a0 s m args meth c cc nL own D ad cA A) {Φ : Post} {Ψ : PostX} (hr : meth.sig.returnType = some .double) (d : decode cc pc = .ok (.dreturn, 1)) : Snd (K p l e R s m args below meth c D ad cA A nL 0 0 (vx_MQ below (QcW Φ D ad cA A) (XcW Ψ D ad cA A) args s 1 6 A)) pc (tq_dret Φ) := by
  intro lv st σ k h hk ls H locs hl hP hD hS
  match st, h with
  | [Sum.inr (Sum.inr (Sum.inl x))], h =>
    refine W.widen (k := 1) (n := 6) (by omega) (by omega) (vx_ret ?_)
    exact W.dret (v := x) X.1 X.2.1 hr (X.fin (r := some (aD x)) h hP hD hS) hS.2.2 d X.2.2.2.2.2.2.2.2
def tq_thr (Ψ : PostX) (E : String) : Tr := fun _ st σ _ => match st with
  | [] => Ψ E σ
  | _ => False
theorem sx_thr (X : Cx p l s0 a0 s m args meth c cc nL own D ad cA A) {Φ : Post} {Ψ : PostX} {cls : String} {names : List String} {ik ic : Nat} (htab : ∀ x ∈ c.exceptionTable.toList, False) (hcls : Bundle.fit cls = true) (hnames : ∀ n ∈ names, Bundle.fit n = true)
    (hk1 : Cond.classLink own ik cls ∈ lw_tbl) (hk2 : Cond.initialized cls ∈ lw_tbl) (hat : ∀ w ∈ vx_at0 own ic cls names, w ∈ lw_tbl) (hgx : (vx_at0 own ic cls names).all gx = true) (hgd : (Cond.classLink own ik cls :: Cond.initialized cls :: vx_at0 own ic cls names).all vx_ot = true)
    (hR : names.length + 3 < R.frames ∧ 13 * (names.length + 1) + 42 ≤ R.locals) (hRc : 1 ≤ R.cells ∧ 6 ≤ R.slots)
    (d0 : decode cc pc = .ok (.new ik, 3)) (d3 : decode cc (pc + 3) = .ok (.dup, 1)) (d4 : decode cc (pc + 4) = .ok (.invokespecial ic, 3)) (d7 : decode cc (pc + 7) = .ok (.athrow, 1)) : Snd (K p l e R s m args below meth c D ad cA A nL 0 0 (vx_MQ below (QcW Φ D ad cA A) (XcW Ψ D ad cA A) args s 1 6 A)) pc (tq_thr Ψ cls) := by
  intro lv st σ k h hk ls H locs hl hP hD hS
  match st, h with
  | [], h =>
    have hB := X.2.2.2.2.2.1.1.2
    refine vx_throw0 (A := A) (rest := []) X.1 X.2.1 hB.1 X.2.2.2.1 hcls hnames (X.w hk1 rfl) (X.w hk2 rfl) (fun w hw => X.wx (hat w hw) (gx_out (List.all_eq_true.mp hgx w hw))) (fun w hw => List.all_eq_true.mp hgd w hw) (X.Zq hB.2.2.1) (X.Zq hB.2.2.2) hS (hl.1.trans X.2.2.1.symm) d0 d3 d4 d7 (fun x hx => (htab x hx).elim) hR.1 (by simp only [List.map_nil, List.sum_nil, Nat.zero_add]; exact hR.2) (by omega) (by omega) X.2.2.2.2.2.2.2.2 (fun t hvm hsz hkeep => ?_) hS.2.2 (by omega) (by omega)
    refine ⟨⟨σ, h, hP.kept (fun k q hq => hkeep q.1 (hP k q hq).lt), va_K.moved hvm X.2.2.2.2.1, hD⟩, Nat.le_trans hS.1 hsz, fun q h1 h2 => ?_⟩
    rw [hkeep q (Nat.lt_of_lt_of_le h1 hS.1)]
    exact hS.2.1 q h1 h2
end SPEC
theorem ConX.of {l : Launch} {y : MethodName} {cc : ByteArray} {maxL n lev : Nat} {ret : Option FieldType} {S : SpecX} (hy : plainName y.cls = true) (hn : n ≤ maxL)
    (body : ∀ (p : Program) (e : Env) (s s0 : State) (a0 : Array Value) (m : MethodId) (args : Array Value) (below : List Frame) (meth : Method) (c : Code) (D : va_G) (ad : Nat → Nat → Nat) (cA : Nat → ClassId) (A : Nat → Prop) (av : List AV) (σ : Mem) (Φ : Post) (Ψ : PostX),
      av.length = n → S av σ Φ Ψ → meth.sig.returnType = ret → (∀ x ∈ c.exceptionTable.toList, False) → Cx p l s0 a0 s m args meth c cc maxL y.cls D ad cA A →
      K p l e (rmX lev) s m args below meth c D ad cA A maxL 0 0 (vx_MQ below (QcW Φ D ad cA A) (XcW Ψ D ad cA A) args s 1 6 A) 0 (lv0 maxL av) [] σ) : ConX l y cc maxL ret n lev S := by
  intro a0 s0 D ad cA sz av σ Φ Ψ hlen hc1 hS0
  refine vx_ofW (cc := cc) (maxL := maxL) (ret := ret) hy rfl ?_
  intro p e s m args below meth c s₁ B hml htab hv
  obtain ⟨rfl, hsz, hP, hK, hD0, hB, hge⟩ := hv
  have hown : s.vm.findClass y.cls = some m.cls := findClass_of_methodNamed B.named
  subst hsz
  have hD := hD0.self (sz := s.heap.size)
  have hA1 : ∀ q, va_A (wld ad cA σ) s.heap.size q → s0.heap.size ≤ q := by
    intro q hq
    rcases hq with ⟨k, e, h⟩ | h
    · exact hge _ (List.mem_of_getElem? h)
    · exact Nat.le_trans hB.2.2.1 h
  have hA2 : ∀ q : Nat, s.heap.size ≤ q → va_A (wld ad cA σ) s.heap.size q := fun q h => Or.inr h
  have X : Cx p l s0 a0 s m (av.map (conc ad)).toArray meth c cc maxL y.cls D ad cA (va_A (wld ad cA σ) s.heap.size) := ⟨B.exec, B.bytes, hml, hown, hK, hB, hA1, hA2, B.notSynchronized⟩
  have k := body p e s s0 a0 m (av.map (conc ad)).toArray below meth c D ad cA (va_A (wld ad cA σ) s.heap.size) av σ Φ Ψ hlen hS0 B.returns htab X
  rw [lg_entry_eq]
  exact k _ _ [] (entry_has hc1 (by omega)) hP hD va_S.rf
