/-! THE JUDGEMENT K AND ITS ROWS -/
abbrev LV : Type := List (Option AV)
abbrev Kt : Type := Nat → LV → List AV → Mem → Prop
abbrev Tr : Type := LV → List AV → Mem → Kt → Prop
def lvl (ad : Nat → Nat → Nat) : Nat → LV → List (Nat × Value)
  | _, [] => []
  | n, none :: r => lvl ad (n + 1) r
  | n, some a :: r => (n, conc ad a) :: lvl ad (n + 1) r
theorem mem_lvl {ad : Nat → Nat → Nat} {q : Nat × Value} : ∀ (lv : LV) (n : Nat), q ∈ lvl ad n lv ↔ ∃ (j : Nat) (a : AV), lv[j]? = some (some a) ∧ q = (n + j, conc ad a)
  | [], n => by simp [lvl]
  | none :: r, n => by
    rw [lvl, mem_lvl r (n + 1)]
    constructor
    · rintro ⟨j, a, h1, h2⟩
      exact ⟨j + 1, a, by simpa using h1, by rw [h2]; congr 1; omega⟩
    · rintro ⟨j, a, h1, h2⟩
      cases j with
      | zero => simp at h1
      | succ j => exact ⟨j, a, by simpa using h1, by rw [h2]; congr 1; omega⟩
  | some b :: r, n => by
    rw [lvl, List.mem_cons, mem_lvl r (n + 1)]
    constructor
    · rintro (h | ⟨j, a, h1, h2⟩)
      · exact ⟨0, b, by simp, by simpa using h⟩
      · exact ⟨j + 1, a, by simpa using h1, by rw [h2]; congr 1; omega⟩
    · rintro ⟨j, a, h1, h2⟩
      cases j with
      | zero => simp at h1; subst h1; exact Or.inl (by simpa using h2)
      | succ j => exact Or.inr ⟨j, a, by simpa using h1, by rw [h2]; congr 1; omega⟩
theorem lv_mono {ls : Array Slot} {nL : Nat} {l1 l2 : List (Nat × Value)} (h : lv_has ls nL l1) (hs : ∀ q ∈ l2, q ∈ l1) : lv_has ls nL l2 := ⟨h.1, h.2.1, fun q hq => h.2.2 q (hs q hq)⟩
theorem lv_ld {ad : Nat → Nat → Nat} {ls : Array Slot} {nL : Nat} {lv : LV} {i : Nat} {a : AV} (h : lv_has ls nL (lvl ad 0 lv)) (hi : lv[i]? = some (some a)) : ls[i]? = some (.val (conc ad a)) :=
  h.2.2 (i, conc ad a) ((mem_lvl lv 0).mpr ⟨i, a, hi, by simp⟩)
/-- no two-word value ends at place i -/
def ok1 (lv : LV) (i : Nat) : Bool := match i with
  | 0 => true
  | j + 1 => match lv[j]? with
    | some (some (Sum.inr (Sum.inl _))) => false
    | some (some (Sum.inr (Sum.inr (Sum.inl _)))) => false
    | _ => true
theorem ok1_cat {ad : Nat → Nat → Nat} {lv : LV} {i j : Nat} {a : AV} (h : ok1 lv i = true) (hj : lv[j]? = some (some a)) (e : j + 1 = i) : ¬ (conc ad a).category = 2 := by
  subst e
  simp only [ok1, hj] at h
  rcases a with x | x | x | x
  · simp [conc, Value.category]
  · simp at h
  · simp at h
  · simp [conc, Value.category]
theorem lv_set1 {ad : Nat → Nat → Nat} {ls : Array Slot} {nL : Nat} {lv : LV} {i : Nat} {a : AV} (ho : ok1 lv i = true)
    (h : lv_has ls nL ((i, conc ad a) :: (lvl ad 0 lv).filter (fun q => !(q.1 == i) && !(q.1 + 1 == i && q.2.category == 2)))) : lv_has ls nL (lvl ad 0 (lv.set i (some a))) := by
  refine lv_mono h (fun q hq => ?_)
  obtain ⟨j, b, h1, rfl⟩ := (mem_lvl _ 0).mp hq
  rw [Nat.zero_add]
  by_cases hj : j = i
  · subst hj
    have hb : b = a := by
      rw [List.getElem?_set] at h1
      simp only [if_true] at h1
      split at h1
      · simpa using h1.symm
      · simp at h1
    subst hb
    exact List.mem_cons_self
  · rw [List.getElem?_set_ne (Ne.symm hj)] at h1
    refine List.mem_cons_of_mem _ (List.mem_filter.mpr ⟨(mem_lvl _ 0).mpr ⟨j, b, h1, by simp⟩, ?_⟩)
    have hc := fun e => ok1_cat (ad := ad) ho h1 e
    have h2 : (j == i) = false := by simpa using hj
    simp only [h2, Bool.not_false, Bool.true_and]
    by_cases he : j + 1 = i
    · have := hc he
      simp [this]
    · simp [he]
theorem lv_set2 {ad : Nat → Nat → Nat} {ls : Array Slot} {nL : Nat} {lv : LV} {i : Nat} {a : AV} (ho : ok1 lv i = true)
    (h : lv_has ls nL ((i, conc ad a) :: (lvl ad 0 lv).filter (fun q => !(q.1 == i) && (!(q.1 == i + 1) && !(q.1 + 1 == i && q.2.category == 2))))) : lv_has ls nL (lvl ad 0 ((lv.set i (some a)).set (i + 1) none)) := by
  refine lv_mono h (fun q hq => ?_)
  obtain ⟨j, b, h1, rfl⟩ := (mem_lvl _ 0).mp hq
  rw [Nat.zero_add]
  have hj1 : ¬ j = i + 1 := by
    intro e
    subst e
    rw [List.getElem?_set] at h1
    simp only [if_true] at h1
    split at h1 <;> simp at h1
  rw [List.getElem?_set_ne (Ne.symm hj1)] at h1
  by_cases hj : j = i
  · subst hj
    have hb : b = a := by
      rw [List.getElem?_set] at h1
      simp only [if_true] at h1
      split at h1
      · simpa using h1.symm
      · simp at h1
    subst hb
    exact List.mem_cons_self
  · rw [List.getElem?_set_ne (Ne.symm hj)] at h1
    refine List.mem_cons_of_mem _ (List.mem_filter.mpr ⟨(mem_lvl _ 0).mpr ⟨j, b, h1, by simp⟩, ?_⟩)
    have hc := fun e => ok1_cat (ad := ad) ho h1 e
    have h2 : (j == i) = false := by simpa using hj
    have h3 : (j == i + 1) = false := by simpa using hj1
    simp only [h2, h3, Bool.not_false, Bool.true_and]
    by_cases he : j + 1 = i
    · have := hc he
      simp [this]
    · simp [he]
def K (p : Program) (l : Launch) (e : Env) (R : Room) (s : State) (m : MethodId) (args : Array Value) (below : List Frame) (meth : Method) (c : Code) (D : va_G) (ad : Nat → Nat → Nat) (cA : Nat → ClassId) (A : Nat → Prop) (nL cl sl : Nat) (Q : State → Prop) : Kt := fun pc lv st σ =>
  ∀ (ls : Array Slot) (H : Heap) (locs : List Loc), lv_has ls nL (lvl ad 0 lv) → va_P D vwCl (wld ad cA σ) H → va_D A (wld ad cA σ) → va_S A s.heap H locs → W p l e R s m args below meth c H locs cl sl Q (F0 m pc ls (st.map (conc ad)))
def Snd (k0 : Kt) (pc : Nat) (T : Tr) : Prop := ∀ (lv : LV) (st : List AV) (σ : Mem) (k : Kt), T lv st σ k → (∀ pc' lv' st' σ', k pc' lv' st' σ' → k0 pc' lv' st' σ') → k0 pc lv st σ
def tysL (cA : Nat → ClassId) : List (ClassId × FieldType) := [(cA 0, .int), (cA 1, .long), (cA 2, .boolean), (cA 3, .double), (cA 4, .object "PromiseDesk$Duty")]
/-- the class's three tables of words -/
def wtL (j : Nat) : List Int32 := match j with
  | 0 => [1, 4, 5, 5, 2, 5, 5, 3, 6, 6, 6, 0, 4, 7, 6, 6]
  | 1 => [0, 0, 5, 5, 5, 5, 5, 5, 0, 6, 6, 0, 5, 7, 7, 6]
  | _ => [0, 0, 0, 0, 0, 0, 0, 0, 0, 0, 0, 0, 0, 0, 7, 7]
def wtf (j i : Nat) : Int32 := (wtL j).getD i 0
def wnm (j : Nat) : String := match j with
  | 0 => "WORD_A"
  | 1 => "WORD_B"
  | _ => "WORD_C"
def Bx (l : Launch) (s0 : State) (ad : Nat → Nat → Nat) : Prop := l.stackTraces = false ∧ (∀ j, j < 3 → va_Z "PromiseDesk" (wnm j) "[I" (.ref (ad (40 + j) 0)) (fun q => s0.heap.size ≤ q) s0 s0.heap ∧ va_T .int (ad (40 + j) 0) 16 (fun i => .int (wtf j i)) (fun q => s0.heap.size ≤ q) s0 s0.heap) ∧
  vx_Zq Bundle.tN "UNASSIGNED_STACK" Bundle.steD (fun q => s0.heap.size ≤ q) s0 s0.heap ∧ vx_Zq Bundle.tN "SUPPRESSED_SENTINEL" Bundle.listD (fun q => s0.heap.size ≤ q) s0 s0.heap
/-- what holds of the law's start s0: the tables' words, the static rows, what a throw reads -/
def B0 (l : Launch) (a0 : Array Value) (s0 : State) (ad : Nat → Nat → Nat) : Prop := (∀ w ∈ lw_tbl, w.before a0 s0 = true) ∧ Bx l s0 ad
/-- a state that came out of s0: nothing old has changed -/
def Bs (l : Launch) (a0 : Array Value) (s0 : State) (ad : Nat → Nat → Nat) (U : State) : Prop := B0 l a0 s0 ad ∧ s0.WarmedH U.vm ∧ s0.heap.size ≤ U.heap.size ∧ ∀ q, q < s0.heap.size → U.heap[q]? = s0.heap[q]?
def Cx (p : Program) (l : Launch) (s0 : State) (a0 : Array Value) (s : State) (m : MethodId) (args : Array Value) (meth : Method) (c : Code) (cc : ByteArray) (nL : Nat) (own : String) (D : va_G) (ad : Nat → Nat → Nat) (cA : Nat → ClassId) (A : Nat → Prop) : Prop :=
  p.tables.exec = Jvm.exec ∧ c.code = cc ∧ c.maxLocals = nL ∧ s.vm.findClass own = some m.cls ∧ va_K D vwCl (tysL cA) s ∧ Bs l a0 s0 ad s ∧ (∀ q, A q → s0.heap.size ≤ q) ∧ (∀ q, s.heap.size ≤ q → A q) ∧ meth.locks = false
section CORE
variable {p : Program} {l : Launch} {e : Env} {R : Room} {s s0 : State} {a0 : Array Value} {m : MethodId} {args : Array Value} {below : List Frame} {meth : Method} {c : Code} {D : va_G} {ad : Nat → Nat → Nat} {cA : Nat → ClassId} {A : Nat → Prop} {nL cl sl : Nat} {Q : State → Prop} {cc : ByteArray} {own : String} {pc : Nat}
theorem Cx.w (X : Cx p l s0 a0 s m args meth c cc nL own D ad cA A) {w : Cond} (hw : w ∈ lw_tbl) (hg : goodWord w = true) : w.before args s = true := word_at X.2.2.2.2.2.1.2.1 (good_of_word hg) (X.2.2.2.2.2.1.1.1 w hw)
theorem Cx.ws (X : Cx p l s0 a0 s m args meth c cc nL own D ad cA A) {ws : List Cond} (hw : ∀ w ∈ ws, w ∈ lw_tbl) (hg : ws.all goodWord = true) : ∀ w ∈ ws, w.before args s = true := fun w h => X.w (hw w h) (List.all_eq_true.mp hg w h)
def tq_iadd (np : Nat) : Tr := fun lv st σ k => match st with
  | Sum.inl y :: Sum.inl x :: r => k np lv (aI (x + y) :: r) σ
  | _ => False
theorem sq_iadd (X : Cx p l s0 a0 s m args meth c cc nL own D ad cA A) (d : decode cc pc = .ok (.iadd, 1)) : Snd (K p l e R s m args below meth c D ad cA A nL cl sl Q) pc (tq_iadd (pc + 1)) := by
  intro lv st σ k h hk ls H locs hl hP hD hS
  match st, h with
  | Sum.inl y :: Sum.inl x :: r, h => exact lv_iadd X.1 X.2.1 d (hk _ _ _ _ h ls H locs hl hP hD hS)
def tq_isub (np : Nat) : Tr := fun lv st σ k => match st with
  | Sum.inl y :: Sum.inl x :: r => k np lv (aI (x - y) :: r) σ
  | _ => False
theorem sq_isub (X : Cx p l s0 a0 s m args meth c cc nL own D ad cA A) (d : decode cc pc = .ok (.isub, 1)) : Snd (K p l e R s m args below meth c D ad cA A nL cl sl Q) pc (tq_isub (pc + 1)) := by
  intro lv st σ k h hk ls H locs hl hP hD hS
  match st, h with
  | Sum.inl y :: Sum.inl x :: r, h => exact lv_isub X.1 X.2.1 d (hk _ _ _ _ h ls H locs hl hP hD hS)
def tq_imul (np : Nat) : Tr := fun lv st σ k => match st with
  | Sum.inl y :: Sum.inl x :: r => k np lv (aI (x * y) :: r) σ
  | _ => False
theorem sq_imul (X : Cx p l s0 a0 s m args meth c cc nL own D ad cA A) (d : decode cc pc = .ok (.imul, 1)) : Snd (K p l e R s m args below meth c D ad cA A nL cl sl Q) pc (tq_imul (pc + 1)) := by
  intro lv st σ k h hk ls H locs hl hP hD hS
  match st, h with
  | Sum.inl y :: Sum.inl x :: r, h => exact lv_imul X.1 X.2.1 d (hk _ _ _ _ h ls H locs hl hP hD hS)
def tq_iand (np : Nat) : Tr := fun lv st σ k => match st with
  | Sum.inl y :: Sum.inl x :: r => k np lv (aI (x &&& y) :: r) σ
  | _ => False
theorem sq_iand (X : Cx p l s0 a0 s m args meth c cc nL own D ad cA A) (d : decode cc pc = .ok (.iand, 1)) : Snd (K p l e R s m args below meth c D ad cA A nL cl sl Q) pc (tq_iand (pc + 1)) := by
  intro lv st σ k h hk ls H locs hl hP hD hS
  match st, h with
  | Sum.inl y :: Sum.inl x :: r, h => exact lv_iand X.1 X.2.1 d (hk _ _ _ _ h ls H locs hl hP hD hS)
def tq_ior (np : Nat) : Tr := fun lv st σ k => match st with
  | Sum.inl y :: Sum.inl x :: r => k np lv (aI (x ||| y) :: r) σ
  | _ => False
theorem sq_ior (X : Cx p l s0 a0 s m args meth c cc nL own D ad cA A) (d : decode cc pc = .ok (.ior, 1)) : Snd (K p l e R s m args below meth c D ad cA A nL cl sl Q) pc (tq_ior (pc + 1)) := by
  intro lv st σ k h hk ls H locs hl hP hD hS
  match st, h with
  | Sum.inl y :: Sum.inl x :: r, h => exact lv_ior X.1 X.2.1 d (hk _ _ _ _ h ls H locs hl hP hD hS)
def tq_ixor (np : Nat) : Tr := fun lv st σ k => match st with
  | Sum.inl y :: Sum.inl x :: r => k np lv (aI (x ^^^ y) :: r) σ
  | _ => False
theorem sq_ixor (X : Cx p l s0 a0 s m args meth c cc nL own D ad cA A) (d : decode cc pc = .ok (.ixor, 1)) : Snd (K p l e R s m args below meth c D ad cA A nL cl sl Q) pc (tq_ixor (pc + 1)) := by
  intro lv st σ k h hk ls H locs hl hP hD hS
  match st, h with
  | Sum.inl y :: Sum.inl x :: r, h => exact lv_ixor X.1 X.2.1 d (hk _ _ _ _ h ls H locs hl hP hD hS)
def tq_ishl (np : Nat) : Tr := fun lv st σ k => match st with
  | Sum.inl y :: Sum.inl x :: r => k np lv (aI (x <<< (y &&& 31)) :: r) σ
  | _ => False
theorem sq_ishl (X : Cx p l s0 a0 s m args meth c cc nL own D ad cA A) (d : decode cc pc = .ok (.ishl, 1)) : Snd (K p l e R s m args below meth c D ad cA A nL cl sl Q) pc (tq_ishl (pc + 1)) := by
  intro lv st σ k h hk ls H locs hl hP hD hS
  match st, h with
  | Sum.inl y :: Sum.inl x :: r, h => exact lv_ishl X.1 X.2.1 d (hk _ _ _ _ h ls H locs hl hP hD hS)
def tq_ishr (np : Nat) : Tr := fun lv st σ k => match st with
  | Sum.inl y :: Sum.inl x :: r => k np lv (aI (x >>> (y &&& 31)) :: r) σ
  | _ => False
theorem sq_ishr (X : Cx p l s0 a0 s m args meth c cc nL own D ad cA A) (d : decode cc pc = .ok (.ishr, 1)) : Snd (K p l e R s m args below meth c D ad cA A nL cl sl Q) pc (tq_ishr (pc + 1)) := by
  intro lv st σ k h hk ls H locs hl hP hD hS
  match st, h with
  | Sum.inl y :: Sum.inl x :: r, h => exact lv_ishr X.1 X.2.1 d (hk _ _ _ _ h ls H locs hl hP hD hS)
def tq_idiv (np : Nat) : Tr := fun lv st σ k => match st with
  | Sum.inl y :: Sum.inl x :: r => (¬ y = 0) ∧ k np lv (aI (x / y) :: r) σ
  | _ => False
theorem sq_idiv (X : Cx p l s0 a0 s m args meth c cc nL own D ad cA A) (d : decode cc pc = .ok (.idiv, 1)) : Snd (K p l e R s m args below meth c D ad cA A nL cl sl Q) pc (tq_idiv (pc + 1)) := by
  intro lv st σ k h hk ls H locs hl hP hD hS
  match st, h with
  | Sum.inl y :: Sum.inl x :: r, h => exact lv_idiv X.1 X.2.1 d h.1 (hk _ _ _ _ h.2 ls H locs hl hP hD hS)
def tq_irem (np : Nat) : Tr := fun lv st σ k => match st with
  | Sum.inl y :: Sum.inl x :: r => (¬ y = 0) ∧ k np lv (aI (x - x / y * y) :: r) σ
  | _ => False
theorem sq_irem (X : Cx p l s0 a0 s m args meth c cc nL own D ad cA A) (d : decode cc pc = .ok (.irem, 1)) : Snd (K p l e R s m args below meth c D ad cA A nL cl sl Q) pc (tq_irem (pc + 1)) := by
  intro lv st σ k h hk ls H locs hl hP hD hS
  match st, h with
  | Sum.inl y :: Sum.inl x :: r, h => exact lv_irem X.1 X.2.1 d h.1 (hk _ _ _ _ h.2 ls H locs hl hP hD hS)
def tq_land (np : Nat) : Tr := fun lv st σ k => match st with
  | Sum.inr (Sum.inl y) :: Sum.inr (Sum.inl x) :: r => k np lv (aL (x &&& y) :: r) σ
  | _ => False
theorem sq_land (X : Cx p l s0 a0 s m args meth c cc nL own D ad cA A) (d : decode cc pc = .ok (.land, 1)) : Snd (K p l e R s m args below meth c D ad cA A nL cl sl Q) pc (tq_land (pc + 1)) := by
  intro lv st σ k h hk ls H locs hl hP hD hS
  match st, h with
  | Sum.inr (Sum.inl y) :: Sum.inr (Sum.inl x) :: r, h => exact lv_land X.1 X.2.1 d (hk _ _ _ _ h ls H locs hl hP hD hS)
def tq_lor (np : Nat) : Tr := fun lv st σ k => match st with
  | Sum.inr (Sum.inl y) :: Sum.inr (Sum.inl x) :: r => k np lv (aL (x ||| y) :: r) σ
  | _ => False
theorem sq_lor (X : Cx p l s0 a0 s m args meth c cc nL own D ad cA A) (d : decode cc pc = .ok (.lor, 1)) : Snd (K p l e R s m args below meth c D ad cA A nL cl sl Q) pc (tq_lor (pc + 1)) := by
  intro lv st σ k h hk ls H locs hl hP hD hS
  match st, h with
  | Sum.inr (Sum.inl y) :: Sum.inr (Sum.inl x) :: r, h => exact lv_lor X.1 X.2.1 d (hk _ _ _ _ h ls H locs hl hP hD hS)
def tq_lshl (np : Nat) : Tr := fun lv st σ k => match st with
  | Sum.inl y :: Sum.inr (Sum.inl x) :: r => k np lv (aL (x <<< (y.toInt64 &&& 63)) :: r) σ
  | _ => False
theorem sq_lshl (X : Cx p l s0 a0 s m args meth c cc nL own D ad cA A) (d : decode cc pc = .ok (.lshl, 1)) : Snd (K p l e R s m args below meth c D ad cA A nL cl sl Q) pc (tq_lshl (pc + 1)) := by
  intro lv st σ k h hk ls H locs hl hP hD hS
  match st, h with
  | Sum.inl y :: Sum.inr (Sum.inl x) :: r, h => exact lv_lshl X.1 X.2.1 d rfl (hk _ _ _ _ h ls H locs hl hP hD hS)
def tq_lshr (np : Nat) : Tr := fun lv st σ k => match st with
  | Sum.inl y :: Sum.inr (Sum.inl x) :: r => k np lv (aL (x >>> (y.toInt64 &&& 63)) :: r) σ
  | _ => False
theorem sq_lshr (X : Cx p l s0 a0 s m args meth c cc nL own D ad cA A) (d : decode cc pc = .ok (.lshr, 1)) : Snd (K p l e R s m args below meth c D ad cA A nL cl sl Q) pc (tq_lshr (pc + 1)) := by
  intro lv st σ k h hk ls H locs hl hP hD hS
  match st, h with
  | Sum.inl y :: Sum.inr (Sum.inl x) :: r, h => exact lv_lshr X.1 X.2.1 d rfl (hk _ _ _ _ h ls H locs hl hP hD hS)
def tq_lcmp (np : Nat) : Tr := fun lv st σ k => match st with
  | Sum.inr (Sum.inl y) :: Sum.inr (Sum.inl x) :: r => k np lv (aI (lg_cmp x y) :: r) σ
  | _ => False
theorem sq_lcmp (X : Cx p l s0 a0 s m args meth c cc nL own D ad cA A) (d : decode cc pc = .ok (.lcmp, 1)) : Snd (K p l e R s m args below meth c D ad cA A nL cl sl Q) pc (tq_lcmp (pc + 1)) := by
  intro lv st σ k h hk ls H locs hl hP hD hS
  match st, h with
  | Sum.inr (Sum.inl y) :: Sum.inr (Sum.inl x) :: r, h => exact W.lcmp X.1 X.2.1 d (hk _ _ _ _ h ls H locs hl hP hD hS)
def tq_ddiv (np : Nat) : Tr := fun lv st σ k => match st with
  | Sum.inr (Sum.inr (Sum.inl y)) :: Sum.inr (Sum.inr (Sum.inl x)) :: r => (vf_n64 (FP.ddiv x y)) ∧ k np lv (aD (FP.ddiv x y) :: r) σ
  | _ => False
theorem sq_ddiv (X : Cx p l s0 a0 s m args meth c cc nL own D ad cA A) (d : decode cc pc = .ok (.ddiv, 1)) : Snd (K p l e R s m args below meth c D ad cA A nL cl sl Q) pc (tq_ddiv (pc + 1)) := by
  intro lv st σ k h hk ls H locs hl hP hD hS
  match st, h with
  | Sum.inr (Sum.inr (Sum.inl y)) :: Sum.inr (Sum.inr (Sum.inl x)) :: r, h => exact lv_ddiv X.1 X.2.1 d h.1 (hk _ _ _ _ h.2 ls H locs hl hP hD hS)
def tq_i2l (np : Nat) : Tr := fun lv st σ k => match st with
  | Sum.inl x :: r => k np lv (aL x.toInt64 :: r) σ
  | _ => False
theorem sq_i2l (X : Cx p l s0 a0 s m args meth c cc nL own D ad cA A) (d : decode cc pc = .ok (.i2l, 1)) : Snd (K p l e R s m args below meth c D ad cA A nL cl sl Q) pc (tq_i2l (pc + 1)) := by
  intro lv st σ k h hk ls H locs hl hP hD hS
  match st, h with
  | Sum.inl x :: r, h => exact lv_i2l X.1 X.2.1 d rfl (hk _ _ _ _ h ls H locs hl hP hD hS)
def tq_i2d (np : Nat) : Tr := fun lv st σ k => match st with
  | Sum.inl x :: r => k np lv (aD (FP.i2d x) :: r) σ
  | _ => False
theorem sq_i2d (X : Cx p l s0 a0 s m args meth c cc nL own D ad cA A) (d : decode cc pc = .ok (.i2d, 1)) : Snd (K p l e R s m args below meth c D ad cA A nL cl sl Q) pc (tq_i2d (pc + 1)) := by
  intro lv st σ k h hk ls H locs hl hP hD hS
  match st, h with
  | Sum.inl x :: r, h => exact lv_i2d X.1 X.2.1 d (hk _ _ _ _ h ls H locs hl hP hD hS)
def tq_dcmp (op : CmpOp) (np : Nat) : Tr := fun lv st σ k => match st with
  | Sum.inr (Sum.inr (Sum.inl y)) :: Sum.inr (Sum.inr (Sum.inl x)) :: r => k np lv (aI (Op.cmpValue (FP.dcmp x y) op) :: r) σ
  | _ => False
theorem sq_dcmp (X : Cx p l s0 a0 s m args meth c cc nL own D ad cA A) {op : CmpOp} (d : decode cc pc = .ok (.dcmp op, 1)) : Snd (K p l e R s m args below meth c D ad cA A nL cl sl Q) pc (tq_dcmp op (pc + 1)) := by
  intro lv st σ k h hk ls H locs hl hP hD hS
  match st, h with
  | Sum.inr (Sum.inr (Sum.inl y)) :: Sum.inr (Sum.inr (Sum.inl x)) :: r, h => exact lv_dcmp X.1 X.2.1 d (hk _ _ _ _ h ls H locs hl hP hD hS)
def tq_push (v : Int32) (np : Nat) : Tr := fun lv st σ k => k np lv (aI v :: st) σ
theorem sq_iconst (X : Cx p l s0 a0 s m args meth c cc nL own D ad cA A) {n : Int} {v : Int32} (hv : Int32.ofInt n = v) (d : decode cc pc = .ok (.iconst n, 1)) : Snd (K p l e R s m args below meth c D ad cA A nL cl sl Q) pc (tq_push v (pc + 1)) := by
  intro lv st σ k h hk ls H locs hl hP hD hS
  exact lv_iconst X.1 X.2.1 d hv (hk _ _ _ _ h ls H locs hl hP hD hS)
theorem sq_bipush (X : Cx p l s0 a0 s m args meth c cc nL own D ad cA A) {n : Int} {v : Int32} (hv : (Int8.ofInt n).toInt32 = v) (d : decode cc pc = .ok (.bipush n, 2)) : Snd (K p l e R s m args below meth c D ad cA A nL cl sl Q) pc (tq_push v (pc + 2)) := by
  intro lv st σ k h hk ls H locs hl hP hD hS
  exact lv_bipush X.1 X.2.1 d hv (hk _ _ _ _ h ls H locs hl hP hD hS)
theorem sq_sipush (X : Cx p l s0 a0 s m args meth c cc nL own D ad cA A) {n : Int} {v : Int32} (hv : (Int16.ofInt n).toInt32 = v) (d : decode cc pc = .ok (.sipush n, 3)) : Snd (K p l e R s m args below meth c D ad cA A nL cl sl Q) pc (tq_push v (pc + 3)) := by
  intro lv st σ k h hk ls H locs hl hP hD hS
  exact lv_sipush X.1 X.2.1 d hv (hk _ _ _ _ h ls H locs hl hP hD hS)
def tq_pushL (v : Int64) (np : Nat) : Tr := fun lv st σ k => k np lv (aL v :: st) σ
theorem sq_lconst (X : Cx p l s0 a0 s m args meth c cc nL own D ad cA A) {n : Fin 2} {v : Int64} (hv : Int64.ofNat (n : Nat) = v) (d : decode cc pc = .ok (.lconst n, 1)) : Snd (K p l e R s m args below meth c D ad cA A nL cl sl Q) pc (tq_pushL v (pc + 1)) := by
  intro lv st σ k h hk ls H locs hl hP hD hS
  exact lv_lconst X.1 X.2.1 d hv (hk _ _ _ _ h ls H locs hl hP hD hS)
/-- the value of a local is laid on the stack -/
def tq_ild (i np : Nat) : Tr := fun lv st σ k => match lv[i]? with
  | some (some (Sum.inl x)) => k np lv (aI x :: st) σ
  | _ => False
def tq_ald (i np : Nat) : Tr := fun lv st σ k => match lv[i]? with
  | some (some (Sum.inr (Sum.inr (Sum.inr q)))) => k np lv (Sum.inr (Sum.inr (Sum.inr q)) :: st) σ
  | _ => False
def tq_dld (i np : Nat) : Tr := fun lv st σ k => match lv[i]? with
  | some (some (Sum.inr (Sum.inr (Sum.inl x)))) => k np lv (aD x :: st) σ
  | _ => False
theorem sq_iload_n (X : Cx p l s0 a0 s m args meth c cc nL own D ad cA A) {i : Nat} {j : Fin 4} (hj : (j : Nat) = i) (d : decode cc pc = .ok (.iload_n j, 1)) : Snd (K p l e R s m args below meth c D ad cA A nL cl sl Q) pc (tq_ild i (pc + 1)) := by
  intro lv st σ k h hk ls H locs hl hP hD hS
  unfold tq_ild at h
  split at h
  next x hx => exact lv_iload_n X.1 X.2.1 d hj (lv_ld hl hx) (hk _ _ _ _ h ls H locs hl hP hD hS)
  next => exact h.elim
theorem sq_iload (X : Cx p l s0 a0 s m args meth c cc nL own D ad cA A) {i : Nat} (d : decode cc pc = .ok (.iload i, 2)) : Snd (K p l e R s m args below meth c D ad cA A nL cl sl Q) pc (tq_ild i (pc + 2)) := by
  intro lv st σ k h hk ls H locs hl hP hD hS
  unfold tq_ild at h
  split at h
  next x hx => exact lv_iload X.1 X.2.1 d (lv_ld hl hx) (hk _ _ _ _ h ls H locs hl hP hD hS)
  next => exact h.elim
theorem sq_aload_n (X : Cx p l s0 a0 s m args meth c cc nL own D ad cA A) {i : Nat} {j : Fin 4} (hj : (j : Nat) = i) (d : decode cc pc = .ok (.aload_n j, 1)) : Snd (K p l e R s m args below meth c D ad cA A nL cl sl Q) pc (tq_ald i (pc + 1)) := by
  intro lv st σ k h hk ls H locs hl hP hD hS
  unfold tq_ald at h
  split at h
  next x hx => exact lv_aload_n X.1 X.2.1 d hj (lv_ld hl hx) (hk _ _ _ _ h ls H locs hl hP hD hS)
  next => exact h.elim
theorem sq_aload (X : Cx p l s0 a0 s m args meth c cc nL own D ad cA A) {i : Nat} (d : decode cc pc = .ok (.aload i, 2)) : Snd (K p l e R s m args below meth c D ad cA A nL cl sl Q) pc (tq_ald i (pc + 2)) := by
  intro lv st σ k h hk ls H locs hl hP hD hS
  unfold tq_ald at h
  split at h
  next x hx => exact lv_aload X.1 X.2.1 d (lv_ld hl hx) (hk _ _ _ _ h ls H locs hl hP hD hS)
  next => exact h.elim
theorem sq_dload (X : Cx p l s0 a0 s m args meth c cc nL own D ad cA A) {i : Nat} (d : decode cc pc = .ok (.dload i, 2)) : Snd (K p l e R s m args below meth c D ad cA A nL cl sl Q) pc (tq_dld i (pc + 2)) := by
  intro lv st σ k h hk ls H locs hl hP hD hS
  unfold tq_dld at h
  split at h
  next x hx => exact lv_dload X.1 X.2.1 d (lv_ld hl hx) (hk _ _ _ _ h ls H locs hl hP hD hS)
  next => exact h.elim
def tq_ist (i np : Nat) : Tr := fun lv st σ k => match st with
  | Sum.inl x :: r => cond (ok1 lv i) (k np (lv.set i (some (aI x))) r σ) False
  | _ => False
def tq_ast (i np : Nat) : Tr := fun lv st σ k => match st with
  | Sum.inr (Sum.inr (Sum.inr x)) :: r => cond (ok1 lv i) (k np (lv.set i (some (Sum.inr (Sum.inr (Sum.inr x))))) r σ) False
  | _ => False
def tq_dst (i np : Nat) : Tr := fun lv st σ k => match st with
  | Sum.inr (Sum.inr (Sum.inl x)) :: r => cond (ok1 lv i) (k np ((lv.set i (some (aD x))).set (i + 1) none) r σ) False
  | _ => False
def tq_iinc (i : Nat) (v : Int32) (np : Nat) : Tr := fun lv st σ k => match lv[i]? with
  | some (some (Sum.inl x)) => cond (ok1 lv i) (k np (lv.set i (some (aI (x + v)))) st σ) False
  | _ => False
theorem sq_istore_n (X : Cx p l s0 a0 s m args meth c cc nL own D ad cA A) {i : Nat} {j : Fin 4} (hj : (j : Nat) = i) (hi : i < nL) (d : decode cc pc = .ok (.istore_n j, 1)) : Snd (K p l e R s m args below meth c D ad cA A nL cl sl Q) pc (tq_ist i (pc + 1)) := by
  intro lv st σ k h hk ls H locs hl hP hD hS
  match st, h with
  | Sum.inl x :: r, h =>
    cases ho : ok1 lv i with
    | false => simp only [tq_ist, ho, cond] at h
    | true =>
      simp only [tq_ist, ho, cond] at h
      exact lv_istore_n X.1 X.2.1 d hj hl hi rfl (fun ls' hl' => hk _ _ _ _ h ls' H locs (lv_set1 ho hl') hP hD hS)
theorem sq_istore (X : Cx p l s0 a0 s m args meth c cc nL own D ad cA A) {i : Nat} (hi : i < nL) (d : decode cc pc = .ok (.istore i, 2)) : Snd (K p l e R s m args below meth c D ad cA A nL cl sl Q) pc (tq_ist i (pc + 2)) := by
  intro lv st σ k h hk ls H locs hl hP hD hS
  match st, h with
  | Sum.inl x :: r, h =>
    cases ho : ok1 lv i with
    | false => simp only [tq_ist, ho, cond] at h
    | true =>
      simp only [tq_ist, ho, cond] at h
      exact lv_istore X.1 X.2.1 d hl hi rfl (fun ls' hl' => hk _ _ _ _ h ls' H locs (lv_set1 ho hl') hP hD hS)
theorem sq_astore_n (X : Cx p l s0 a0 s m args meth c cc nL own D ad cA A) {i : Nat} {j : Fin 4} (hj : (j : Nat) = i) (hi : i < nL) (d : decode cc pc = .ok (.astore_n j, 1)) : Snd (K p l e R s m args below meth c D ad cA A nL cl sl Q) pc (tq_ast i (pc + 1)) := by
  intro lv st σ k h hk ls H locs hl hP hD hS
  match st, h with
  | Sum.inr (Sum.inr (Sum.inr x)) :: r, h =>
    cases ho : ok1 lv i with
    | false => simp only [tq_ast, ho, cond] at h
    | true =>
      simp only [tq_ast, ho, cond] at h
      exact lv_astore_n X.1 X.2.1 d hj hl hi rfl (fun ls' hl' => hk _ _ _ _ h ls' H locs (lv_set1 ho hl') hP hD hS)
theorem sq_astore (X : Cx p l s0 a0 s m args meth c cc nL own D ad cA A) {i : Nat} (hi : i < nL) (d : decode cc pc = .ok (.astore i, 2)) : Snd (K p l e R s m args below meth c D ad cA A nL cl sl Q) pc (tq_ast i (pc + 2)) := by
  intro lv st σ k h hk ls H locs hl hP hD hS
  match st, h with
  | Sum.inr (Sum.inr (Sum.inr x)) :: r, h =>
    cases ho : ok1 lv i with
    | false => simp only [tq_ast, ho, cond] at h
    | true =>
      simp only [tq_ast, ho, cond] at h
      exact lv_astore X.1 X.2.1 d hl hi rfl (fun ls' hl' => hk _ _ _ _ h ls' H locs (lv_set1 ho hl') hP hD hS)
theorem sq_dstore (X : Cx p l s0 a0 s m args meth c cc nL own D ad cA A) {i : Nat} (hi : i + 1 < nL) (d : decode cc pc = .ok (.dstore i, 2)) : Snd (K p l e R s m args below meth c D ad cA A nL cl sl Q) pc (tq_dst i (pc + 2)) := by
  intro lv st σ k h hk ls H locs hl hP hD hS
  match st, h with
  | Sum.inr (Sum.inr (Sum.inl x)) :: r, h =>
    cases ho : ok1 lv i with
    | false => simp only [tq_dst, ho, cond] at h
    | true =>
      simp only [tq_dst, ho, cond] at h
      exact lv_dstore X.1 X.2.1 d hl hi rfl (fun ls' hl' => hk _ _ _ _ h ls' H locs (lv_set2 ho hl') hP hD hS)
theorem sq_iinc (X : Cx p l s0 a0 s m args meth c cc nL own D ad cA A) {i : Nat} {n : Int} {v : Int32} (hi : i < nL) (hv : Int32.ofInt n = v) (d : decode cc pc = .ok (.iinc i n, 3)) : Snd (K p l e R s m args below meth c D ad cA A nL cl sl Q) pc (tq_iinc i v (pc + 3)) := by
  intro lv st σ k h hk ls H locs hl hP hD hS
  unfold tq_iinc at h
  split at h
  next x hx =>
    cases ho : ok1 lv i with
    | false => simp only [ho, cond] at h
    | true =>
      simp only [ho, cond] at h
      obtain ⟨q, hq⟩ := List.getElem?_of_mem ((mem_lvl (ad := ad) lv 0).mpr ⟨i, aI x, hx, rfl⟩)
      rw [Nat.zero_add] at hq
      exact lv_iinc (v := x + v) X.1 X.2.1 d hl hq (by rw [hv]) hi rfl (fun ls' hl' => hk _ _ _ _ h ls' H locs (lv_set1 (a := aI (x + v)) ho hl') hP hD hS)
  next => exact h.elim
def tq_goto (np : Nat) : Tr := fun lv st σ k => k np lv st σ
theorem sq_goto (X : Cx p l s0 a0 s m args meth c cc nL own D ad cA A) {off : Int} {tgt : Nat} (ht : (pc : Int) + off = (tgt : Int)) (d : decode cc pc = .ok (.goto off, 3)) : Snd (K p l e R s m args below meth c D ad cA A nL cl sl Q) pc (tq_goto tgt) := by
  intro lv st σ k h hk ls H locs hl hP hD hS
  exact lv_goto X.1 X.2.1 d ht (hk _ _ _ _ h ls H locs hl hP hD hS)
def tq_dup (np : Nat) : Tr := fun lv st σ k => match st with
  | Sum.inl x :: r => k np lv (aI x :: aI x :: r) σ
  | Sum.inr (Sum.inr (Sum.inr x)) :: r => k np lv (Sum.inr (Sum.inr (Sum.inr x)) :: Sum.inr (Sum.inr (Sum.inr x)) :: r) σ
  | _ => False
theorem sq_dup (X : Cx p l s0 a0 s m args meth c cc nL own D ad cA A) (d : decode cc pc = .ok (.dup, 1)) : Snd (K p l e R s m args below meth c D ad cA A nL cl sl Q) pc (tq_dup (pc + 1)) := by
  intro lv st σ k h hk ls H locs hl hP hD hS
  match st, h with
  | Sum.inl x :: r, h => exact lv_dup (va := .int x) X.1 X.2.1 d rfl (hk _ _ _ _ h ls H locs hl hP hD hS)
  | Sum.inr (Sum.inr (Sum.inr x)) :: r, h => exact lv_dup (va := .ref (ad x.1 x.2)) X.1 X.2.1 d rfl (hk _ _ _ _ h ls H locs hl hP hD hS)
def tq_if_eq (tg np : Nat) : Tr := fun lv st σ k => match st with
  | Sum.inl x :: r => (x = 0 → k tg lv r σ) ∧ (¬ x = 0 → k np lv r σ)
  | _ => False
theorem sq_if_eq (X : Cx p l s0 a0 s m args meth c cc nL own D ad cA A) {off : Int} {tgt : Nat} (ht : (pc : Int) + off = (tgt : Int)) (d : decode cc pc = .ok (.ifCond .eq off, 3)) : Snd (K p l e R s m args below meth c D ad cA A nL cl sl Q) pc (tq_if_eq tgt (pc + 3)) := by
  intro lv st σ k h hk ls H locs hl hP hD hS
  match st, h with
  | Sum.inl x :: r, h => exact lv_if_eq X.1 X.2.1 d ht (fun hc => hk _ _ _ _ (h.1 hc) ls H locs hl hP hD hS) (fun hc => hk _ _ _ _ (h.2 hc) ls H locs hl hP hD hS)
def tq_ic_eq (tg np : Nat) : Tr := fun lv st σ k => match st with
  | Sum.inl y :: Sum.inl x :: r => (x = y → k tg lv r σ) ∧ (¬ x = y → k np lv r σ)
  | _ => False
theorem sq_ic_eq (X : Cx p l s0 a0 s m args meth c cc nL own D ad cA A) {off : Int} {tgt : Nat} (ht : (pc : Int) + off = (tgt : Int)) (d : decode cc pc = .ok (.if_icmp .eq off, 3)) : Snd (K p l e R s m args below meth c D ad cA A nL cl sl Q) pc (tq_ic_eq tgt (pc + 3)) := by
  intro lv st σ k h hk ls H locs hl hP hD hS
  match st, h with
  | Sum.inl y :: Sum.inl x :: r, h => exact lv_icmp_eq X.1 X.2.1 d ht (fun hc => hk _ _ _ _ (h.1 hc) ls H locs hl hP hD hS) (fun hc => hk _ _ _ _ (h.2 hc) ls H locs hl hP hD hS)
def tq_if_ne (tg np : Nat) : Tr := fun lv st σ k => match st with
  | Sum.inl x :: r => (¬ x = 0 → k tg lv r σ) ∧ (x = 0 → k np lv r σ)
  | _ => False
theorem sq_if_ne (X : Cx p l s0 a0 s m args meth c cc nL own D ad cA A) {off : Int} {tgt : Nat} (ht : (pc : Int) + off = (tgt : Int)) (d : decode cc pc = .ok (.ifCond .ne off, 3)) : Snd (K p l e R s m args below meth c D ad cA A nL cl sl Q) pc (tq_if_ne tgt (pc + 3)) := by
  intro lv st σ k h hk ls H locs hl hP hD hS
  match st, h with
  | Sum.inl x :: r, h => exact lv_if_ne X.1 X.2.1 d ht (fun hc => hk _ _ _ _ (h.1 hc) ls H locs hl hP hD hS) (fun hc => hk _ _ _ _ (h.2 hc) ls H locs hl hP hD hS)
def tq_ic_ne (tg np : Nat) : Tr := fun lv st σ k => match st with
  | Sum.inl y :: Sum.inl x :: r => (¬ x = y → k tg lv r σ) ∧ (x = y → k np lv r σ)
  | _ => False
theorem sq_ic_ne (X : Cx p l s0 a0 s m args meth c cc nL own D ad cA A) {off : Int} {tgt : Nat} (ht : (pc : Int) + off = (tgt : Int)) (d : decode cc pc = .ok (.if_icmp .ne off, 3)) : Snd (K p l e R s m args below meth c D ad cA A nL cl sl Q) pc (tq_ic_ne tgt (pc + 3)) := by
  intro lv st σ k h hk ls H locs hl hP hD hS
  match st, h with
  | Sum.inl y :: Sum.inl x :: r, h => exact lv_icmp_ne X.1 X.2.1 d ht (fun hc => hk _ _ _ _ (h.1 hc) ls H locs hl hP hD hS) (fun hc => hk _ _ _ _ (h.2 hc) ls H locs hl hP hD hS)
def tq_if_lt (tg np : Nat) : Tr := fun lv st σ k => match st with
  | Sum.inl x :: r => (x < 0 → k tg lv r σ) ∧ (¬ x < 0 → k np lv r σ)
  | _ => False
theorem sq_if_lt (X : Cx p l s0 a0 s m args meth c cc nL own D ad cA A) {off : Int} {tgt : Nat} (ht : (pc : Int) + off = (tgt : Int)) (d : decode cc pc = .ok (.ifCond .lt off, 3)) : Snd (K p l e R s m args below meth c D ad cA A nL cl sl Q) pc (tq_if_lt tgt (pc + 3)) := by
  intro lv st σ k h hk ls H locs hl hP hD hS
  match st, h with
  | Sum.inl x :: r, h => exact lv_if_lt X.1 X.2.1 d ht (fun hc => hk _ _ _ _ (h.1 hc) ls H locs hl hP hD hS) (fun hc => hk _ _ _ _ (h.2 hc) ls H locs hl hP hD hS)
def tq_ic_lt (tg np : Nat) : Tr := fun lv st σ k => match st with
  | Sum.inl y :: Sum.inl x :: r => (x < y → k tg lv r σ) ∧ (¬ x < y → k np lv r σ)
  | _ => False
theorem sq_ic_lt (X : Cx p l s0 a0 s m args meth c cc nL own D ad cA A) {off : Int} {tgt : Nat} (ht : (pc : Int) + off = (tgt : Int)) (d : decode cc pc = .ok (.if_icmp .lt off, 3)) : Snd (K p l e R s m args below meth c D ad cA A nL cl sl Q) pc (tq_ic_lt tgt (pc + 3)) := by
  intro lv st σ k h hk ls H locs hl hP hD hS
  match st, h with
  | Sum.inl y :: Sum.inl x :: r, h => exact lv_icmp_lt X.1 X.2.1 d ht (fun hc => hk _ _ _ _ (h.1 hc) ls H locs hl hP hD hS) (fun hc => hk _ _ _ _ (h.2 hc) ls H locs hl hP hD hS)
def tq_if_ge (tg np : Nat) : Tr := fun lv st σ k => match st with
  | Sum.inl x :: r => (0 ≤ x → k tg lv r σ) ∧ (¬ 0 ≤ x → k np lv r σ)
  | _ => False
theorem sq_if_ge (X : Cx p l s0 a0 s m args meth c cc nL own D ad cA A) {off : Int} {tgt : Nat} (ht : (pc : Int) + off = (tgt : Int)) (d : decode cc pc = .ok (.ifCond .ge off, 3)) : Snd (K p l e R s m args below meth c D ad cA A nL cl sl Q) pc (tq_if_ge tgt (pc + 3)) := by
  intro lv st σ k h hk ls H locs hl hP hD hS
  match st, h with
  | Sum.inl x :: r, h => exact lv_if_ge X.1 X.2.1 d ht (fun hc => hk _ _ _ _ (h.1 hc) ls H locs hl hP hD hS) (fun hc => hk _ _ _ _ (h.2 hc) ls H locs hl hP hD hS)
def tq_ic_ge (tg np : Nat) : Tr := fun lv st σ k => match st with
  | Sum.inl y :: Sum.inl x :: r => (y ≤ x → k tg lv r σ) ∧ (¬ y ≤ x → k np lv r σ)
  | _ => False
theorem sq_ic_ge (X : Cx p l s0 a0 s m args meth c cc nL own D ad cA A) {off : Int} {tgt : Nat} (ht : (pc : Int) + off = (tgt : Int)) (d : decode cc pc = .ok (.if_icmp .ge off, 3)) : Snd (K p l e R s m args below meth c D ad cA A nL cl sl Q) pc (tq_ic_ge tgt (pc + 3)) := by
  intro lv st σ k h hk ls H locs hl hP hD hS
  match st, h with
  | Sum.inl y :: Sum.inl x :: r, h => exact lv_icmp_ge X.1 X.2.1 d ht (fun hc => hk _ _ _ _ (h.1 hc) ls H locs hl hP hD hS) (fun hc => hk _ _ _ _ (h.2 hc) ls H locs hl hP hD hS)
def tq_if_gt (tg np : Nat) : Tr := fun lv st σ k => match st with
  | Sum.inl x :: r => (0 < x → k tg lv r σ) ∧ (¬ 0 < x → k np lv r σ)
  | _ => False
theorem sq_if_gt (X : Cx p l s0 a0 s m args meth c cc nL own D ad cA A) {off : Int} {tgt : Nat} (ht : (pc : Int) + off = (tgt : Int)) (d : decode cc pc = .ok (.ifCond .gt off, 3)) : Snd (K p l e R s m args below meth c D ad cA A nL cl sl Q) pc (tq_if_gt tgt (pc + 3)) := by
  intro lv st σ k h hk ls H locs hl hP hD hS
  match st, h with
  | Sum.inl x :: r, h => exact lv_if_gt X.1 X.2.1 d ht (fun hc => hk _ _ _ _ (h.1 hc) ls H locs hl hP hD hS) (fun hc => hk _ _ _ _ (h.2 hc) ls H locs hl hP hD hS)
def tq_ic_gt (tg np : Nat) : Tr := fun lv st σ k => match st with
  | Sum.inl y :: Sum.inl x :: r => (y < x → k tg lv r σ) ∧ (¬ y < x → k np lv r σ)
  | _ => False
theorem sq_ic_gt (X : Cx p l s0 a0 s m args meth c cc nL own D ad cA A) {off : Int} {tgt : Nat} (ht : (pc : Int) + off = (tgt : Int)) (d : decode cc pc = .ok (.if_icmp .gt off, 3)) : Snd (K p l e R s m args below meth c D ad cA A nL cl sl Q) pc (tq_ic_gt tgt (pc + 3)) := by
  intro lv st σ k h hk ls H locs hl hP hD hS
  match st, h with
  | Sum.inl y :: Sum.inl x :: r, h => exact lv_icmp_gt X.1 X.2.1 d ht (fun hc => hk _ _ _ _ (h.1 hc) ls H locs hl hP hD hS) (fun hc => hk _ _ _ _ (h.2 hc) ls H locs hl hP hD hS)
def tq_if_le (tg np : Nat) : Tr := fun lv st σ k => match st with
  | Sum.inl x :: r => (x ≤ 0 → k tg lv r σ) ∧ (¬ x ≤ 0 → k np lv r σ)
  | _ => False
theorem sq_if_le (X : Cx p l s0 a0 s m args meth c cc nL own D ad cA A) {off : Int} {tgt : Nat} (ht : (pc : Int) + off = (tgt : Int)) (d : decode cc pc = .ok (.ifCond .le off, 3)) : Snd (K p l e R s m args below meth c D ad cA A nL cl sl Q) pc (tq_if_le tgt (pc + 3)) := by
  intro lv st σ k h hk ls H locs hl hP hD hS
  match st, h with
  | Sum.inl x :: r, h => exact lv_if_le X.1 X.2.1 d ht (fun hc => hk _ _ _ _ (h.1 hc) ls H locs hl hP hD hS) (fun hc => hk _ _ _ _ (h.2 hc) ls H locs hl hP hD hS)
def tq_ic_le (tg np : Nat) : Tr := fun lv st σ k => match st with
  | Sum.inl y :: Sum.inl x :: r => (x ≤ y → k tg lv r σ) ∧ (¬ x ≤ y → k np lv r σ)
  | _ => False
theorem sq_ic_le (X : Cx p l s0 a0 s m args meth c cc nL own D ad cA A) {off : Int} {tgt : Nat} (ht : (pc : Int) + off = (tgt : Int)) (d : decode cc pc = .ok (.if_icmp .le off, 3)) : Snd (K p l e R s m args below meth c D ad cA A nL cl sl Q) pc (tq_ic_le tgt (pc + 3)) := by
  intro lv st σ k h hk ls H locs hl hP hD hS
  match st, h with
  | Sum.inl y :: Sum.inl x :: r, h => exact lv_icmp_le X.1 X.2.1 d ht (fun hc => hk _ _ _ _ (h.1 hc) ls H locs hl hP hD hS) (fun hc => hk _ _ _ _ (h.2 hc) ls H locs hl hP hD hS)
end CORE
