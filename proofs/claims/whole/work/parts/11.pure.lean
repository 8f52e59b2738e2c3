/-! THE PURE PICTURE: the table of nodes, what expressions and conditions give -/
abbrev Tbl : Type := Nat → Nat → Int32
abbrev ix (x : Int32) : Nat := x.toNatClampNeg
/-- the class's table, the reference's table -/
def tC (σ : Mem) : Tbl := fun j k => if j < 5 then rd σ (2 + j) 0 k else 0
def tM (σ : Mem) : Tbl := fun j k => if j < 5 then rd σ (12 + j) 0 k else 0
def hN (t : Tbl) (k : Nat) : Nat := ix (t 4 k)
theorem vp_lt {x : Int32} {n : Nat} (h : vp_in x n) : ix x < n := Nat.not_le.mp fun q => h (Or.inr q)
theorem vp_mono {x : Int32} {n k : Nat} (h : vp_in x n) (hk : n ≤ k) : vp_in x k := fun q => h (q.elim Or.inl (fun z => Or.inr (Nat.le_trans hk z)))
/-- word x of node k is a node made before, of the kinds lo .. hi, and lower -/
def chk (t : Tbl) (k : Nat) (lo hi x : Int32) : Prop := vp_in x k ∧ lo ≤ t 0 (ix x) ∧ t 0 (ix x) ≤ hi ∧ hN t (ix x) < hN t k
def wfn (t : Tbl) (k : Nat) : Prop :=
  (0 ≤ t 0 k ∧ t 0 k ≤ 15) ∧ (1 ≤ hN t k ∧ hN t k ≤ 6) ∧
  (t 0 k = 2 ∨ t 0 k = 3 ∨ t 0 k = 5 ∨ t 0 k = 6 → chk t k 0 4 (t 1 k) ∧ chk t k 0 4 (t 2 k)) ∧
  (t 0 k = 4 ∨ t 0 k = 7 ∨ t 0 k = 12 → chk t k 0 4 (t 2 k)) ∧ (t 0 k = 7 → 1 ≤ t 1 k) ∧ (t 0 k = 12 → 0 ≤ t 1 k ∧ t 1 k ≤ 2) ∧
  (t 0 k = 8 ∨ t 0 k = 9 ∨ t 0 k = 10 → chk t k 5 10 (t 1 k)) ∧ (t 0 k = 9 ∨ t 0 k = 10 → chk t k 5 10 (t 2 k)) ∧
  (t 0 k = 13 → chk t k 11 15 (t 1 k) ∧ chk t k 11 15 (t 2 k)) ∧
  (t 0 k = 14 → chk t k 5 10 (t 1 k) ∧ chk t k 11 15 (t 2 k) ∧ chk t k 11 15 (t 3 k)) ∧
  (t 0 k = 15 → chk t k 5 10 (t 1 k) ∧ chk t k 5 10 (t 2 k) ∧ chk t k 11 15 (t 3 k))
def WF (t : Tbl) (n : Nat) : Prop := n ≤ 60 ∧ ∀ k, k < n → wfn t k
/-- x is a node of the kinds lo .. hi -/
def isN (t : Tbl) (n : Nat) (lo hi x : Int32) : Prop := vp_in x n ∧ lo ≤ t 0 (ix x) ∧ t 0 (ix x) ≤ hi
theorem chk.isN {t : Tbl} {n k : Nat} {lo hi x : Int32} (h : chk t k lo hi x) (hk : k ≤ n) : isN t n lo hi x := ⟨vp_mono h.1 hk, h.2.1, h.2.2.1⟩
def evs (t : Tbl) (s : Int32) (f : Nat → Int32) (k : Nat) : Int32 :=
  if t 0 k = 0 then t 1 k
  else if t 0 k = 1 then (s >>> ((4 * t 1 k) &&& 31)) &&& 15
  else if t 0 k = 2 then f (ix (t 1 k)) + f (ix (t 2 k))
  else if t 0 k = 3 then f (ix (t 1 k)) - f (ix (t 2 k))
  else if t 0 k = 4 then t 1 k * f (ix (t 2 k))
  else if t 0 k = 5 then (if f (ix (t 1 k)) < f (ix (t 2 k)) then 1 else 0)
  else if t 0 k = 6 then (if f (ix (t 1 k)) = f (ix (t 2 k)) then 1 else 0)
  else if t 0 k = 7 then (if f (ix (t 2 k)) - f (ix (t 2 k)) / t 1 k * t 1 k = 0 then 1 else 0)
  else if t 0 k = 8 then 1 - f (ix (t 1 k))
  else if t 0 k = 9 then f (ix (t 1 k)) &&& f (ix (t 2 k))
  else f (ix (t 1 k)) ||| f (ix (t 2 k))
def evf (t : Tbl) (s : Int32) : Nat → Nat → Int32
  | 0, _ => 0
  | d + 1, k => evs t s (evf t s d) k
def EV (t : Tbl) (s : Int32) (k : Nat) : Int32 := evf t s 6 k
theorem evs0 {t : Tbl} {s : Int32} {f : Nat → Int32} {k : Nat} (h : t 0 k = 0) : evs t s f k = t 1 k := by
  unfold evs
  rw [if_pos h]
theorem evs1 {t : Tbl} {s : Int32} {f : Nat → Int32} {k : Nat} (h : t 0 k = 1) : evs t s f k = (s >>> ((4 * t 1 k) &&& 31)) &&& 15 := by
  unfold evs
  rw [if_neg (by rw [h]; decide), if_pos h]
theorem evs2 {t : Tbl} {s : Int32} {f : Nat → Int32} {k : Nat} (h : t 0 k = 2) : evs t s f k = f (ix (t 1 k)) + f (ix (t 2 k)) := by
  unfold evs
  rw [if_neg (by rw [h]; decide), if_neg (by rw [h]; decide), if_pos h]
theorem evs3 {t : Tbl} {s : Int32} {f : Nat → Int32} {k : Nat} (h : t 0 k = 3) : evs t s f k = f (ix (t 1 k)) - f (ix (t 2 k)) := by
  unfold evs
  rw [if_neg (by rw [h]; decide), if_neg (by rw [h]; decide), if_neg (by rw [h]; decide), if_pos h]
theorem evs4 {t : Tbl} {s : Int32} {f : Nat → Int32} {k : Nat} (h : t 0 k = 4) : evs t s f k = t 1 k * f (ix (t 2 k)) := by
  unfold evs
  rw [if_neg (by rw [h]; decide), if_neg (by rw [h]; decide), if_neg (by rw [h]; decide), if_neg (by rw [h]; decide), if_pos h]
theorem evs5 {t : Tbl} {s : Int32} {f : Nat → Int32} {k : Nat} (h : t 0 k = 5) : evs t s f k = (if f (ix (t 1 k)) < f (ix (t 2 k)) then 1 else 0) := by
  unfold evs
  rw [if_neg (by rw [h]; decide), if_neg (by rw [h]; decide), if_neg (by rw [h]; decide), if_neg (by rw [h]; decide), if_neg (by rw [h]; decide), if_pos h]
theorem evs6 {t : Tbl} {s : Int32} {f : Nat → Int32} {k : Nat} (h : t 0 k = 6) : evs t s f k = (if f (ix (t 1 k)) = f (ix (t 2 k)) then 1 else 0) := by
  unfold evs
  rw [if_neg (by rw [h]; decide), if_neg (by rw [h]; decide), if_neg (by rw [h]; decide), if_neg (by rw [h]; decide), if_neg (by rw [h]; decide), if_neg (by rw [h]; decide), if_pos h]
theorem evs7 {t : Tbl} {s : Int32} {f : Nat → Int32} {k : Nat} (h : t 0 k = 7) : evs t s f k = (if f (ix (t 2 k)) - f (ix (t 2 k)) / t 1 k * t 1 k = 0 then 1 else 0) := by
  unfold evs
  rw [if_neg (by rw [h]; decide), if_neg (by rw [h]; decide), if_neg (by rw [h]; decide), if_neg (by rw [h]; decide), if_neg (by rw [h]; decide), if_neg (by rw [h]; decide), if_neg (by rw [h]; decide), if_pos h]
theorem evs8 {t : Tbl} {s : Int32} {f : Nat → Int32} {k : Nat} (h : t 0 k = 8) : evs t s f k = 1 - f (ix (t 1 k)) := by
  unfold evs
  rw [if_neg (by rw [h]; decide), if_neg (by rw [h]; decide), if_neg (by rw [h]; decide), if_neg (by rw [h]; decide), if_neg (by rw [h]; decide), if_neg (by rw [h]; decide), if_neg (by rw [h]; decide), if_neg (by rw [h]; decide), if_pos h]
theorem evs9 {t : Tbl} {s : Int32} {f : Nat → Int32} {k : Nat} (h : t 0 k = 9) : evs t s f k = f (ix (t 1 k)) &&& f (ix (t 2 k)) := by
  unfold evs
  rw [if_neg (by rw [h]; decide), if_neg (by rw [h]; decide), if_neg (by rw [h]; decide), if_neg (by rw [h]; decide), if_neg (by rw [h]; decide), if_neg (by rw [h]; decide), if_neg (by rw [h]; decide), if_neg (by rw [h]; decide), if_neg (by rw [h]; decide), if_pos h]
theorem evs10 {t : Tbl} {s : Int32} {f : Nat → Int32} {k : Nat} (h : t 0 k = 10) : evs t s f k = f (ix (t 1 k)) ||| f (ix (t 2 k)) := by
  unfold evs
  rw [if_neg (by rw [h]; decide), if_neg (by rw [h]; decide), if_neg (by rw [h]; decide), if_neg (by rw [h]; decide), if_neg (by rw [h]; decide), if_neg (by rw [h]; decide), if_neg (by rw [h]; decide), if_neg (by rw [h]; decide), if_neg (by rw [h]; decide), if_neg (by rw [h]; decide)]
theorem i32_cases {x : Int32} (h0 : 0 ≤ x) (h1 : x ≤ 15) : x = 0 ∨ x = 1 ∨ x = 2 ∨ x = 3 ∨ x = 4 ∨ x = 5 ∨ x = 6 ∨ x = 7 ∨ x = 8 ∨ x = 9 ∨ x = 10 ∨ x = 11 ∨ x = 12 ∨ x = 13 ∨ x = 14 ∨ x = 15 := by
  have a := Int32.le_iff_toInt_le.mp h0
  have b := Int32.le_iff_toInt_le.mp h1
  have e0 : (0 : Int32).toInt = 0 := by decide
  have e1 : (15 : Int32).toInt = 15 := by decide
  rw [e0] at a
  rw [e1] at b
  have key : ∀ v : Int32, x.toInt = v.toInt → x = v := fun v h => Int32.toInt_inj.mp h
  have hz : x.toInt = 0 ∨ x.toInt = 1 ∨ x.toInt = 2 ∨ x.toInt = 3 ∨ x.toInt = 4 ∨ x.toInt = 5 ∨ x.toInt = 6 ∨ x.toInt = 7 ∨ x.toInt = 8 ∨ x.toInt = 9 ∨ x.toInt = 10 ∨ x.toInt = 11 ∨ x.toInt = 12 ∨ x.toInt = 13 ∨ x.toInt = 14 ∨ x.toInt = 15 := by omega
  rcases hz with h | h | h | h | h | h | h | h | h | h | h | h | h | h | h | h
  · have := key 0 h; subst this; decide
  · have := key 1 h; subst this; decide
  · have := key 2 h; subst this; decide
  · have := key 3 h; subst this; decide
  · have := key 4 h; subst this; decide
  · have := key 5 h; subst this; decide
  · have := key 6 h; subst this; decide
  · have := key 7 h; subst this; decide
  · have := key 8 h; subst this; decide
  · have := key 9 h; subst this; decide
  · have := key 10 h; subst this; decide
  · have := key 11 h; subst this; decide
  · have := key 12 h; subst this; decide
  · have := key 13 h; subst this; decide
  · have := key 14 h; subst this; decide
  · have := key 15 h; subst this; decide
/-- evs looks at the words that are nodes alone -/
theorem evs_congr {t : Tbl} {s : Int32} {f g : Nat → Int32} {k : Nat} (hw : wfn t k) (hk : t 0 k ≤ 10)
    (h : ∀ x lo hi, chk t k lo hi x → hi ≤ 10 → f (ix x) = g (ix x)) : evs t s f k = evs t s g k := by
  obtain ⟨⟨h0, h15⟩, -, hE, hB, -, -, hC, hC2, -⟩ := hw
  have l4 : (4 : Int32) ≤ 10 := by decide
  have l10 : (10 : Int32) ≤ 10 := by decide
  rcases i32_cases h0 h15 with e | e | e | e | e | e | e | e | e | e | e | e | e | e | e | e
  · rw [evs0 e, evs0 e]
  · rw [evs1 e, evs1 e]
  · obtain ⟨ha, hb⟩ := hE (Or.inl e); rw [evs2 e, evs2 e, h _ _ _ ha l4, h _ _ _ hb l4]
  · obtain ⟨ha, hb⟩ := hE (Or.inr (Or.inl e)); rw [evs3 e, evs3 e, h _ _ _ ha l4, h _ _ _ hb l4]
  · have hb := hB (Or.inl e); rw [evs4 e, evs4 e, h _ _ _ hb l4]
  · obtain ⟨ha, hb⟩ := hE (Or.inr (Or.inr (Or.inl e))); rw [evs5 e, evs5 e, h _ _ _ ha l4, h _ _ _ hb l4]
  · obtain ⟨ha, hb⟩ := hE (Or.inr (Or.inr (Or.inr e))); rw [evs6 e, evs6 e, h _ _ _ ha l4, h _ _ _ hb l4]
  · have hb := hB (Or.inr (Or.inl e)); rw [evs7 e, evs7 e, h _ _ _ hb l4]
  · have ha := hC (Or.inl e); rw [evs8 e, evs8 e, h _ _ _ ha l10]
  · have ha := hC (Or.inr (Or.inl e)); have hb := hC2 (Or.inl e); rw [evs9 e, evs9 e, h _ _ _ ha l10, h _ _ _ hb l10]
  · have ha := hC (Or.inr (Or.inr e)); have hb := hC2 (Or.inr e); rw [evs10 e, evs10 e, h _ _ _ ha l10, h _ _ _ hb l10]
  all_goals (rw [e] at hk; exact absurd hk (by decide))
theorem i32_le_trans {a b c : Int32} (h1 : a ≤ b) (h2 : b ≤ c) : a ≤ c := Int32.le_trans h1 h2
theorem evf_eq {t : Tbl} {n : Nat} (hw : WF t n) (s : Int32) : ∀ (d d' k : Nat), k < n → t 0 k ≤ 10 → hN t k ≤ d → hN t k ≤ d' → evf t s d k = evf t s d' k := by
  intro d
  induction d with
  | zero => intro d' k hk _ hd _; have := (hw.2 k hk).2.1.1; omega
  | succ d ih =>
    intro d' k hk h10 hd hd'
    cases d' with
    | zero => have := (hw.2 k hk).2.1.1; omega
    | succ d' =>
      show evs t s (evf t s d) k = evs t s (evf t s d') k
      refine evs_congr (hw.2 k hk) h10 (fun x lo hi hc hh => ?_)
      have hx := vp_lt hc.1
      exact ih d' (ix x) (by omega) (Int32.le_trans hc.2.2.1 hh) (by have := hc.2.2.2; omega) (by have := hc.2.2.2; omega)
theorem EV_unf {t : Tbl} {n : Nat} (hw : WF t n) (s : Int32) {k : Nat} (hk : k < n) (h10 : t 0 k ≤ 10) : EV t s k = evs t s (EV t s) k := by
  show evs t s (evf t s 5) k = evs t s (evf t s 6) k
  refine evs_congr (hw.2 k hk) h10 (fun x lo hi hc hh => ?_)
  have hx := vp_lt hc.1
  have h6 := (hw.2 k hk).2.1.2
  exact evf_eq hw s 5 6 (ix x) (by omega) (Int32.le_trans hc.2.2.1 hh) (by have := hc.2.2.2; omega) (by have := hc.2.2.2; omega)
/-- a condition gives 0 or 1 -/
theorem evs_01 {t : Tbl} {s : Int32} {f : Nat → Int32} {k : Nat} (hw : wfn t k) (h5 : 5 ≤ t 0 k) (hk : t 0 k ≤ 10)
    (h : ∀ x, chk t k 5 10 x → f (ix x) = 0 ∨ f (ix x) = 1) : evs t s f k = 0 ∨ evs t s f k = 1 := by
  obtain ⟨⟨h0, h15⟩, -, hE, hB, -, -, hC, hC2, -⟩ := hw
  rcases i32_cases h0 h15 with e | e | e | e | e | e | e | e | e | e | e | e | e | e | e | e
  · rw [e] at h5; exact absurd h5 (by decide)
  · rw [e] at h5; exact absurd h5 (by decide)
  · rw [e] at h5; exact absurd h5 (by decide)
  · rw [e] at h5; exact absurd h5 (by decide)
  · rw [e] at h5; exact absurd h5 (by decide)
  · rw [evs5 e]; split; exact Or.inr rfl; exact Or.inl rfl
  · rw [evs6 e]; split; exact Or.inr rfl; exact Or.inl rfl
  · rw [evs7 e]; split; exact Or.inr rfl; exact Or.inl rfl
  · rw [evs8 e]
    rcases h _ (hC (Or.inl e)) with z | z <;> rw [z] <;> decide
  · rw [evs9 e]
    rcases h _ (hC (Or.inr (Or.inl e))) with z | z <;> rcases h _ (hC2 (Or.inl e)) with y | y <;> rw [z, y] <;> decide
  · rw [evs10 e]
    rcases h _ (hC (Or.inr (Or.inr e))) with z | z <;> rcases h _ (hC2 (Or.inr e)) with y | y <;> rw [z, y] <;> decide
  all_goals (rw [e] at hk; exact absurd hk (by decide))
theorem EV_01 {t : Tbl} {n : Nat} (hw : WF t n) (s : Int32) : ∀ (d k : Nat), k < n → hN t k ≤ d → 5 ≤ t 0 k → t 0 k ≤ 10 → EV t s k = 0 ∨ EV t s k = 1 := by
  intro d
  induction d with
  | zero => intro k hk hd; have := (hw.2 k hk).2.1.1; omega
  | succ d ih =>
    intro k hk hd h5 h10
    rw [EV_unf hw s hk h10]
    refine evs_01 (hw.2 k hk) h5 h10 (fun x hc => ?_)
    have hx := vp_lt hc.1
    exact ih (ix x) (by omega) (by have := hc.2.2.2; omega) hc.2.1 hc.2.2.1
noncomputable def b01 (P : Prop) : Int32 := @ite Int32 P (Classical.propDecidable P) 1 0
theorem b01_t {P : Prop} (h : P) : b01 P = 1 := by unfold b01; rw [if_pos h]
theorem b01_f {P : Prop} (h : ¬ P) : b01 P = 0 := by unfold b01; rw [if_neg h]
theorem b01_or (P : Prop) : b01 P = 0 ∨ b01 P = 1 := by
  by_cases h : P
  · exact Or.inr (b01_t h)
  · exact Or.inl (b01_f h)
theorem b01_0 {P : Prop} (h : b01 P = 0) : ¬ P := fun z => by rw [b01_t z] at h; exact absurd h (by decide)
theorem b01_n {P : Prop} (h : ¬ b01 P = 0) : P := Classical.byContradiction fun z => h (b01_f z)
theorem b01_1 {P : Prop} (h : b01 P = 1) : P := Classical.byContradiction fun z => by rw [b01_f z] at h; exact absurd h (by decide)
theorem b01_c {P Q : Prop} (h : P ↔ Q) : b01 P = b01 Q := by
  by_cases z : P
  · rw [b01_t z, b01_t (h.mp z)]
  · rw [b01_f z, b01_f (fun y => z (h.mpr y))]
theorem b01_of {x : Int32} (h : x = 0 ∨ x = 1) : b01 (x = 1) = x := by
  rcases h with rfl | rfl
  · exact b01_f (by decide)
  · exact b01_t rfl
/-- the receiver is the one object of group g -/
def thisM (q : Nat × Nat) (g : Nat) (P : Prop) : Prop := cond (Nat.beq q.1 g && Nat.beq q.2 0) P False
theorem thisM_out {q : Nat × Nat} {g : Nat} {P : Prop} (h : thisM q g P) : q = (g, 0) ∧ P := by
  unfold thisM at h
  cases hb : (Nat.beq q.1 g && Nat.beq q.2 0) with
  | false => rw [hb] at h; exact h.elim
  | true =>
    rw [hb] at h
    simp only [Bool.and_eq_true] at hb
    exact ⟨Prod.ext (Nat.eq_of_beq_eq_true hb.1) (Nat.eq_of_beq_eq_true hb.2), h⟩
/-- all but the groups gs is as it was -/
def eqx (gs : List Nat) (σ σ' : Mem) : Prop := (∀ g i k, g ∉ gs → rd σ' g i k = rd σ g i k) ∧ σ'.2 = σ.2
theorem eqx.refl (gs : List Nat) (σ : Mem) : eqx gs σ σ := ⟨fun _ _ _ _ => rfl, rfl⟩
theorem eqx.trans {gs : List Nat} {σ σ' σ'' : Mem} (h1 : eqx gs σ σ') (h2 : eqx gs σ' σ'') : eqx gs σ σ'' := ⟨fun g i k hg => (h2.1 g i k hg).trans (h1.1 g i k hg), h2.2.trans h1.2⟩
theorem eqx.mono {gs hs : List Nat} {σ σ' : Mem} (h : eqx gs σ σ') (hh : ∀ g ∈ gs, g ∈ hs) : eqx hs σ σ' := ⟨fun g i k hg => h.1 g i k (fun z => hg (hh g z)), h.2⟩
theorem eqx.wr {gs : List Nat} {σ σ' : Mem} (h : eqx gs σ σ') {g i k : Nat} {v : Int32} (hg : g ∈ gs) : eqx gs σ (wr σ' g i k v) := ⟨fun g' i' k' hg' => by
  have hne : ¬ (g' = g ∧ i' = i ∧ k' = k) := fun z => hg' (by rw [z.1]; exact hg)
  rw [rd_wr, if_neg hne]
  exact h.1 g' i' k' hg', h.2⟩
theorem eqx.rl {gs : List Nat} {σ σ' : Mem} (h : eqx gs σ σ') (g k : Nat) : rl σ' g k = rl σ g k := by show σ'.2.1 g k = σ.2.1 g k; rw [h.2]
theorem tM_eqx {gs : List Nat} {σ σ' : Mem} (h : eqx gs σ σ') (hg : ∀ g ∈ gs, g < 12 ∨ 16 < g) : tM σ' = tM σ := by
  funext j k
  unfold tM
  split
  next hj => exact h.1 _ _ _ (fun z => by have := hg _ z; omega)
  next => rfl
theorem tC_eqx {gs : List Nat} {σ σ' : Mem} (h : eqx gs σ σ') (hg : ∀ g ∈ gs, g < 2 ∨ 6 < g) : tC σ' = tC σ := by
  funext j k
  unfold tC
  split
  next hj => exact h.1 _ _ _ (fun z => by have := hg _ z; omega)
  next => rfl
/-- how many nodes the reference has, how many the class has -/
def nM (σ : Mem) : Nat := ix (rd σ 11 0 1)
def nC (σ : Mem) : Nat := ix (rd σ 1 0 5)
def oknM (σ : Mem) : Prop := rd σ 11 0 1 = nI (nM σ) ∧ nM σ ≤ 60
def oknC (σ : Mem) : Prop := rd σ 1 0 5 = nI (nC σ) ∧ nC σ ≤ 60
theorem rng_iff {x : Int32} {n : Nat} (hn : n ≤ 1000) : (0 ≤ x ∧ x ≤ nI n - 1) ↔ vp_in x n := by
  have h1 : (nI n - 1).toInt = (n : Int) - 1 := pk_sub_toInt (a := n) (b := 1) (by omega) (by decide)
  rw [vp_in_iff, Int32.le_iff_toInt_le, Int32.le_iff_toInt_le, h1]
  have e0 : (0 : Int32).toInt = 0 := by decide
  rw [e0]
  omega
