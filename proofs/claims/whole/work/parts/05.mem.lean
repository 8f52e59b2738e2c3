/-! THE ABSTRACT MEMORY: ints, longs and doubles by group, index and place; the world's cells read off it -/
abbrev Mem : Type := (Nat → Nat → Nat → Int32) × (Nat → Nat → Int64) × (Nat → Nat → UInt64)
def rd (σ : Mem) (g i k : Nat) : Int32 := σ.1 g i k
def rl (σ : Mem) (g k : Nat) : Int64 := σ.2.1 g k
def rz (σ : Mem) (g k : Nat) : UInt64 := σ.2.2 g k
def wr (σ : Mem) (g i k : Nat) (v : Int32) : Mem := (fun g' i' k' => if g' = g ∧ i' = i ∧ k' = k then v else σ.1 g' i' k', σ.2)
def wrl (σ : Mem) (g k : Nat) (v : Int64) : Mem := (σ.1, fun g' k' => if g' = g ∧ k' = k then v else σ.2.1 g' k', σ.2.2)
def wrz (σ : Mem) (g k : Nat) (v : UInt64) : Mem := (σ.1, σ.2.1, fun g' k' => if g' = g ∧ k' = k then v else σ.2.2 g' k')
theorem rd_wr (σ : Mem) (g i k : Nat) (v : Int32) (g' i' k' : Nat) : rd (wr σ g i k v) g' i' k' = if g' = g ∧ i' = i ∧ k' = k then v else rd σ g' i' k' := rfl
theorem rl_wr (σ : Mem) (g i k : Nat) (v : Int32) (g' k' : Nat) : rl (wr σ g i k v) g' k' = rl σ g' k' := rfl
theorem rz_wr (σ : Mem) (g i k : Nat) (v : Int32) (g' k' : Nat) : rz (wr σ g i k v) g' k' = rz σ g' k' := rfl
theorem rd_wrl (σ : Mem) (g k : Nat) (v : Int64) (g' i' k' : Nat) : rd (wrl σ g k v) g' i' k' = rd σ g' i' k' := rfl
theorem rl_wrl (σ : Mem) (g k : Nat) (v : Int64) (g' k' : Nat) : rl (wrl σ g k v) g' k' = if g' = g ∧ k' = k then v else rl σ g' k' := rfl
theorem rz_wrl (σ : Mem) (g k : Nat) (v : Int64) (g' k' : Nat) : rz (wrl σ g k v) g' k' = rz σ g' k' := rfl
theorem rd_wrz (σ : Mem) (g k : Nat) (v : UInt64) (g' i' k' : Nat) : rd (wrz σ g k v) g' i' k' = rd σ g' i' k' := rfl
theorem rl_wrz (σ : Mem) (g k : Nat) (v : UInt64) (g' k' : Nat) : rl (wrz σ g k v) g' k' = rl σ g' k' := rfl
theorem rz_wrz (σ : Mem) (g k : Nat) (v : UInt64) (g' k' : Nat) : rz (wrz σ g k v) g' k' = if g' = g ∧ k' = k then v else rz σ g' k' := rfl
/-- abstract values: an int, a long, a double, a reference to a group's cell -/
abbrev AV : Type := Int32 ⊕ (Int64 ⊕ (UInt64 ⊕ (Nat × Nat)))
abbrev aI (x : Int32) : AV := Sum.inl x
abbrev aL (x : Int64) : AV := Sum.inr (Sum.inl x)
abbrev aD (x : UInt64) : AV := Sum.inr (Sum.inr (Sum.inl x))
abbrev aR (g i : Nat) : AV := Sum.inr (Sum.inr (Sum.inr (g, i)))
def conc (ad : Nat → Nat → Nat) : AV → Value
  | Sum.inl x => .int x
  | Sum.inr (Sum.inl x) => .long x
  | Sum.inr (Sum.inr (Sum.inl x)) => .double x
  | Sum.inr (Sum.inr (Sum.inr q)) => .ref (ad q.1 q.2)
/-- which index a field's reference goes to: a duty's path is its own -/
def tix (g' i : Nat) : Nat := cond (Nat.beq g' 37) i 0
def fcs (ad : Nat → Nat → Nat) (σ : Mem) (g i : Nat) : Nat → List (Option Nat) → List Value
  | _, [] => []
  | k, none :: r => .int (rd σ g i k) :: fcs ad σ g i (k + 1) r
  | k, some g' :: r => .ref (ad g' (tix g' i)) :: fcs ad σ g i (k + 1) r
theorem fcs_int {ad : Nat → Nat → Nat} {σ : Mem} {g i : Nat} : ∀ (fs : List (Option Nat)) (k j : Nat), fs[j]? = some none → (fcs ad σ g i k fs)[j]? = some (.int (rd σ g i (k + j)))
  | [], _, _, h => by simp at h
  | none :: _, k, 0, _ => by simp [fcs]
  | some _ :: _, _, 0, h => by simp at h
  | none :: r, k, j + 1, h => by
    have := fcs_int (ad := ad) (σ := σ) (g := g) (i := i) r (k + 1) j (by simpa using h)
    simp only [fcs, List.getElem?_cons_succ]; rw [this]; congr 3; omega
  | some _ :: r, k, j + 1, h => by
    have := fcs_int (ad := ad) (σ := σ) (g := g) (i := i) r (k + 1) j (by simpa using h)
    simp only [fcs, List.getElem?_cons_succ]; rw [this]; congr 3; omega
theorem fcs_ref {ad : Nat → Nat → Nat} {σ : Mem} {g i g' : Nat} : ∀ (fs : List (Option Nat)) (k j : Nat), fs[j]? = some (some g') → (fcs ad σ g i k fs)[j]? = some (.ref (ad g' (tix g' i)))
  | [], _, _, h => by simp at h
  | none :: _, k, 0, h => by simp at h
  | some _ :: _, _, 0, h => by simp at h; subst h; simp [fcs]
  | none :: r, k, j + 1, h => by
    have := fcs_ref (ad := ad) (σ := σ) (g := g) (i := i) r (k + 1) j (by simpa using h)
    simp only [fcs, List.getElem?_cons_succ]; exact this
  | some _ :: r, k, j + 1, h => by
    have := fcs_ref (ad := ad) (σ := σ) (g := g) (i := i) r (k + 1) j (by simpa using h)
    simp only [fcs, List.getElem?_cons_succ]; exact this
theorem fcs_len {ad : Nat → Nat → Nat} {σ : Mem} {g i : Nat} : ∀ (fs : List (Option Nat)) (k : Nat), (fcs ad σ g i k fs).length = fs.length
  | [], _ => rfl
  | none :: r, k => by simp [fcs, fcs_len r (k + 1)]
  | some _ :: r, k => by simp [fcs, fcs_len r (k + 1)]
theorem fcs_far {ad : Nat → Nat → Nat} {σ : Mem} {g i n : Nat} {v : Int32} : ∀ (fs : List (Option Nat)) (k : Nat), n < k → fcs ad (wr σ g i n v) g i k fs = fcs ad σ g i k fs
  | [], _, _ => rfl
  | none :: r, k, h => by
    simp only [fcs]
    rw [fcs_far r (k + 1) (by omega), rd_wr, if_neg (by omega)]
  | some _ :: r, k, h => by
    simp only [fcs]
    rw [fcs_far r (k + 1) (by omega)]
theorem fcs_set {ad : Nat → Nat → Nat} {σ : Mem} {g i : Nat} {v : Int32} : ∀ (fs : List (Option Nat)) (k j : Nat), fs[j]? = some none → (fcs ad σ g i k fs).set j (.int v) = fcs ad (wr σ g i (k + j) v) g i k fs
  | [], _, _, h => by simp at h
  | none :: r, k, 0, _ => by
    simp only [fcs, List.set_cons_zero, Nat.add_zero]
    rw [fcs_far r (k + 1) (by omega), rd_wr, if_pos ⟨rfl, rfl, rfl⟩]
  | some _ :: _, _, 0, h => by simp at h
  | none :: r, k, j + 1, h => by
    have := fcs_set (ad := ad) (σ := σ) (g := g) (i := i) (v := v) r (k + 1) j (by simpa using h)
    simp only [fcs, List.set_cons_succ]
    rw [this, rd_wr, if_neg (by omega), show k + 1 + j = k + (j + 1) by omega]
  | some _ :: r, k, j + 1, h => by
    have := fcs_set (ad := ad) (σ := σ) (g := g) (i := i) (v := v) r (k + 1) j (by simpa using h)
    simp only [fcs, List.set_cons_succ]
    rw [this, show k + 1 + j = k + (j + 1) by omega]
theorem fcs_ne {ad : Nat → Nat → Nat} {σ : Mem} {g i g2 i2 n : Nat} {v : Int32} (hne : ¬ (g = g2 ∧ i = i2)) : ∀ (fs : List (Option Nat)) (k : Nat), fcs ad (wr σ g2 i2 n v) g i k fs = fcs ad σ g i k fs
  | [], _ => rfl
  | none :: r, k => by
    simp only [fcs]
    rw [fcs_ne hne r (k + 1), rd_wr, if_neg (fun h => hne ⟨h.1, h.2.1⟩)]
  | some _ :: r, k => by
    simp only [fcs]
    rw [fcs_ne hne r (k + 1)]
theorem fcs_same {ad : Nat → Nat → Nat} {σ σ' : Mem} {g i : Nat} (h : ∀ k, rd σ' g i k = rd σ g i k) : ∀ (fs : List (Option Nat)) (k : Nat), fcs ad σ' g i k fs = fcs ad σ g i k fs
  | [], _ => rfl
  | none :: r, k => by simp only [fcs]; rw [fcs_same h r (k + 1), h]
  | some _ :: r, k => by simp only [fcs]; rw [fcs_same h r (k + 1)]
/-- shapes: an object (its class's number, its fields: an int, or a reference to a group), or an array (0 int, 1 long, 2 boolean, 3 double, 4 duties; its length) -/
abbrev SH : Type := (Nat × List (Option Nat)) ⊕ (Nat × Nat)
def acell (ad : Nat → Nat → Nat) (σ : Mem) (g i kd : Nat) : (Nat → Int32) ⊕ (Nat → Int64) ⊕ (Nat → UInt32) ⊕ (Nat → UInt64) ⊕ (Nat → Option Nat) :=
  match kd with
  | 0 => .inl (fun k => rd σ g i k)
  | 1 => .inr (.inl (fun k => rl σ g k))
  | 2 => .inl (fun k => rd σ g i k)
  | 3 => .inr (.inr (.inr (.inl (fun k => rz σ g k))))
  | _ => .inr (.inr (.inr (.inr (fun k => some (ad 36 k)))))
def cell1 (ad : Nat → Nat → Nat) (cA : Nat → ClassId) (σ : Mem) (q : Nat × Nat × SH) : Nat × va_E :=
  (ad q.1 q.2.1, match q.2.2 with
    | .inl o => .inr (o.1, fcs ad σ q.1 q.2.1 0 o.2)
    | .inr a => .inl (cA a.1, a.2, acell ad σ q.1 q.2.1 a.1))
def layS : List SH := [
  .inl (4, [some 1, some 7, some 8]),
  .inl (2, [some 2, some 3, some 4, some 5, some 6, none]),
  .inr (0, 60), .inr (0, 60), .inr (0, 60), .inr (0, 60), .inr (0, 60),
  .inl (3, [some 1, none, none]),
  .inl (0, [some 1, some 9, some 10, none]),
  .inr (4, 16), .inr (0, 6),
  .inl (5, [none, none, some 12, some 13, some 14, some 15, some 16, some 17, some 18, none, some 19, some 20, none, some 21, some 22, some 23, none, none, some 24, some 25, some 26, some 27, some 28, some 29, some 30, some 31, some 32, some 33]),
  .inr (0, 60), .inr (0, 60), .inr (0, 60), .inr (0, 60), .inr (0, 60), .inr (1, 60), .inr (0, 60),
  .inr (0, 400), .inr (0, 400), .inr (0, 20), .inr (0, 20), .inr (0, 20), .inr (0, 20), .inr (0, 20), .inr (0, 20), .inr (0, 400), .inr (0, 400), .inr (0, 100), .inr (0, 100), .inr (2, 16), .inr (0, 2048), .inr (0, 64),
  .inr (1, 1), .inr (3, 1),
  .inl (1, [none, none, none, some 37, none, none]),
  .inr (0, 6)]
def shp (g : Nat) : Option SH := layS[g]?
def numb : Nat → List SH → List (Nat × Nat × SH)
  | _, [] => []
  | g, sh :: r => (g, 0, sh) :: numb (g + 1) r
/-- the fixed cells, then the sixteen duties, then their paths -/
def lay : List (Nat × Nat × SH) := numb 0 (layS.take 36) ++ ((List.range 16).map (fun i => (36, i, .inl (1, [none, none, none, some 37, none, none])))) ++ ((List.range 16).map (fun i => (37, i, .inr (0, 6))))
def pos (g i : Nat) : Nat := if g < 36 then g else if g = 36 then 36 + i else 52 + i
def okT (g i : Nat) : Prop := (g < 36 ∧ i = 0) ∨ ((g = 36 ∨ g = 37) ∧ i < 16)
theorem lay_f : ∀ g, g < 36 → lay[g]? = (shp g).map (fun sh => (g, 0, sh))
  | 0, _ => rfl
  | 1, _ => rfl
  | 2, _ => rfl
  | 3, _ => rfl
  | 4, _ => rfl
  | 5, _ => rfl
  | 6, _ => rfl
  | 7, _ => rfl
  | 8, _ => rfl
  | 9, _ => rfl
  | 10, _ => rfl
  | 11, _ => rfl
  | 12, _ => rfl
  | 13, _ => rfl
  | 14, _ => rfl
  | 15, _ => rfl
  | 16, _ => rfl
  | 17, _ => rfl
  | 18, _ => rfl
  | 19, _ => rfl
  | 20, _ => rfl
  | 21, _ => rfl
  | 22, _ => rfl
  | 23, _ => rfl
  | 24, _ => rfl
  | 25, _ => rfl
  | 26, _ => rfl
  | 27, _ => rfl
  | 28, _ => rfl
  | 29, _ => rfl
  | 30, _ => rfl
  | 31, _ => rfl
  | 32, _ => rfl
  | 33, _ => rfl
  | 34, _ => rfl
  | 35, _ => rfl
  | n + 36, h => absurd h (by omega)
theorem lay_d : ∀ i, i < 16 → lay[36 + i]? = (shp 36).map (fun sh => (36, i, sh))
  | 0, _ => rfl
  | 1, _ => rfl
  | 2, _ => rfl
  | 3, _ => rfl
  | 4, _ => rfl
  | 5, _ => rfl
  | 6, _ => rfl
  | 7, _ => rfl
  | 8, _ => rfl
  | 9, _ => rfl
  | 10, _ => rfl
  | 11, _ => rfl
  | 12, _ => rfl
  | 13, _ => rfl
  | 14, _ => rfl
  | 15, _ => rfl
  | n + 16, h => absurd h (by omega)
theorem lay_p : ∀ i, i < 16 → lay[52 + i]? = (shp 37).map (fun sh => (37, i, sh))
  | 0, _ => rfl
  | 1, _ => rfl
  | 2, _ => rfl
  | 3, _ => rfl
  | 4, _ => rfl
  | 5, _ => rfl
  | 6, _ => rfl
  | 7, _ => rfl
  | 8, _ => rfl
  | 9, _ => rfl
  | 10, _ => rfl
  | 11, _ => rfl
  | 12, _ => rfl
  | 13, _ => rfl
  | 14, _ => rfl
  | 15, _ => rfl
  | n + 16, h => absurd h (by omega)
theorem lay_len : lay.length = 68 := by decide +kernel
theorem lay_inj : ∀ a, a < 68 → ∀ b, b < 68 → (lay[a]?).map (fun q => (q.1, q.2.1)) = (lay[b]?).map (fun q => (q.1, q.2.1)) → a = b := by decide +kernel
theorem lay_at {g i : Nat} {sh : SH} (h : okT g i) (hs : shp g = some sh) : lay[pos g i]? = some (g, i, sh) := by
  rcases h with ⟨h1, rfl⟩ | ⟨h1 | h1, h2⟩
  · rw [show pos g 0 = g by simp [pos, h1], lay_f g h1, hs]; rfl
  · subst h1; rw [show pos 36 i = 36 + i by simp [pos], lay_d i h2, hs]; rfl
  · subst h1; rw [show pos 37 i = 52 + i by simp [pos], lay_p i h2, hs]; rfl
def wld (ad : Nat → Nat → Nat) (cA : Nat → ClassId) (σ : Mem) : va_W := lay.map (cell1 ad cA σ)
theorem wld_at {ad : Nat → Nat → Nat} {cA : Nat → ClassId} {σ : Mem} {g i : Nat} {sh : SH} (h : okT g i) (hs : shp g = some sh) : (wld ad cA σ)[pos g i]? = some (cell1 ad cA σ (g, i, sh)) := by
  simp only [wld, List.getElem?_map, lay_at h hs]; rfl
theorem wld_set {ad : Nat → Nat → Nat} {cA : Nat → ClassId} {σ σ' : Mem} {g i : Nat} {sh : SH} {e : Nat × va_E} (h : okT g i) (hs : shp g = some sh) (he : cell1 ad cA σ' (g, i, sh) = e) (ho : ∀ q : Nat × Nat × SH, ¬ (q.1 = g ∧ q.2.1 = i) → cell1 ad cA σ' q = cell1 ad cA σ q) : (wld ad cA σ).set (pos g i) e = wld ad cA σ' := by
  have hp := lay_at h hs
  have hlt : pos g i < lay.length := (List.getElem?_eq_some_iff.mp hp).1
  apply List.ext_getElem?
  intro j
  by_cases hj : j = pos g i
  · subst hj
    rw [List.getElem?_set_self (by simpa [wld] using hlt)]
    simp only [wld, List.getElem?_map, hp, Option.map_some, he]
  · rw [List.getElem?_set_ne (Ne.symm hj)]
    simp only [wld, List.getElem?_map]
    cases hq : lay[j]? with
    | none => rfl
    | some q =>
      have hjl : j < lay.length := (List.getElem?_eq_some_iff.mp hq).1
      simp only [Option.map_some]
      rw [ho q]
      rintro ⟨h1, h2⟩
      refine hj (lay_inj j (by rw [← lay_len]; exact hjl) (pos g i) (by rw [← lay_len]; exact hlt) ?_)
      rw [hq, hp]
      simp [h1, h2]
theorem cell_wr_ne {ad : Nat → Nat → Nat} {cA : Nat → ClassId} {σ : Mem} {g i k : Nat} {v : Int32} (q : Nat × Nat × SH) (h : ¬ (q.1 = g ∧ q.2.1 = i)) : cell1 ad cA (wr σ g i k v) q = cell1 ad cA σ q := by
  obtain ⟨g', i', sh⟩ := q
  dsimp only at h
  cases sh with
  | inl o => simp only [cell1]; rw [fcs_ne h]
  | inr a =>
    obtain ⟨kd, n⟩ := a
    simp only [cell1]
    congr 4
    have hf : (fun k' => rd (wr σ g i k v) g' i' k') = (fun k' => rd σ g' i' k') := by
      funext k'; rw [rd_wr, if_neg (fun z => h ⟨z.1, z.2.1⟩)]
    unfold acell
    rw [hf]
    split <;> rfl
theorem wld_wr_f {ad : Nat → Nat → Nat} {cA : Nat → ClassId} {σ : Mem} {g i k ci : Nat} {fs : List (Option Nat)} {v : Int32} (h : okT g i) (hs : shp g = some (.inl (ci, fs))) (hk : fs[k]? = some none) : (wld ad cA σ).set (pos g i) (ad g i, .inr (ci, (fcs ad σ g i 0 fs).set k (.int v))) = wld ad cA (wr σ g i k v) := by
  refine wld_set h hs ?_ (fun q hq => cell_wr_ne q hq)
  simp only [cell1]
  rw [fcs_set fs 0 k hk, Nat.zero_add]
theorem wld_wr_a {ad : Nat → Nat → Nat} {cA : Nat → ClassId} {σ : Mem} {g i k n kd : Nat} {v : Int32} (h : okT g i) (hs : shp g = some (.inr (kd, n))) (hk : kd = 0 ∨ kd = 2) : (wld ad cA σ).set (pos g i) (ad g i, .inl (cA kd, n, .inl (upd (fun j => rd σ g i j) k v))) = wld ad cA (wr σ g i k v) := by
  refine wld_set h hs ?_ (fun q hq => cell_wr_ne q hq)
  have hf : (fun j => rd (wr σ g i k v) g i j) = upd (fun j => rd σ g i j) k v := by
    funext j
    rw [rd_wr]
    by_cases hj : j = k
    · subst hj; simp [upd]
    · simp [upd, hj]
  rcases hk with rfl | rfl <;> simp only [cell1, acell, hf]
theorem cell_wrl_ne {ad : Nat → Nat → Nat} {cA : Nat → ClassId} {σ : Mem} {g k : Nat} {v : Int64} (hg : g < 36) (q : Nat × Nat × SH) (hq : q ∈ lay) (h : ¬ (q.1 = g ∧ q.2.1 = 0)) : cell1 ad cA (wrl σ g k v) q = cell1 ad cA σ q := by
  obtain ⟨g', i', sh⟩ := q
  dsimp only at h
  cases sh with
  | inl o => simp only [cell1]; rw [fcs_same (σ := σ) (σ' := wrl σ g k v) (fun _ => rfl)]
  | inr a =>
    obtain ⟨kd, n⟩ := a
    have hne : ¬ g' = g := by
      intro e
      subst e
      have key : ∀ q ∈ lay, q.1 < 36 → q.2.1 = 0 := by decide +kernel
      exact h ⟨rfl, key _ hq hg⟩
    simp only [cell1]
    congr 4
    have hf : (fun k' => rl (wrl σ g k v) g' k') = (fun k' => rl σ g' k') := by
      funext k'; rw [rl_wrl, if_neg (fun z => hne z.1)]
    unfold acell
    rw [hf]
    split <;> rfl
theorem cell_wrz_ne {ad : Nat → Nat → Nat} {cA : Nat → ClassId} {σ : Mem} {g k : Nat} {v : UInt64} (hg : g < 36) (q : Nat × Nat × SH) (hq : q ∈ lay) (h : ¬ (q.1 = g ∧ q.2.1 = 0)) : cell1 ad cA (wrz σ g k v) q = cell1 ad cA σ q := by
  obtain ⟨g', i', sh⟩ := q
  dsimp only at h
  cases sh with
  | inl o => simp only [cell1]; rw [fcs_same (σ := σ) (σ' := wrz σ g k v) (fun _ => rfl)]
  | inr a =>
    obtain ⟨kd, n⟩ := a
    have hne : ¬ g' = g := by
      intro e
      subst e
      have key : ∀ q ∈ lay, q.1 < 36 → q.2.1 = 0 := by decide +kernel
      exact h ⟨rfl, key _ hq hg⟩
    simp only [cell1]
    congr 4
    have hf : (fun k' => rz (wrz σ g k v) g' k') = (fun k' => rz σ g' k') := by
      funext k'; rw [rz_wrz, if_neg (fun z => hne z.1)]
    unfold acell
    rw [hf]
    split <;> rfl
theorem wld_setL {ad : Nat → Nat → Nat} {cA : Nat → ClassId} {σ σ' : Mem} {g : Nat} {sh : SH} {e : Nat × va_E} (h : g < 36) (hs : shp g = some sh) (he : cell1 ad cA σ' (g, 0, sh) = e) (ho : ∀ q : Nat × Nat × SH, q ∈ lay → ¬ (q.1 = g ∧ q.2.1 = 0) → cell1 ad cA σ' q = cell1 ad cA σ q) : (wld ad cA σ).set (pos g 0) e = wld ad cA σ' := by
  have hp := lay_at (Or.inl ⟨h, rfl⟩) hs
  have hlt : pos g 0 < lay.length := (List.getElem?_eq_some_iff.mp hp).1
  apply List.ext_getElem?
  intro j
  by_cases hj : j = pos g 0
  · subst hj
    rw [List.getElem?_set_self (by simpa [wld] using hlt)]
    simp only [wld, List.getElem?_map, hp, Option.map_some, he]
  · rw [List.getElem?_set_ne (Ne.symm hj)]
    simp only [wld, List.getElem?_map]
    cases hq : lay[j]? with
    | none => rfl
    | some q =>
      have hjl : j < lay.length := (List.getElem?_eq_some_iff.mp hq).1
      simp only [Option.map_some]
      rw [ho q (List.mem_of_getElem? hq)]
      rintro ⟨h1, h2⟩
      refine hj (lay_inj j (by rw [← lay_len]; exact hjl) (pos g 0) (by rw [← lay_len]; exact hlt) ?_)
      rw [hq, hp]
      simp [h1, h2]
theorem wld_wrl {ad : Nat → Nat → Nat} {cA : Nat → ClassId} {σ : Mem} {g k n : Nat} {v : Int64} (h : g < 36) (hs : shp g = some (.inr (1, n))) : (wld ad cA σ).set (pos g 0) (ad g 0, .inl (cA 1, n, .inr (.inl (vp_updL (fun j => rl σ g j) k v)))) = wld ad cA (wrl σ g k v) := by
  refine wld_setL h hs ?_ (fun q hq hn => cell_wrl_ne h q hq hn)
  have hf : (fun j => rl (wrl σ g k v) g j) = vp_updL (fun j => rl σ g j) k v := by
    funext j
    rw [rl_wrl]
    by_cases hj : j = k
    · subst hj; simp [vp_updL]
    · simp [vp_updL, hj]
  simp only [cell1, acell, hf]
theorem wld_wrz {ad : Nat → Nat → Nat} {cA : Nat → ClassId} {σ : Mem} {g k n : Nat} {v : UInt64} (h : g < 36) (hs : shp g = some (.inr (3, n))) : (wld ad cA σ).set (pos g 0) (ad g 0, .inl (cA 3, n, .inr (.inr (.inr (.inl (vf_upd (fun j => rz σ g j) k v)))))) = wld ad cA (wrz σ g k v) := by
  refine wld_setL h hs ?_ (fun q hq hn => cell_wrz_ne h q hq hn)
  have hf : (fun j => rz (wrz σ g k v) g j) = vf_upd (fun j => rz σ g j) k v := by
    funext j
    rw [rz_wrz]
    by_cases hj : j = k
    · subst hj; simp [vf_upd]
    · simp [vf_upd, hj]
  simp only [cell1, acell, hf]
