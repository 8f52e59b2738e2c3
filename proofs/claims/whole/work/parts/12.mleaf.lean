def S_thrown : SpecT := fun av σ Φ => match av with
  | [Sum.inr (Sum.inr (Sum.inr q))] => thisM q 11 (Φ (some (aI (rd σ 11 0 0))) σ)
  | _ => False
set_option maxRecDepth 100000 in
theorem c_thrown (l : Launch) : Con l yX5_thrown cX5_thrown 1 (some .int) 1 0 S_thrown := by
  refine Con.of (by decide) (by decide) ?_
  intro p e s s0 a0 m args below meth c D ad cA A av σ Φ hlen hS hr X
  match av, hS with
  | [Sum.inr (Sum.inr (Sum.inr q))], hS =>
    obtain ⟨rfl, hS⟩ := thisM_out hS
    refine wp_sound (ps := []) (C := fun _ _ _ _ => False) (tk_X5_thrown X hr) (fun _ _ _ _ h => h.elim) 400 _ _ _ _ ?_
    exact hS
def S_refuse : SpecT := fun av σ Φ => match av with
  | [Sum.inr (Sum.inr (Sum.inr q)), Sum.inl x] => thisM q 11 (Φ (some (aI 0)) (wr σ 11 0 0 x))
  | _ => False
set_option maxRecDepth 100000 in
theorem c_refuse (l : Launch) : Con l yX5_refuse cX5_refuse 2 (some .int) 2 0 S_refuse := by
  refine Con.of (by decide) (by decide) ?_
  intro p e s s0 a0 m args below meth c D ad cA A av σ Φ hlen hS hr X
  match av, hS with
  | [Sum.inr (Sum.inr (Sum.inr q)), Sum.inl x], hS =>
    obtain ⟨rfl, hS⟩ := thisM_out hS
    refine wp_sound (ps := []) (C := fun _ _ _ _ => False) (tk_X5_refuse X hr) (fun _ _ _ _ h => h.elim) 400 _ _ _ _ ?_
    exact hS
def S_in : SpecT := fun av σ Φ => match av with
  | [Sum.inl x, Sum.inl lo, Sum.inl hi] => Φ (some (aI (b01 (lo ≤ x ∧ x ≤ hi)))) σ
  | _ => False
set_option maxRecDepth 100000 in
theorem c_in (l : Launch) : Con l yX5_in cX5_in 3 (some .boolean) 3 0 S_in := by
  refine Con.of (by decide) (by decide) ?_
  intro p e s s0 a0 m args below meth c D ad cA A av σ Φ hlen hS hr X
  match av, hS with
  | [Sum.inl x, Sum.inl lo, Sum.inl hi], hS =>
    replace hS : Φ (some (aI (b01 (lo ≤ x ∧ x ≤ hi)))) σ := hS
    refine wp_sound (ps := []) (C := fun _ _ _ _ => False) (tk_X5_in X hr) (fun _ _ _ _ h => h.elim) 400 _ _ _ _ ?_
    refine And.intro (fun h1 => ?_) (fun h1 => ?_)
    · rw [b01_f (fun z => absurd h1 (Int32.not_lt.mpr z.1))] at hS
      exact And.intro (Or.inl rfl) hS
    · refine And.intro (fun h2 => ?_) (fun h2 => ?_)
      · rw [b01_f (fun z => absurd h2 (Int32.not_lt.mpr z.2))] at hS
        exact And.intro (Or.inl rfl) hS
      · rw [b01_t ⟨Int32.not_lt.mp h1, Int32.not_lt.mp h2⟩] at hS
        exact And.intro (Or.inr rfl) hS
def S_isKind : SpecT := fun av σ Φ => match av with
  | [Sum.inr (Sum.inr (Sum.inr q)), Sum.inl x, Sum.inl lo, Sum.inl hi] => thisM q 11 (oknM σ ∧ Φ (some (aI (b01 (isN (tM σ) (nM σ) lo hi x)))) σ)
  | _ => False
set_option maxRecDepth 100000 in
theorem c_isKind (l : Launch) : Con l yX5_isKind cX5_isKind 4 (some .boolean) 4 1 S_isKind := by
  refine Con.of (by decide) (by decide) ?_
  intro p e s s0 a0 m args below meth c D ad cA A av σ Φ hlen hS hr X
  match av, hS with
  | [Sum.inr (Sum.inr (Sum.inr q)), Sum.inl x, Sum.inl lo, Sum.inl hi], hS =>
    obtain ⟨rfl, hS⟩ := thisM_out hS
    refine wp_sound (ps := []) (C := fun _ _ _ _ => False) (tk_X5_isKind X hr (c_in l) (by omega)) (fun _ _ _ _ h => h.elim) 400 _ _ _ _ ?_
    obtain ⟨⟨hn, h60⟩, hS⟩ := hS
    have hx : ∀ {P : Prop}, (0 ≤ x ∧ x ≤ rd σ 11 0 1 - 1 ↔ P) → (vp_in x (nM σ) ↔ P) := fun h => by rw [← h, hn, rng_iff (by omega)]
    refine And.intro (fun h1 => ?_) (fun h1 => ?_)
    · rw [b01_f (fun z => b01_0 h1 ((hx Iff.rfl).mp z.1))] at hS
      exact And.intro (Or.inl rfl) hS
    · have hv := (hx Iff.rfl).mpr (b01_n h1)
      refine And.intro (fun h2 => absurd h2 h1) (fun _ => ?_)
      refine And.intro (vp_mono hv h60) ?_
      refine And.intro (fun h3 => ?_) (fun h3 => ?_)
      · rw [b01_f (fun z => b01_0 h3 z.2)] at hS
        exact And.intro (Or.inl rfl) hS
      · rw [b01_t ⟨hv, b01_n h3⟩] at hS
        exact And.intro (Or.inr rfl) hS
def S_isExpression : SpecT := fun av σ Φ => match av with
  | [Sum.inr (Sum.inr (Sum.inr q)), Sum.inl x] => thisM q 11 (oknM σ ∧ Φ (some (aI (b01 (isN (tM σ) (nM σ) 0 4 x)))) σ)
  | _ => False
set_option maxRecDepth 100000 in
theorem c_isExpression (l : Launch) : Con l yX5_isExpression cX5_isExpression 2 (some .boolean) 2 2 S_isExpression := by
  refine Con.of (by decide) (by decide) ?_
  intro p e s s0 a0 m args below meth c D ad cA A av σ Φ hlen hS hr X
  match av, hS with
  | [Sum.inr (Sum.inr (Sum.inr q)), Sum.inl x], hS =>
    obtain ⟨rfl, hS⟩ := thisM_out hS
    refine wp_sound (ps := []) (C := fun _ _ _ _ => False) (tk_X5_isExpression X hr (c_isKind l) (by omega)) (fun _ _ _ _ h => h.elim) 400 _ _ _ _ ?_
    refine And.intro hS.1 ?_
    exact And.intro (b01_or _) hS.2
def S_isCondition : SpecT := fun av σ Φ => match av with
  | [Sum.inr (Sum.inr (Sum.inr q)), Sum.inl x] => thisM q 11 (oknM σ ∧ Φ (some (aI (b01 (isN (tM σ) (nM σ) 5 10 x)))) σ)
  | _ => False
set_option maxRecDepth 100000 in
theorem c_isCondition (l : Launch) : Con l yX5_isCondition cX5_isCondition 2 (some .boolean) 2 2 S_isCondition := by
  refine Con.of (by decide) (by decide) ?_
  intro p e s s0 a0 m args below meth c D ad cA A av σ Φ hlen hS hr X
  match av, hS with
  | [Sum.inr (Sum.inr (Sum.inr q)), Sum.inl x], hS =>
    obtain ⟨rfl, hS⟩ := thisM_out hS
    refine wp_sound (ps := []) (C := fun _ _ _ _ => False) (tk_X5_isCondition X hr (c_isKind l) (by omega)) (fun _ _ _ _ h => h.elim) 400 _ _ _ _ ?_
    refine And.intro hS.1 ?_
    exact And.intro (b01_or _) hS.2
def S_isCommand : SpecT := fun av σ Φ => match av with
  | [Sum.inr (Sum.inr (Sum.inr q)), Sum.inl x] => thisM q 11 (oknM σ ∧ Φ (some (aI (b01 (isN (tM σ) (nM σ) 11 15 x)))) σ)
  | _ => False
set_option maxRecDepth 100000 in
theorem c_isCommand (l : Launch) : Con l yX5_isCommand cX5_isCommand 2 (some .boolean) 2 2 S_isCommand := by
  refine Con.of (by decide) (by decide) ?_
  intro p e s s0 a0 m args below meth c D ad cA A av σ Φ hlen hS hr X
  match av, hS with
  | [Sum.inr (Sum.inr (Sum.inr q)), Sum.inl x], hS =>
    obtain ⟨rfl, hS⟩ := thisM_out hS
    refine wp_sound (ps := []) (C := fun _ _ _ _ => False) (tk_X5_isCommand X hr (c_isKind l) (by omega)) (fun _ _ _ _ h => h.elim) 400 _ _ _ _ ?_
    refine And.intro hS.1 ?_
    exact And.intro (b01_or _) hS.2
def finK (kd : Int32) : Prop := kd = 2 ∨ kd = 3 ∨ kd = 5 ∨ kd = 6 ∨ (8 ≤ kd ∧ kd ≤ 10) ∨ 12 < kd
def sinK (kd : Int32) : Prop := (2 ≤ kd ∧ kd ≤ 7) ∨ kd = 9 ∨ kd = 10 ∨ 11 < kd
def S_firstIsNode : SpecT := fun av σ Φ => match av with
  | [Sum.inl x] => Φ (some (aI (b01 (finK x)))) σ
  | _ => False
set_option maxRecDepth 100000 in
theorem c_firstIsNode (l : Launch) : Con l yX5_firstIsNode cX5_firstIsNode 1 (some .boolean) 1 1 S_firstIsNode := by
  refine Con.of (by decide) (by decide) ?_
  intro p e s s0 a0 m args below meth c D ad cA A av σ Φ hlen hS hr X
  match av, hS with
  | [Sum.inl x], hS =>
    replace hS : Φ (some (aI (b01 (finK x)))) σ := hS
    refine wp_sound (ps := []) (C := fun _ _ _ _ => False) (tk_X5_firstIsNode X hr (c_in l) (by omega)) (fun _ _ _ _ h => h.elim) 400 _ _ _ _ ?_
    have ht : finK x → (1 = (0 : Int32) ∨ (1 : Int32) = 1) ∧ Φ (some (aI 1)) σ := fun h => ⟨Or.inr rfl, by rw [b01_t h] at hS; exact hS⟩
    refine And.intro (fun h => ht (Or.inl h)) (fun h1 => ?_)
    refine And.intro (fun h => ht (Or.inr (Or.inl h))) (fun h2 => ?_)
    refine And.intro (fun h => ht (Or.inr (Or.inr (Or.inl h)))) (fun h3 => ?_)
    refine And.intro (fun h => ht (Or.inr (Or.inr (Or.inr (Or.inl h))))) (fun h4 => ?_)
    refine And.intro (fun h => ht (Or.inr (Or.inr (Or.inr (Or.inr (Or.inl (b01_n h))))))) (fun h5 => ?_)
    refine And.intro (fun h => ?_) (fun h => ht (Or.inr (Or.inr (Or.inr (Or.inr (Or.inr (Int32.not_le.mp h)))))))
    rw [b01_f (fun z => by
      rcases z with z | z | z | z | z | z
      · exact h1 z
      · exact h2 z
      · exact h3 z
      · exact h4 z
      · exact b01_0 h5 z
      · exact absurd h (Int32.not_le.mpr z))] at hS
    exact And.intro (Or.inl rfl) hS
def S_secondIsNode : SpecT := fun av σ Φ => match av with
  | [Sum.inl x] => Φ (some (aI (b01 (sinK x)))) σ
  | _ => False
set_option maxRecDepth 100000 in
theorem c_secondIsNode (l : Launch) : Con l yX5_secondIsNode cX5_secondIsNode 1 (some .boolean) 1 1 S_secondIsNode := by
  refine Con.of (by decide) (by decide) ?_
  intro p e s s0 a0 m args below meth c D ad cA A av σ Φ hlen hS hr X
  match av, hS with
  | [Sum.inl x], hS =>
    replace hS : Φ (some (aI (b01 (sinK x)))) σ := hS
    refine wp_sound (ps := []) (C := fun _ _ _ _ => False) (tk_X5_secondIsNode X hr (c_in l) (by omega)) (fun _ _ _ _ h => h.elim) 400 _ _ _ _ ?_
    have ht : sinK x → (1 = (0 : Int32) ∨ (1 : Int32) = 1) ∧ Φ (some (aI 1)) σ := fun h => ⟨Or.inr rfl, by rw [b01_t h] at hS; exact hS⟩
    refine And.intro (fun h => ht (Or.inl (b01_n h))) (fun h1 => ?_)
    refine And.intro (fun h => ht (Or.inr (Or.inl h))) (fun h2 => ?_)
    refine And.intro (fun h => ht (Or.inr (Or.inr (Or.inl h)))) (fun h3 => ?_)
    refine And.intro (fun h => ?_) (fun h => ht (Or.inr (Or.inr (Or.inr (Int32.not_le.mp h)))))
    rw [b01_f (fun z => by
      rcases z with z | z | z | z
      · exact b01_0 h1 z
      · exact h2 z
      · exact h3 z
      · exact absurd h (Int32.not_le.mpr z))] at hS
    exact And.intro (Or.inl rfl) hS
def hwV (t : Tbl) (h x : Int32) : Int32 := if t 4 (ix x) + 1 ≤ h then h else t 4 (ix x) + 1
def S_heightWith : SpecT := fun av σ Φ => match av with
  | [Sum.inr (Sum.inr (Sum.inr q)), Sum.inl h, Sum.inl x] => thisM q 11 (vp_in x 60 ∧ Φ (some (aI (hwV (tM σ) h x))) σ)
  | _ => False
set_option maxRecDepth 100000 in
theorem c_heightWith (l : Launch) : Con l yX5_heightWith cX5_heightWith 3 (some .int) 3 0 S_heightWith := by
  refine Con.of (by decide) (by decide) ?_
  intro p e s s0 a0 m args below meth c D ad cA A av σ Φ hlen hS hr X
  match av, hS with
  | [Sum.inr (Sum.inr (Sum.inr q)), Sum.inl h, Sum.inl x], hS =>
    obtain ⟨rfl, hS⟩ := thisM_out hS
    refine wp_sound (ps := []) (C := fun _ _ _ _ => False) (tk_X5_heightWith X hr) (fun _ _ _ _ h => h.elim) 400 _ _ _ _ ?_
    obtain ⟨hv, hS⟩ := hS
    refine And.intro hv ?_
    refine And.intro (fun (h1 : tM σ 4 (ix x) + 1 ≤ h) => ?_) (fun (h1 : ¬ tM σ 4 (ix x) + 1 ≤ h) => ?_)
    · rw [hwV, if_pos h1] at hS
      exact hS
    · refine And.intro hv ?_
      rw [hwV, if_neg h1] at hS
      exact hS
def S_variable : SpecT := fun av σ Φ => match av with
  | [Sum.inl s, Sum.inl v] => Φ (some (aI ((s >>> ((4 * v) &&& 31)) &&& 15))) σ
  | _ => False
set_option maxRecDepth 100000 in
theorem c_variable (l : Launch) : Con l yX5_variable cX5_variable 2 (some .int) 2 0 S_variable := by
  refine Con.of (by decide) (by decide) ?_
  intro p e s s0 a0 m args below meth c D ad cA A av σ Φ hlen hS hr X
  match av, hS with
  | [Sum.inl s, Sum.inl v], hS =>
    replace hS : Φ (some (aI ((s >>> ((4 * v) &&& 31)) &&& 15))) σ := hS
    refine wp_sound (ps := []) (C := fun _ _ _ _ => False) (tk_X5_variable X hr) (fun _ _ _ _ h => h.elim) 400 _ _ _ _ ?_
    exact hS
