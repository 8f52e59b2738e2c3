/-- the words of a node are as its kind asks -/
def fitK (t : Tbl) (n : Nat) (kd a b c : Int32) : Prop :=
  if kd = 0 then ((-100 ≤ a ∧ a ≤ 100))
  else if kd = 1 then ((0 ≤ a ∧ a ≤ 2))
  else if kd = 2 then (isN t n 0 4 a ∧ isN t n 0 4 b)
  else if kd = 3 then (isN t n 0 4 a ∧ isN t n 0 4 b)
  else if kd = 4 then ((-16 ≤ a ∧ a ≤ 16) ∧ isN t n 0 4 b)
  else if kd = 5 then (isN t n 0 4 a ∧ isN t n 0 4 b)
  else if kd = 6 then (isN t n 0 4 a ∧ isN t n 0 4 b)
  else if kd = 7 then ((1 ≤ a ∧ a ≤ 16) ∧ isN t n 0 4 b)
  else if kd = 8 then (isN t n 5 10 a)
  else if kd = 9 then (isN t n 5 10 a ∧ isN t n 5 10 b)
  else if kd = 10 then (isN t n 5 10 a ∧ isN t n 5 10 b)
  else if kd = 11 then (True)
  else if kd = 12 then ((0 ≤ a ∧ a ≤ 2) ∧ isN t n 0 4 b)
  else if kd = 13 then (isN t n 11 15 a ∧ isN t n 11 15 b)
  else if kd = 14 then (isN t n 5 10 a ∧ isN t n 11 15 b ∧ isN t n 11 15 c)
  else if kd = 15 then (isN t n 5 10 a ∧ isN t n 5 10 b ∧ isN t n 11 15 c)
  else False
theorem fitK0 {t : Tbl} {n : Nat} {kd a b c : Int32} (h : kd = 0) : fitK t n kd a b c ↔ ((-100 ≤ a ∧ a ≤ 100)) := by
  unfold fitK
  rw [if_pos h]
theorem fitK1 {t : Tbl} {n : Nat} {kd a b c : Int32} (h : kd = 1) : fitK t n kd a b c ↔ ((0 ≤ a ∧ a ≤ 2)) := by
  unfold fitK
  rw [if_neg (by rw [h]; decide), if_pos h]
theorem fitK2 {t : Tbl} {n : Nat} {kd a b c : Int32} (h : kd = 2) : fitK t n kd a b c ↔ (isN t n 0 4 a ∧ isN t n 0 4 b) := by
  unfold fitK
  rw [if_neg (by rw [h]; decide), if_neg (by rw [h]; decide), if_pos h]
theorem fitK3 {t : Tbl} {n : Nat} {kd a b c : Int32} (h : kd = 3) : fitK t n kd a b c ↔ (isN t n 0 4 a ∧ isN t n 0 4 b) := by
  unfold fitK
  rw [if_neg (by rw [h]; decide), if_neg (by rw [h]; decide), if_neg (by rw [h]; decide), if_pos h]
theorem fitK4 {t : Tbl} {n : Nat} {kd a b c : Int32} (h : kd = 4) : fitK t n kd a b c ↔ ((-16 ≤ a ∧ a ≤ 16) ∧ isN t n 0 4 b) := by
  unfold fitK
  rw [if_neg (by rw [h]; decide), if_neg (by rw [h]; decide), if_neg (by rw [h]; decide), if_neg (by rw [h]; decide), if_pos h]
theorem fitK5 {t : Tbl} {n : Nat} {kd a b c : Int32} (h : kd = 5) : fitK t n kd a b c ↔ (isN t n 0 4 a ∧ isN t n 0 4 b) := by
  unfold fitK
  rw [if_neg (by rw [h]; decide), if_neg (by rw [h]; decide), if_neg (by rw [h]; decide), if_neg (by rw [h]; decide), if_neg (by rw [h]; decide), if_pos h]
theorem fitK6 {t : Tbl} {n : Nat} {kd a b c : Int32} (h : kd = 6) : fitK t n kd a b c ↔ (isN t n 0 4 a ∧ isN t n 0 4 b) := by
  unfold fitK
  rw [if_neg (by rw [h]; decide), if_neg (by rw [h]; decide), if_neg (by rw [h]; decide), if_neg (by rw [h]; decide), if_neg (by rw [h]; decide), if_neg (by rw [h]; decide), if_pos h]
theorem fitK7 {t : Tbl} {n : Nat} {kd a b c : Int32} (h : kd = 7) : fitK t n kd a b c ↔ ((1 ≤ a ∧ a ≤ 16) ∧ isN t n 0 4 b) := by
  unfold fitK
  rw [if_neg (by rw [h]; decide), if_neg (by rw [h]; decide), if_neg (by rw [h]; decide), if_neg (by rw [h]; decide), if_neg (by rw [h]; decide), if_neg (by rw [h]; decide), if_neg (by rw [h]; decide), if_pos h]
theorem fitK8 {t : Tbl} {n : Nat} {kd a b c : Int32} (h : kd = 8) : fitK t n kd a b c ↔ (isN t n 5 10 a) := by
  unfold fitK
  rw [if_neg (by rw [h]; decide), if_neg (by rw [h]; decide), if_neg (by rw [h]; decide), if_neg (by rw [h]; decide), if_neg (by rw [h]; decide), if_neg (by rw [h]; decide), if_neg (by rw [h]; decide), if_neg (by rw [h]; decide), if_pos h]
theorem fitK9 {t : Tbl} {n : Nat} {kd a b c : Int32} (h : kd = 9) : fitK t n kd a b c ↔ (isN t n 5 10 a ∧ isN t n 5 10 b) := by
  unfold fitK
  rw [if_neg (by rw [h]; decide), if_neg (by rw [h]; decide), if_neg (by rw [h]; decide), if_neg (by rw [h]; decide), if_neg (by rw [h]; decide), if_neg (by rw [h]; decide), if_neg (by rw [h]; decide), if_neg (by rw [h]; decide), if_neg (by rw [h]; decide), if_pos h]
theorem fitK10 {t : Tbl} {n : Nat} {kd a b c : Int32} (h : kd = 10) : fitK t n kd a b c ↔ (isN t n 5 10 a ∧ isN t n 5 10 b) := by
  unfold fitK
  rw [if_neg (by rw [h]; decide), if_neg (by rw [h]; decide), if_neg (by rw [h]; decide), if_neg (by rw [h]; decide), if_neg (by rw [h]; decide), if_neg (by rw [h]; decide), if_neg (by rw [h]; decide), if_neg (by rw [h]; decide), if_neg (by rw [h]; decide), if_neg (by rw [h]; decide), if_pos h]
theorem fitK11 {t : Tbl} {n : Nat} {kd a b c : Int32} (h : kd = 11) : fitK t n kd a b c ↔ (True) := by
  unfold fitK
  rw [if_neg (by rw [h]; decide), if_neg (by rw [h]; decide), if_neg (by rw [h]; decide), if_neg (by rw [h]; decide), if_neg (by rw [h]; decide), if_neg (by rw [h]; decide), if_neg (by rw [h]; decide), if_neg (by rw [h]; decide), if_neg (by rw [h]; decide), if_neg (by rw [h]; decide), if_neg (by rw [h]; decide), if_pos h]
theorem fitK12 {t : Tbl} {n : Nat} {kd a b c : Int32} (h : kd = 12) : fitK t n kd a b c ↔ ((0 ≤ a ∧ a ≤ 2) ∧ isN t n 0 4 b) := by
  unfold fitK
  rw [if_neg (by rw [h]; decide), if_neg (by rw [h]; decide), if_neg (by rw [h]; decide), if_neg (by rw [h]; decide), if_neg (by rw [h]; decide), if_neg (by rw [h]; decide), if_neg (by rw [h]; decide), if_neg (by rw [h]; decide), if_neg (by rw [h]; decide), if_neg (by rw [h]; decide), if_neg (by rw [h]; decide), if_neg (by rw [h]; decide), if_pos h]
theorem fitK13 {t : Tbl} {n : Nat} {kd a b c : Int32} (h : kd = 13) : fitK t n kd a b c ↔ (isN t n 11 15 a ∧ isN t n 11 15 b) := by
  unfold fitK
  rw [if_neg (by rw [h]; decide), if_neg (by rw [h]; decide), if_neg (by rw [h]; decide), if_neg (by rw [h]; decide), if_neg (by rw [h]; decide), if_neg (by rw [h]; decide), if_neg (by rw [h]; decide), if_neg (by rw [h]; decide), if_neg (by rw [h]; decide), if_neg (by rw [h]; decide), if_neg (by rw [h]; decide), if_neg (by rw [h]; decide), if_neg (by rw [h]; decide), if_pos h]
theorem fitK14 {t : Tbl} {n : Nat} {kd a b c : Int32} (h : kd = 14) : fitK t n kd a b c ↔ (isN t n 5 10 a ∧ isN t n 11 15 b ∧ isN t n 11 15 c) := by
  unfold fitK
  rw [if_neg (by rw [h]; decide), if_neg (by rw [h]; decide), if_neg (by rw [h]; decide), if_neg (by rw [h]; decide), if_neg (by rw [h]; decide), if_neg (by rw [h]; decide), if_neg (by rw [h]; decide), if_neg (by rw [h]; decide), if_neg (by rw [h]; decide), if_neg (by rw [h]; decide), if_neg (by rw [h]; decide), if_neg (by rw [h]; decide), if_neg (by rw [h]; decide), if_neg (by rw [h]; decide), if_pos h]
theorem fitK15 {t : Tbl} {n : Nat} {kd a b c : Int32} (h : kd = 15) : fitK t n kd a b c ↔ (isN t n 5 10 a ∧ isN t n 5 10 b ∧ isN t n 11 15 c) := by
  unfold fitK
  rw [if_neg (by rw [h]; decide), if_neg (by rw [h]; decide), if_neg (by rw [h]; decide), if_neg (by rw [h]; decide), if_neg (by rw [h]; decide), if_neg (by rw [h]; decide), if_neg (by rw [h]; decide), if_neg (by rw [h]; decide), if_neg (by rw [h]; decide), if_neg (by rw [h]; decide), if_neg (by rw [h]; decide), if_neg (by rw [h]; decide), if_neg (by rw [h]; decide), if_neg (by rw [h]; decide), if_neg (by rw [h]; decide), if_pos h]
theorem fitKd {t : Tbl} {n : Nat} {kd a b c : Int32} (h : ¬ kd = 0 ∧ ¬ kd = 1 ∧ ¬ kd = 2 ∧ ¬ kd = 3 ∧ ¬ kd = 4 ∧ ¬ kd = 5 ∧ ¬ kd = 6 ∧ ¬ kd = 7 ∧ ¬ kd = 8 ∧ ¬ kd = 9 ∧ ¬ kd = 10 ∧ ¬ kd = 11 ∧ ¬ kd = 12 ∧ ¬ kd = 13 ∧ ¬ kd = 14 ∧ ¬ kd = 15) : ¬ fitK t n kd a b c := by
  obtain ⟨h0, h1, h2, h3, h4, h5, h6, h7, h8, h9, h10, h11, h12, h13, h14, h15⟩ := h
  unfold fitK
  rw [if_neg h0, if_neg h1, if_neg h2, if_neg h3, if_neg h4, if_neg h5, if_neg h6, if_neg h7, if_neg h8, if_neg h9, if_neg h10, if_neg h11, if_neg h12, if_neg h13, if_neg h14, if_neg h15]
  exact id
def S_fitting : SpecT := fun av σ Φ => match av with
  | [Sum.inr (Sum.inr (Sum.inr q)), Sum.inl kd, Sum.inl a, Sum.inl b, Sum.inl c] => thisM q 11 (oknM σ ∧ Φ (some (aI (b01 (fitK (tM σ) (nM σ) kd a b c)))) σ)
  | _ => False
set_option maxRecDepth 100000 in
theorem c_fitting (l : Launch) : Con l yX5_fitting cX5_fitting 5 (some .boolean) 5 3 S_fitting := by
  refine Con.of (by decide) (by decide) ?_
  intro p e s s0 a0 m args below meth c D ad cA A av σ Φ hlen hS hr X
  match av, hS with
  | [Sum.inr (Sum.inr (Sum.inr q)), Sum.inl kd, Sum.inl a, Sum.inl b, Sum.inl c], hS =>
    obtain ⟨rfl, hS⟩ := thisM_out hS
    refine wp_sound (ps := []) (C := fun _ _ _ _ => False) (tk_X5_fitting X hr (c_in l) (by omega) (c_isExpression l) (by omega) (c_isCondition l) (by omega) (c_isCommand l) (by omega)) (fun _ _ _ _ h => h.elim) 400 _ _ _ _ ?_
    obtain ⟨hn, hS⟩ := hS
    refine And.intro (fun e0 => ?_) (fun e0 => ?_)
    · rw [b01_c (fitK0 e0)] at hS
      exact And.intro (b01_or _) hS
    refine And.intro (fun e1 => ?_) (fun e1 => ?_)
    · rw [b01_c (fitK1 e1)] at hS
      exact And.intro (b01_or _) hS
    refine And.intro (fun e2 => ?_) (fun e2 => ?_)
    · rw [b01_c (fitK2 e2)] at hS
      refine And.intro hn ?_
      refine And.intro (fun z0 => ?_) (fun z0 => ?_)
      · rw [b01_f (fun w => b01_0 z0 w.1)] at hS
        exact And.intro (Or.inl rfl) hS
      refine And.intro hn ?_
      refine And.intro (fun z1 => ?_) (fun z1 => ?_)
      · rw [b01_f (fun w => b01_0 z1 w.2)] at hS
        exact And.intro (Or.inl rfl) hS
      rw [b01_t ⟨b01_n z0, b01_n z1⟩] at hS
      exact And.intro (Or.inr rfl) hS
    refine And.intro (fun e3 => ?_) (fun e3 => ?_)
    · rw [b01_c (fitK3 e3)] at hS
      refine And.intro hn ?_
      refine And.intro (fun z0 => ?_) (fun z0 => ?_)
      · rw [b01_f (fun w => b01_0 z0 w.1)] at hS
        exact And.intro (Or.inl rfl) hS
      refine And.intro hn ?_
      refine And.intro (fun z1 => ?_) (fun z1 => ?_)
      · rw [b01_f (fun w => b01_0 z1 w.2)] at hS
        exact And.intro (Or.inl rfl) hS
      rw [b01_t ⟨b01_n z0, b01_n z1⟩] at hS
      exact And.intro (Or.inr rfl) hS
    refine And.intro (fun e4 => ?_) (fun e4 => ?_)
    · rw [b01_c (fitK4 e4)] at hS
      refine And.intro (fun z0 => ?_) (fun z0 => ?_)
      · rw [b01_f (fun w => b01_0 z0 w.1)] at hS
        exact And.intro (Or.inl rfl) hS
      refine And.intro hn ?_
      refine And.intro (fun z1 => ?_) (fun z1 => ?_)
      · rw [b01_f (fun w => b01_0 z1 w.2)] at hS
        exact And.intro (Or.inl rfl) hS
      rw [b01_t ⟨b01_n z0, b01_n z1⟩] at hS
      exact And.intro (Or.inr rfl) hS
    refine And.intro (fun e5 => ?_) (fun e5 => ?_)
    · rw [b01_c (fitK5 e5)] at hS
      refine And.intro hn ?_
      refine And.intro (fun z0 => ?_) (fun z0 => ?_)
      · rw [b01_f (fun w => b01_0 z0 w.1)] at hS
        exact And.intro (Or.inl rfl) hS
      refine And.intro hn ?_
      refine And.intro (fun z1 => ?_) (fun z1 => ?_)
      · rw [b01_f (fun w => b01_0 z1 w.2)] at hS
        exact And.intro (Or.inl rfl) hS
      rw [b01_t ⟨b01_n z0, b01_n z1⟩] at hS
      exact And.intro (Or.inr rfl) hS
    refine And.intro (fun e6 => ?_) (fun e6 => ?_)
    · rw [b01_c (fitK6 e6)] at hS
      refine And.intro hn ?_
      refine And.intro (fun z0 => ?_) (fun z0 => ?_)
      · rw [b01_f (fun w => b01_0 z0 w.1)] at hS
        exact And.intro (Or.inl rfl) hS
      refine And.intro hn ?_
      refine And.intro (fun z1 => ?_) (fun z1 => ?_)
      · rw [b01_f (fun w => b01_0 z1 w.2)] at hS
        exact And.intro (Or.inl rfl) hS
      rw [b01_t ⟨b01_n z0, b01_n z1⟩] at hS
      exact And.intro (Or.inr rfl) hS
    refine And.intro (fun e7 => ?_) (fun e7 => ?_)
    · rw [b01_c (fitK7 e7)] at hS
      refine And.intro (fun z0 => ?_) (fun z0 => ?_)
      · rw [b01_f (fun w => b01_0 z0 w.1)] at hS
        exact And.intro (Or.inl rfl) hS
      refine And.intro hn ?_
      refine And.intro (fun z1 => ?_) (fun z1 => ?_)
      · rw [b01_f (fun w => b01_0 z1 w.2)] at hS
        exact And.intro (Or.inl rfl) hS
      rw [b01_t ⟨b01_n z0, b01_n z1⟩] at hS
      exact And.intro (Or.inr rfl) hS
    refine And.intro (fun e8 => ?_) (fun e8 => ?_)
    · rw [b01_c (fitK8 e8)] at hS
      refine And.intro hn ?_
      exact And.intro (b01_or _) hS
    refine And.intro (fun e9 => ?_) (fun e9 => ?_)
    · rw [b01_c (fitK9 e9)] at hS
      refine And.intro hn ?_
      refine And.intro (fun z0 => ?_) (fun z0 => ?_)
      · rw [b01_f (fun w => b01_0 z0 w.1)] at hS
        exact And.intro (Or.inl rfl) hS
      refine And.intro hn ?_
      refine And.intro (fun z1 => ?_) (fun z1 => ?_)
      · rw [b01_f (fun w => b01_0 z1 w.2)] at hS
        exact And.intro (Or.inl rfl) hS
      rw [b01_t ⟨b01_n z0, b01_n z1⟩] at hS
      exact And.intro (Or.inr rfl) hS
    refine And.intro (fun e10 => ?_) (fun e10 => ?_)
    · rw [b01_c (fitK10 e10)] at hS
      refine And.intro hn ?_
      refine And.intro (fun z0 => ?_) (fun z0 => ?_)
      · rw [b01_f (fun w => b01_0 z0 w.1)] at hS
        exact And.intro (Or.inl rfl) hS
      refine And.intro hn ?_
      refine And.intro (fun z1 => ?_) (fun z1 => ?_)
      · rw [b01_f (fun w => b01_0 z1 w.2)] at hS
        exact And.intro (Or.inl rfl) hS
      rw [b01_t ⟨b01_n z0, b01_n z1⟩] at hS
      exact And.intro (Or.inr rfl) hS
    refine And.intro (fun e11 => ?_) (fun e11 => ?_)
    · rw [b01_c (fitK11 e11)] at hS
      rw [b01_t trivial] at hS
      exact And.intro (Or.inr rfl) hS
    refine And.intro (fun e12 => ?_) (fun e12 => ?_)
    · rw [b01_c (fitK12 e12)] at hS
      refine And.intro (fun z0 => ?_) (fun z0 => ?_)
      · rw [b01_f (fun w => b01_0 z0 w.1)] at hS
        exact And.intro (Or.inl rfl) hS
      refine And.intro hn ?_
      refine And.intro (fun z1 => ?_) (fun z1 => ?_)
      · rw [b01_f (fun w => b01_0 z1 w.2)] at hS
        exact And.intro (Or.inl rfl) hS
      rw [b01_t ⟨b01_n z0, b01_n z1⟩] at hS
      exact And.intro (Or.inr rfl) hS
    refine And.intro (fun e13 => ?_) (fun e13 => ?_)
    · rw [b01_c (fitK13 e13)] at hS
      refine And.intro hn ?_
      refine And.intro (fun z0 => ?_) (fun z0 => ?_)
      · rw [b01_f (fun w => b01_0 z0 w.1)] at hS
        exact And.intro (Or.inl rfl) hS
      refine And.intro hn ?_
      refine And.intro (fun z1 => ?_) (fun z1 => ?_)
      · rw [b01_f (fun w => b01_0 z1 w.2)] at hS
        exact And.intro (Or.inl rfl) hS
      rw [b01_t ⟨b01_n z0, b01_n z1⟩] at hS
      exact And.intro (Or.inr rfl) hS
    refine And.intro (fun e14 => ?_) (fun e14 => ?_)
    · rw [b01_c (fitK14 e14)] at hS
      refine And.intro hn ?_
      refine And.intro (fun z0 => ?_) (fun z0 => ?_)
      · rw [b01_f (fun w => b01_0 z0 w.1)] at hS
        exact And.intro (Or.inl rfl) hS
      refine And.intro hn ?_
      refine And.intro (fun z1 => ?_) (fun z1 => ?_)
      · rw [b01_f (fun w => b01_0 z1 w.2.1)] at hS
        exact And.intro (Or.inl rfl) hS
      refine And.intro hn ?_
      refine And.intro (fun z2 => ?_) (fun z2 => ?_)
      · rw [b01_f (fun w => b01_0 z2 w.2.2)] at hS
        exact And.intro (Or.inl rfl) hS
      rw [b01_t ⟨b01_n z0, b01_n z1, b01_n z2⟩] at hS
      exact And.intro (Or.inr rfl) hS
    refine And.intro (fun e15 => ?_) (fun e15 => ?_)
    · rw [b01_c (fitK15 e15)] at hS
      refine And.intro hn ?_
      refine And.intro (fun z0 => ?_) (fun z0 => ?_)
      · rw [b01_f (fun w => b01_0 z0 w.1)] at hS
        exact And.intro (Or.inl rfl) hS
      refine And.intro hn ?_
      refine And.intro (fun z1 => ?_) (fun z1 => ?_)
      · rw [b01_f (fun w => b01_0 z1 w.2.1)] at hS
        exact And.intro (Or.inl rfl) hS
      refine And.intro hn ?_
      refine And.intro (fun z2 => ?_) (fun z2 => ?_)
      · rw [b01_f (fun w => b01_0 z2 w.2.2)] at hS
        exact And.intro (Or.inl rfl) hS
      rw [b01_t ⟨b01_n z0, b01_n z1, b01_n z2⟩] at hS
      exact And.intro (Or.inr rfl) hS
    rw [b01_f (fitKd ⟨e0, e1, e2, e3, e4, e5, e6, e7, e8, e9, e10, e11, e12, e13, e14, e15⟩)] at hS
    exact And.intro (Or.inl rfl) hS
