/-! THE HEAP'S ROWS -/
def okq (g i : Nat) (P : Prop) : Prop := cond (Nat.blt g 36) (cond (Nat.beq i 0) P False) (i < 16 ∧ P)
theorem shp_lt {g : Nat} {sh : SH} (h : shp g = some sh) : g < 38 := (List.getElem?_eq_some_iff.mp h).1
theorem okq_out {g i : Nat} {P : Prop} {sh : SH} (hs : shp g = some sh) (h : okq g i P) : okT g i ∧ P := by
  have h38 := shp_lt hs
  unfold okq at h
  cases hb : Nat.blt g 36 with
  | true =>
    rw [hb] at h
    have hg : g < 36 := by simpa [Nat.blt_eq] using hb
    cases hi : Nat.beq i 0 with
    | true =>
      rw [hi] at h
      exact ⟨Or.inl ⟨hg, by simpa using hi⟩, h⟩
    | false => rw [hi] at h; exact h.elim
  | false =>
    rw [hb] at h
    have hg : ¬ g < 36 := fun z => by rw [Nat.blt_eq.mpr z] at hb; cases hb
    exact ⟨Or.inr ⟨by omega, h.1⟩, h.2⟩
section HEAP
variable {p : Program} {l : Launch} {e : Env} {R : Room} {s s0 : State} {a0 : Array Value} {m : MethodId} {args : Array Value} {below : List Frame} {meth : Method} {c : Code} {D : va_G} {ad : Nat → Nat → Nat} {cA : Nat → ClassId} {A : Nat → Prop} {nL cl sl : Nat} {Q : State → Prop} {cc : ByteArray} {own : String} {pc : Nat}
def tq_gf (ci f np : Nat) : Tr := fun lv st σ k => match st with
  | Sum.inr (Sum.inr (Sum.inr (g, i))) :: r => (match shp g with
    | some (.inl o) => cond (Nat.beq o.1 ci) (match o.2[f]? with
      | some none => okq g i (k np lv (aI (rd σ g i f) :: r) σ)
      | some (some g') => okq g i (k np lv (aR g' (tix g' i) :: r) σ)
      | none => False) False
    | _ => False)
  | _ => False
theorem sq_gf (X : Cx p l s0 a0 s m args meth c cc nL own D ad cA A) {C : String} {T : u_T} {N ci index f : Nat} (hc : vwCl[ci]? = some (C, T, N)) (hin : ∀ w ∈ u_ws C T N, w ∈ lw_tbl) (hgd : (u_ws C T N).all goodWord = true) (hf : f < N) (hlink : Cond.fieldLink own index (T f).1 (T f).2.1 (T f).2.2.1 ∈ lw_tbl)
    (d : decode cc pc = .ok (.getfield index, 3)) : Snd (K p l e R s m args below meth c D ad cA A nL cl sl Q) pc (tq_gf ci f (pc + 3)) := by
  intro lv st σ k h hk ls H locs hl hP hD hS
  have hK := X.2.2.2.2.1
  match st, h with
  | Sum.inr (Sum.inr (Sum.inr (g, i))) :: r, h =>
    simp only [tq_gf] at h
    split at h
    next o hs =>
      cases hb : Nat.beq o.1 ci with
      | false => rw [hb] at h; exact h.elim
      | true =>
        rw [hb] at h
        have hoc : o.1 = ci := Nat.eq_of_beq_eq_true hb
        simp only [cond] at h
        split at h
        next hv =>
          obtain ⟨ho, h9⟩ := okq_out hs h
          have he := wld_at (ad := ad) (cA := cA) (σ := σ) ho hs
          simp only [cell1, hoc] at he
          exact va_get (D := D) (C := C) (T := T) (N := N) X.1 X.2.1 (X.ws hin hgd) (fun w h => h) X.2.2.2.1 hK hP (pos g i) he hc f hf (X.w hlink rfl) (fun _ h => h) (fcs_int o.2 0 f hv) d (by rw [Nat.zero_add]; exact hk _ _ _ _ h9 ls H locs hl hP hD hS)
        next g' hv =>
          obtain ⟨ho, h9⟩ := okq_out hs h
          have he := wld_at (ad := ad) (cA := cA) (σ := σ) ho hs
          simp only [cell1, hoc] at he
          exact va_get (D := D) (C := C) (T := T) (N := N) X.1 X.2.1 (X.ws hin hgd) (fun w h => h) X.2.2.2.1 hK hP (pos g i) he hc f hf (X.w hlink rfl) (fun _ h => h) (fcs_ref o.2 0 f hv) d (hk _ _ _ _ h9 ls H locs hl hP hD hS)
        next => exact h.elim
    next => exact h.elim
def tq_pf (ci f np : Nat) : Tr := fun lv st σ k => match st with
  | Sum.inl x :: Sum.inr (Sum.inr (Sum.inr (g, i))) :: r => (match shp g with
    | some (.inl o) => cond (Nat.beq o.1 ci) (match o.2[f]? with
      | some none => okq g i (k np lv r (wr σ g i f x))
      | _ => False) False
    | _ => False)
  | _ => False
theorem sq_pf (X : Cx p l s0 a0 s m args meth c cc nL own D ad cA A) {C : String} {T : u_T} {N ci index f : Nat} (hc : vwCl[ci]? = some (C, T, N)) (hin : ∀ w ∈ u_ws C T N, w ∈ lw_tbl) (hgd : (u_ws C T N).all goodWord = true) (ty0 : Nat → FieldType) (hty : ∀ k, k < N → parseFieldDescriptor (T k).2.2.1 = some (ty0 k)) (hnm : ∀ a, a < N → ∀ b, b < N → a ≠ b → (T a).2.1 ≠ (T b).2.1) (hf : f < N) (hlink : Cond.fieldLink own index (T f).1 (T f).2.1 (T f).2.2.1 ∈ lw_tbl) (hfin : (T f).2.2.2 = false) (hd : ty0 f = .int)
    (d : decode cc pc = .ok (.putfield index, 3)) : Snd (K p l e R s m args below meth c D ad cA A nL cl sl Q) pc (tq_pf ci f (pc + 3)) := by
  intro lv st σ k h hk ls H locs hl hP hD hS
  have hK := X.2.2.2.2.1
  match st, h with
  | Sum.inl x :: Sum.inr (Sum.inr (Sum.inr (g, i))) :: r, h =>
    simp only [tq_pf] at h
    split at h
    next o hs =>
      cases hb : Nat.beq o.1 ci with
      | false => rw [hb] at h; exact h.elim
      | true =>
        rw [hb] at h
        have hoc : o.1 = ci := Nat.eq_of_beq_eq_true hb
        simp only [cond] at h
        split at h
        next hv =>
          obtain ⟨ho, h9⟩ := okq_out hs h
          have he := wld_at (ad := ad) (cA := cA) (σ := σ) ho hs
          simp only [cell1, hoc] at he
          refine va_put (D := D) (C := C) (T := T) (N := N) (v := .int x) (ty := .int) X.1 X.2.1 (X.ws hin hgd) (fun w h => h) ty0 hty hnm X.2.2.2.1 hK hP hD hS (pos g i) he hc f hf (X.w hlink rfl) (fun _ h => h) hfin (by rw [hty f hf, hd]) rfl rfl (by rw [fcs_len]; exact (List.getElem?_eq_some_iff.mp hv).1) d (fun H1 locs1 hP1 hD1 hS1 => ?_)
          obtain ⟨o1, o2⟩ := o
          dsimp only at hoc hv hP1 hD1
          subst hoc
          rw [wld_wr_f ho hs hv] at hP1 hD1
          exact hk _ _ _ _ h9 ls H1 locs1 hl hP1 hD1 hS1
        next => exact h.elim
    next => exact h.elim
def tq_pz (ci f np : Nat) : Tr := fun lv st σ k => match st with
  | Sum.inl x :: Sum.inr (Sum.inr (Sum.inr (g, i))) :: r => (match shp g with
    | some (.inl o) => cond (Nat.beq o.1 ci) (match o.2[f]? with
      | some none => okq g i ((x = 0 ∨ x = 1) ∧ k np lv r (wr σ g i f x))
      | _ => False) False
    | _ => False)
  | _ => False
theorem sq_pz (X : Cx p l s0 a0 s m args meth c cc nL own D ad cA A) {C : String} {T : u_T} {N ci index f : Nat} (hc : vwCl[ci]? = some (C, T, N)) (hin : ∀ w ∈ u_ws C T N, w ∈ lw_tbl) (hgd : (u_ws C T N).all goodWord = true) (ty0 : Nat → FieldType) (hty : ∀ k, k < N → parseFieldDescriptor (T k).2.2.1 = some (ty0 k)) (hnm : ∀ a, a < N → ∀ b, b < N → a ≠ b → (T a).2.1 ≠ (T b).2.1) (hf : f < N) (hlink : Cond.fieldLink own index (T f).1 (T f).2.1 (T f).2.2.1 ∈ lw_tbl) (hfin : (T f).2.2.2 = false) (hd : ty0 f = .boolean)
    (d : decode cc pc = .ok (.putfield index, 3)) : Snd (K p l e R s m args below meth c D ad cA A nL cl sl Q) pc (tq_pz ci f (pc + 3)) := by
  intro lv st σ k h hk ls H locs hl hP hD hS
  have hK := X.2.2.2.2.1
  match st, h with
  | Sum.inl x :: Sum.inr (Sum.inr (Sum.inr (g, i))) :: r, h =>
    simp only [tq_pz] at h
    split at h
    next o hs =>
      cases hb : Nat.beq o.1 ci with
      | false => rw [hb] at h; exact h.elim
      | true =>
        rw [hb] at h
        have hoc : o.1 = ci := Nat.eq_of_beq_eq_true hb
        simp only [cond] at h
        split at h
        next hv =>
          obtain ⟨ho, h9⟩ := okq_out hs h
          have he := wld_at (ad := ad) (cA := cA) (σ := σ) ho hs
          simp only [cell1, hoc] at he
          refine va_put (D := D) (C := C) (T := T) (N := N) (v := .int x) (ty := .boolean) X.1 X.2.1 (X.ws hin hgd) (fun w h => h) ty0 hty hnm X.2.2.2.1 hK hP hD hS (pos g i) he hc f hf (X.w hlink rfl) (fun _ h => h) hfin (by rw [hty f hf, hd]) (by rcases h9.1 with rfl | rfl <;> rfl) (by rcases h9.1 with rfl | rfl <;> rfl) (by rw [fcs_len]; exact (List.getElem?_eq_some_iff.mp hv).1) d (fun H1 locs1 hP1 hD1 hS1 => ?_)
          obtain ⟨o1, o2⟩ := o
          dsimp only at hoc hv hP1 hD1
          subst hoc
          rw [wld_wr_f ho hs hv] at hP1 hD1
          exact hk _ _ _ _ h9.2 ls H1 locs1 hl hP1 hD1 hS1
        next => exact h.elim
    next => exact h.elim
def tq_iald (np : Nat) : Tr := fun lv st σ k => match st with
  | Sum.inl x :: Sum.inr (Sum.inr (Sum.inr (g, i))) :: r => (match shp g with
    | some (.inr a) => cond (Nat.beq a.1 0) (okq g i (vp_in x a.2 ∧ k np lv (aI (rd σ g i x.toNatClampNeg) :: r) σ)) False
    | _ => False)
  | _ => False
theorem sq_iald (X : Cx p l s0 a0 s m args meth c cc nL own D ad cA A) (d : decode cc pc = .ok (.iaload, 1)) : Snd (K p l e R s m args below meth c D ad cA A nL cl sl Q) pc (tq_iald (pc + 1)) := by
  intro lv st σ k h hk ls H locs hl hP hD hS
  have hK := X.2.2.2.2.1
  match st, h with
  | Sum.inl x :: Sum.inr (Sum.inr (Sum.inr (g, i))) :: r, h =>
    simp only [tq_iald] at h
    split at h
    next a hs =>
      obtain ⟨kd, n⟩ := a
      dsimp only at h
      cases hb : Nat.beq kd 0 with
      | false => rw [hb] at h; exact h.elim
      | true =>
        rw [hb] at h
        have hoc : kd = 0 := Nat.eq_of_beq_eq_true hb
        subst hoc
        obtain ⟨ho, hin, h9⟩ := okq_out hs h
        have he := wld_at (ad := ad) (cA := cA) (σ := σ) ho hs
        exact va_iald (D := D) X.1 X.2.1 hK hP (pos g i) 0 he rfl hin d (hk _ _ _ _ h9 ls H locs hl hP hD hS)
    next => exact h.elim
def tq_zald (np : Nat) : Tr := fun lv st σ k => match st with
  | Sum.inl x :: Sum.inr (Sum.inr (Sum.inr (g, i))) :: r => (match shp g with
    | some (.inr a) => cond (Nat.beq a.1 2) (okq g i (vp_in x a.2 ∧ k np lv (aI (rd σ g i x.toNatClampNeg) :: r) σ)) False
    | _ => False)
  | _ => False
theorem sq_zald (X : Cx p l s0 a0 s m args meth c cc nL own D ad cA A) (d : decode cc pc = .ok (.baload, 1)) : Snd (K p l e R s m args below meth c D ad cA A nL cl sl Q) pc (tq_zald (pc + 1)) := by
  intro lv st σ k h hk ls H locs hl hP hD hS
  have hK := X.2.2.2.2.1
  match st, h with
  | Sum.inl x :: Sum.inr (Sum.inr (Sum.inr (g, i))) :: r, h =>
    simp only [tq_zald] at h
    split at h
    next a hs =>
      obtain ⟨kd, n⟩ := a
      dsimp only at h
      cases hb : Nat.beq kd 2 with
      | false => rw [hb] at h; exact h.elim
      | true =>
        rw [hb] at h
        have hoc : kd = 2 := Nat.eq_of_beq_eq_true hb
        subst hoc
        obtain ⟨ho, hin, h9⟩ := okq_out hs h
        have he := wld_at (ad := ad) (cA := cA) (σ := σ) ho hs
        exact va_zald (D := D) X.1 X.2.1 hK hP (pos g i) 2 he rfl hin d (hk _ _ _ _ h9 ls H locs hl hP hD hS)
    next => exact h.elim
def tq_lald (np : Nat) : Tr := fun lv st σ k => match st with
  | Sum.inl x :: Sum.inr (Sum.inr (Sum.inr (g, i))) :: r => (match shp g with
    | some (.inr a) => cond (Nat.beq a.1 1) (okq g i (vp_in x a.2 ∧ k np lv (aL (rl σ g x.toNatClampNeg) :: r) σ)) False
    | _ => False)
  | _ => False
theorem sq_lald (X : Cx p l s0 a0 s m args meth c cc nL own D ad cA A) (d : decode cc pc = .ok (.laload, 1)) : Snd (K p l e R s m args below meth c D ad cA A nL cl sl Q) pc (tq_lald (pc + 1)) := by
  intro lv st σ k h hk ls H locs hl hP hD hS
  have hK := X.2.2.2.2.1
  match st, h with
  | Sum.inl x :: Sum.inr (Sum.inr (Sum.inr (g, i))) :: r, h =>
    simp only [tq_lald] at h
    split at h
    next a hs =>
      obtain ⟨kd, n⟩ := a
      dsimp only at h
      cases hb : Nat.beq kd 1 with
      | false => rw [hb] at h; exact h.elim
      | true =>
        rw [hb] at h
        have hoc : kd = 1 := Nat.eq_of_beq_eq_true hb
        subst hoc
        obtain ⟨ho, hin, h9⟩ := okq_out hs h
        have he := wld_at (ad := ad) (cA := cA) (σ := σ) ho hs
        exact va_lald (D := D) X.1 X.2.1 hK hP (pos g i) 1 he rfl hin d (hk _ _ _ _ h9 ls H locs hl hP hD hS)
    next => exact h.elim
def tq_dald (np : Nat) : Tr := fun lv st σ k => match st with
  | Sum.inl x :: Sum.inr (Sum.inr (Sum.inr (g, i))) :: r => (match shp g with
    | some (.inr a) => cond (Nat.beq a.1 3) (okq g i (vp_in x a.2 ∧ k np lv (aD (rz σ g x.toNatClampNeg) :: r) σ)) False
    | _ => False)
  | _ => False
theorem sq_dald (X : Cx p l s0 a0 s m args meth c cc nL own D ad cA A) (d : decode cc pc = .ok (.daload, 1)) : Snd (K p l e R s m args below meth c D ad cA A nL cl sl Q) pc (tq_dald (pc + 1)) := by
  intro lv st σ k h hk ls H locs hl hP hD hS
  have hK := X.2.2.2.2.1
  match st, h with
  | Sum.inl x :: Sum.inr (Sum.inr (Sum.inr (g, i))) :: r, h =>
    simp only [tq_dald] at h
    split at h
    next a hs =>
      obtain ⟨kd, n⟩ := a
      dsimp only at h
      cases hb : Nat.beq kd 3 with
      | false => rw [hb] at h; exact h.elim
      | true =>
        rw [hb] at h
        have hoc : kd = 3 := Nat.eq_of_beq_eq_true hb
        subst hoc
        obtain ⟨ho, hin, h9⟩ := okq_out hs h
        have he := wld_at (ad := ad) (cA := cA) (σ := σ) ho hs
        exact va_dald (D := D) X.1 X.2.1 hK hP (pos g i) 3 he rfl hin d (hk _ _ _ _ h9 ls H locs hl hP hD hS)
    next => exact h.elim
def tq_aald (np : Nat) : Tr := fun lv st σ k => match st with
  | Sum.inl x :: Sum.inr (Sum.inr (Sum.inr (g, i))) :: r => (match shp g with
    | some (.inr a) => cond (Nat.beq a.1 4) (okq g i (vp_in x a.2 ∧ k np lv (aR 36 x.toNatClampNeg :: r) σ)) False
    | _ => False)
  | _ => False
theorem sq_aald (X : Cx p l s0 a0 s m args meth c cc nL own D ad cA A) (d : decode cc pc = .ok (.aaload, 1)) : Snd (K p l e R s m args below meth c D ad cA A nL cl sl Q) pc (tq_aald (pc + 1)) := by
  intro lv st σ k h hk ls H locs hl hP hD hS
  have hK := X.2.2.2.2.1
  match st, h with
  | Sum.inl x :: Sum.inr (Sum.inr (Sum.inr (g, i))) :: r, h =>
    simp only [tq_aald] at h
    split at h
    next a hs =>
      obtain ⟨kd, n⟩ := a
      dsimp only at h
      cases hb : Nat.beq kd 4 with
      | false => rw [hb] at h; exact h.elim
      | true =>
        rw [hb] at h
        have hoc : kd = 4 := Nat.eq_of_beq_eq_true hb
        subst hoc
        obtain ⟨ho, hin, h9⟩ := okq_out hs h
        have he := wld_at (ad := ad) (cA := cA) (σ := σ) ho hs
        exact va_aldq (D := D) X.1 X.2.1 hK hP (pos g i) 4 he rfl hin d (hk _ _ _ _ h9 ls H locs hl hP hD hS)
    next => exact h.elim
def tq_iast (np : Nat) : Tr := fun lv st σ k => match st with
  | Sum.inl v :: Sum.inl x :: Sum.inr (Sum.inr (Sum.inr (g, i))) :: r => (match shp g with
    | some (.inr a) => cond (Nat.beq a.1 0) (okq g i (vp_in x a.2 ∧ k np lv r (wr σ g i x.toNatClampNeg v))) False
    | _ => False)
  | _ => False
theorem sq_iast (X : Cx p l s0 a0 s m args meth c cc nL own D ad cA A) (d : decode cc pc = .ok (.iastore, 1)) : Snd (K p l e R s m args below meth c D ad cA A nL cl sl Q) pc (tq_iast (pc + 1)) := by
  intro lv st σ k h hk ls H locs hl hP hD hS
  have hK := X.2.2.2.2.1
  match st, h with
  | Sum.inl v :: Sum.inl x :: Sum.inr (Sum.inr (Sum.inr (g, i))) :: r, h =>
    simp only [tq_iast] at h
    split at h
    next a hs =>
      obtain ⟨kd, n⟩ := a
      dsimp only at h
      cases hb : Nat.beq kd 0 with
      | false => rw [hb] at h; exact h.elim
      | true =>
        rw [hb] at h
        have hoc : kd = 0 := Nat.eq_of_beq_eq_true hb
        subst hoc
        obtain ⟨ho, hin, h9⟩ := okq_out hs h
        have he := wld_at (ad := ad) (cA := cA) (σ := σ) ho hs
        refine va_iast (D := D) X.1 X.2.1 hK hP hD hS (pos g i) 0 he rfl hin d (fun H1 locs1 hP1 hD1 hS1 => ?_)
        rw [wld_wr_a ho hs (Or.inl rfl)] at hP1 hD1
        exact hk _ _ _ _ h9 ls H1 locs1 hl hP1 hD1 hS1
    next => exact h.elim
def tq_zast (np : Nat) : Tr := fun lv st σ k => match st with
  | Sum.inl v :: Sum.inl x :: Sum.inr (Sum.inr (Sum.inr (g, i))) :: r => (match shp g with
    | some (.inr a) => cond (Nat.beq a.1 2) (okq g i (vp_in x a.2 ∧ (v = 0 ∨ v = 1) ∧ k np lv r (wr σ g i x.toNatClampNeg v))) False
    | _ => False)
  | _ => False
theorem sq_zast (X : Cx p l s0 a0 s m args meth c cc nL own D ad cA A) (d : decode cc pc = .ok (.bastore, 1)) : Snd (K p l e R s m args below meth c D ad cA A nL cl sl Q) pc (tq_zast (pc + 1)) := by
  intro lv st σ k h hk ls H locs hl hP hD hS
  have hK := X.2.2.2.2.1
  match st, h with
  | Sum.inl v :: Sum.inl x :: Sum.inr (Sum.inr (Sum.inr (g, i))) :: r, h =>
    simp only [tq_zast] at h
    split at h
    next a hs =>
      obtain ⟨kd, n⟩ := a
      dsimp only at h
      cases hb : Nat.beq kd 2 with
      | false => rw [hb] at h; exact h.elim
      | true =>
        rw [hb] at h
        have hoc : kd = 2 := Nat.eq_of_beq_eq_true hb
        subst hoc
        obtain ⟨ho, hin, hv01, h9⟩ := okq_out hs h
        have he := wld_at (ad := ad) (cA := cA) (σ := σ) ho hs
        refine va_zast (D := D) X.1 X.2.1 hK hP hD hS (pos g i) 2 he rfl hin d (fun H1 locs1 hP1 hD1 hS1 => ?_)
        rw [show vp_nar .boolean v = v by rcases hv01 with rfl | rfl <;> rfl] at hP1 hD1
        rw [wld_wr_a ho hs (Or.inr rfl)] at hP1 hD1
        exact hk _ _ _ _ h9 ls H1 locs1 hl hP1 hD1 hS1
    next => exact h.elim
def tq_last (np : Nat) : Tr := fun lv st σ k => match st with
  | Sum.inr (Sum.inl v) :: Sum.inl x :: Sum.inr (Sum.inr (Sum.inr (g, i))) :: r => (match shp g with
    | some (.inr a) => cond (Nat.beq a.1 1) (okq g i (vp_in x a.2 ∧ k np lv r (wrl σ g x.toNatClampNeg v))) False
    | _ => False)
  | _ => False
theorem sq_last (X : Cx p l s0 a0 s m args meth c cc nL own D ad cA A) (d : decode cc pc = .ok (.lastore, 1)) : Snd (K p l e R s m args below meth c D ad cA A nL cl sl Q) pc (tq_last (pc + 1)) := by
  intro lv st σ k h hk ls H locs hl hP hD hS
  have hK := X.2.2.2.2.1
  match st, h with
  | Sum.inr (Sum.inl v) :: Sum.inl x :: Sum.inr (Sum.inr (Sum.inr (g, i))) :: r, h =>
    simp only [tq_last] at h
    split at h
    next a hs =>
      obtain ⟨kd, n⟩ := a
      dsimp only at h
      cases hb : Nat.beq kd 1 with
      | false => rw [hb] at h; exact h.elim
      | true =>
        rw [hb] at h
        have hoc : kd = 1 := Nat.eq_of_beq_eq_true hb
        subst hoc
        obtain ⟨ho, hin, h9⟩ := okq_out hs h
        have he := wld_at (ad := ad) (cA := cA) (σ := σ) ho hs
        refine va_last (D := D) X.1 X.2.1 hK hP hD hS (pos g i) 1 he rfl hin d (fun H1 locs1 hP1 hD1 hS1 => ?_)
        have hg36 : g < 36 ∧ i = 0 := by
          rcases ho with z | ⟨z | z, -⟩
          · exact z
          · subst z; simp [shp, layS] at hs
          · subst z; simp [shp, layS] at hs
        obtain ⟨hg36, rfl⟩ := hg36
        rw [wld_wrl hg36 hs] at hP1 hD1
        exact hk _ _ _ _ h9 ls H1 locs1 hl hP1 hD1 hS1
    next => exact h.elim
def tq_dast (np : Nat) : Tr := fun lv st σ k => match st with
  | Sum.inr (Sum.inr (Sum.inl v)) :: Sum.inl x :: Sum.inr (Sum.inr (Sum.inr (g, i))) :: r => (match shp g with
    | some (.inr a) => cond (Nat.beq a.1 3) (okq g i (vp_in x a.2 ∧ k np lv r (wrz σ g x.toNatClampNeg v))) False
    | _ => False)
  | _ => False
theorem sq_dast (X : Cx p l s0 a0 s m args meth c cc nL own D ad cA A) (d : decode cc pc = .ok (.dastore, 1)) : Snd (K p l e R s m args below meth c D ad cA A nL cl sl Q) pc (tq_dast (pc + 1)) := by
  intro lv st σ k h hk ls H locs hl hP hD hS
  have hK := X.2.2.2.2.1
  match st, h with
  | Sum.inr (Sum.inr (Sum.inl v)) :: Sum.inl x :: Sum.inr (Sum.inr (Sum.inr (g, i))) :: r, h =>
    simp only [tq_dast] at h
    split at h
    next a hs =>
      obtain ⟨kd, n⟩ := a
      dsimp only at h
      cases hb : Nat.beq kd 3 with
      | false => rw [hb] at h; exact h.elim
      | true =>
        rw [hb] at h
        have hoc : kd = 3 := Nat.eq_of_beq_eq_true hb
        subst hoc
        obtain ⟨ho, hin, h9⟩ := okq_out hs h
        have he := wld_at (ad := ad) (cA := cA) (σ := σ) ho hs
        refine va_dast (D := D) X.1 X.2.1 hK hP hD hS (pos g i) 3 he rfl hin d (fun H1 locs1 hP1 hD1 hS1 => ?_)
        have hg36 : g < 36 ∧ i = 0 := by
          rcases ho with z | ⟨z | z, -⟩
          · exact z
          · subst z; simp [shp, layS] at hs
          · subst z; simp [shp, layS] at hs
        obtain ⟨hg36, rfl⟩ := hg36
        rw [wld_wrz hg36 hs] at hP1 hD1
        exact hk _ _ _ _ h9 ls H1 locs1 hl hP1 hD1 hS1
    next => exact h.elim
/-- the cases of a switch, by their numbers -/
def swc (x : Int32) (dn : Nat) (lv : LV) (r : List AV) (σ : Mem) (k : Kt) : List (Int32 × Nat) → Prop
  | [] => k dn lv r σ
  | (v, t) :: cs => (x = v → k t lv r σ) ∧ (¬ x = v → swc x dn lv r σ k cs)
def tq_sw (dn : Nat) (cs : List (Int32 × Nat)) : Tr := fun lv st σ k => match st with
  | Sum.inl x :: r => swc x dn lv r σ k cs
  | _ => False
theorem swc_in {x : Int32} {dn : Nat} {lv : LV} {r : List AV} {σ : Mem} {k : Kt} : ∀ (cs : List (Int32 × Nat)) (j : Nat) (t : Nat), swc x dn lv r σ k cs → cs[j]? = some (x, t) → (∀ i, i < j → ∀ v t', cs[i]? = some (v, t') → ¬ x = v) → k t lv r σ
  | [], j, t, _, h, _ => by simp at h
  | (v, t0) :: cs, 0, t, h, hj, _ => by
    simp at hj
    obtain ⟨rfl, rfl⟩ := hj
    exact h.1 rfl
  | (v, t0) :: cs, j + 1, t, h, hj, hn => swc_in cs j t (h.2 (hn 0 (by omega) v t0 rfl)) (by simpa using hj) (fun i hi v' t' hv => hn (i + 1) (by omega) v' t' (by simpa using hv))
theorem swc_out {x : Int32} {dn : Nat} {lv : LV} {r : List AV} {σ : Mem} {k : Kt} : ∀ (cs : List (Int32 × Nat)), swc x dn lv r σ k cs → (∀ q ∈ cs, ¬ x = q.1) → k dn lv r σ
  | [], h, _ => h
  | (v, t0) :: cs, h, hn => swc_out cs (h.2 (hn (v, t0) List.mem_cons_self)) (fun q hq => hn q (List.mem_cons_of_mem _ hq))
/-- the switch's table is that of its cases: lo, lo+1, .. -/
def swOK (pc : Nat) (lo : Int) (offs : List Int) (cs : List (Int32 × Nat)) : Bool := (List.range offs.length).all (fun j => match offs[j]?, cs[j]? with
  | some off, some (v, t) => decide (v.toInt = lo + j) && decide ((pc : Int) + off = (t : Int))
  | _, _ => false)
theorem sq_sw (X : Cx p l s0 a0 s m args meth c cc nL own D ad cA A) {dflt lo hi : Int} {offs : Array Int} {len dn : Nat} {cs : List (Int32 × Nat)} (hd : (pc : Int) + dflt = (dn : Int)) (hlen : cs.length = offs.size) (hhi : hi = lo + offs.size - 1) (hok : swOK pc lo offs.toList cs = true)
    (d : decode cc pc = .ok (.tableswitch dflt lo hi offs, len)) : Snd (K p l e R s m args below meth c D ad cA A nL cl sl Q) pc (tq_sw dn cs) := by
  intro lv st σ k h hk ls H locs hl hP hD hS
  match st, h with
  | Sum.inl x :: r, h =>
    simp only [tq_sw] at h
    have key : ∀ j, j < offs.size → ∃ off v t, offs[j]? = some off ∧ cs[j]? = some (v, t) ∧ v.toInt = lo + j ∧ (pc : Int) + off = (t : Int) := by
      intro j hj
      have h1 := List.all_eq_true.mp hok j (by simpa using hj)
      have e1 : offs.toList[j]? = some offs[j] := by simp [hj]
      have e2 : ∃ q, cs[j]? = some q := ⟨cs[j]'(by omega), by simp [hlen, hj]⟩
      obtain ⟨⟨v, t⟩, e2⟩ := e2
      rw [e1, e2] at h1
      simp only [Bool.and_eq_true, decide_eq_true_eq] at h1
      exact ⟨offs[j], v, t, by simp [hj], e2, h1.1, h1.2⟩
    by_cases hlo : x.toInt < lo ∨ hi < x.toInt
    · refine lv_tableOut X.1 X.2.1 d hlo hd (hk _ _ _ _ (swc_out cs h (fun q hq => ?_)) ls H locs hl hP hD hS)
      obtain ⟨j, hj⟩ := List.getElem?_of_mem hq
      have hjl : j < offs.size := by rw [← hlen]; exact (List.getElem?_eq_some_iff.mp hj).1
      obtain ⟨off, v, t, -, a2, a3, -⟩ := key j hjl
      rw [hj] at a2
      cases a2
      intro e
      subst e
      try dsimp only at hlo a3
      omega
    · have h1 : ¬ x.toInt < lo := fun z => hlo (Or.inl z)
      have h2 : ¬ hi < x.toInt := fun z => hlo (Or.inr z)
      have hj : (x.toInt - lo).toNat < offs.size := by omega
      obtain ⟨off, v, t, a1, a2, a3, a4⟩ := key _ hj
      have hv : v = x := by
        apply Int32.toInt_inj.mp
        rw [a3]
        omega
      subst hv
      refine lv_tableIn X.1 X.2.1 d h1 h2 a1 a4 (hk _ _ _ _ (swc_in cs _ t h a2 (fun i hi v' t' hv e => ?_)) ls H locs hl hP hD hS)
      obtain ⟨_, v2, t2, -, b2, b3, -⟩ := key i (by omega)
      rw [hv] at b2
      cases b2
      subst e
      omega
end HEAP
