def S_valueM : SpecT := fun av σ Φ => match av with
  | [Sum.inr (Sum.inr (Sum.inr q)), Sum.inl x, Sum.inl s] => thisM q 11 (MI σ ∧ (¬ (isN (tM σ) (nM σ) 0 4 x ∧ rng s) → ∀ σ', rd σ' 11 0 0 = 1 → eqf [18] [0] σ σ' → Φ (some (aI 0)) σ') ∧ (isN (tM σ) (nM σ) 0 4 x ∧ rng s → ∀ σ', rd σ' 11 0 0 = 0 → eqf [18] [0] σ σ' → Φ (some (aI (EV (tM σ) s (ix x)))) σ'))
  | _ => False
set_option maxRecDepth 100000 in
theorem c_valueM (l : Launch) : Con l yX5_value cX5_value 3 (some .int) 3 5 S_valueM := by
  refine Con.of (by decide) (by decide) ?_
  intro p e s s0 a0 m args below meth c D ad cA A av σ Φ hlen hS hr X
  match av, hS with
  | [Sum.inr (Sum.inr (Sum.inr q)), Sum.inl x, Sum.inl s], hS =>
    obtain ⟨rfl, hS⟩ := thisM_out hS
    refine wp_sound (ps := []) (C := fun _ _ _ _ => False) (tk_X5_value X hr (c_isExpression l) (by omega) (c_in l) (by omega) (c_refuse l) (by omega) (c_give l) (by omega)) (fun _ _ _ _ h => h.elim) 400 _ _ _ _ ?_
    obtain ⟨hM, hS1, hS2⟩ := hS
    have he0 : eqf [18] [0] σ (wr σ 11 0 0 0) := (eqf.refl _ _ _).pf (by decide)
    obtain ⟨hM0, ht0, hn0⟩ := MI_eqf he0 (by decide) (by decide) hM
    have hr1 : ¬ (isN (tM σ) (nM σ) 0 4 x ∧ rng s) → Φ (some (aI 0)) (wr (wr σ 11 0 0 0) 11 0 0 1) := fun h => hS1 h _ rfl (he0.pf (by decide))
    refine And.intro hM0.1 ?_
    rw [ht0, hn0]
    refine And.intro (fun h1 => ?_) (fun h1 => ?_)
    · have hr1 := hr1 (fun z => b01_0 h1 z.1)
      exact hr1
    refine And.intro (fun h2 => ?_) (fun h2 => ?_)
    · have hx := b01_n h1
      refine And.intro hM0 (And.intro (by rw [ht0, hn0]; exact ⟨hx.1, hx.2.1, Int32.le_trans hx.2.2 (by decide)⟩) (fun σ2 he2 => ?_))
      rw [ht0]
      have := hS2 ⟨hx, b01_n h2⟩ σ2 ((he2.1 11 0 0 (by decide)).trans rfl) (he0.trans (he2.f (by decide)))
      exact this
    · have hr1 := hr1 (fun z => b01_0 h2 z.2)
      exact hr1
def S_holdsM : SpecT := fun av σ Φ => match av with
  | [Sum.inr (Sum.inr (Sum.inr q)), Sum.inl x, Sum.inl s] => thisM q 11 (MI σ ∧ (¬ (isN (tM σ) (nM σ) 5 10 x ∧ rng s) → ∀ σ', rd σ' 11 0 0 = 1 → eqf [18] [0] σ σ' → Φ (some (aI 0)) σ') ∧ (isN (tM σ) (nM σ) 5 10 x ∧ rng s → ∀ σ', rd σ' 11 0 0 = 0 → eqf [18] [0] σ σ' → Φ (some (aI (EV (tM σ) s (ix x)))) σ'))
  | _ => False
set_option maxRecDepth 100000 in
theorem c_holdsM (l : Launch) : Con l yX5_holds cX5_holds 3 (some .boolean) 3 5 S_holdsM := by
  refine Con.of (by decide) (by decide) ?_
  intro p e s s0 a0 m args below meth c D ad cA A av σ Φ hlen hS hr X
  match av, hS with
  | [Sum.inr (Sum.inr (Sum.inr q)), Sum.inl x, Sum.inl s], hS =>
    obtain ⟨rfl, hS⟩ := thisM_out hS
    refine wp_sound (ps := []) (C := fun _ _ _ _ => False) (tk_X5_holds X hr (c_isCondition l) (by omega) (c_in l) (by omega) (c_refuse l) (by omega) (c_isTrue l) (by omega)) (fun _ _ _ _ h => h.elim) 400 _ _ _ _ ?_
    obtain ⟨hM, hS1, hS2⟩ := hS
    have he0 : eqf [18] [0] σ (wr σ 11 0 0 0) := (eqf.refl _ _ _).pf (by decide)
    obtain ⟨hM0, ht0, hn0⟩ := MI_eqf he0 (by decide) (by decide) hM
    have hr1 : ¬ (isN (tM σ) (nM σ) 5 10 x ∧ rng s) → Φ (some (aI 0)) (wr (wr σ 11 0 0 0) 11 0 0 1) := fun h => hS1 h _ rfl (he0.pf (by decide))
    refine And.intro hM0.1 ?_
    rw [ht0, hn0]
    refine And.intro (fun h1 => ?_) (fun h1 => ?_)
    · have hr1 := hr1 (fun z => b01_0 h1 z.1)
      exact And.intro (fun _ => And.intro (Or.inl rfl) hr1) (fun h => absurd (show (0 : Int32) ≤ 0 by decide) h)
    refine And.intro (fun h2 => ?_) (fun h2 => ?_)
    · have hx := b01_n h1
      refine And.intro hM0 (And.intro (by rw [ht0, hn0]; exact hx) (fun σ2 he2 => ?_))
      rw [ht0]
      have := hS2 ⟨hx, b01_n h2⟩ σ2 ((he2.1 11 0 0 (by decide)).trans rfl) (he0.trans (he2.f (by decide)))
      exact And.intro (EV_01 hM.2.1 s 6 (ix x) (vp_lt hx.1) (hM.2.1.2 _ (vp_lt hx.1)).2.1.2 hx.2.1 hx.2.2) this
    · have hr1 := hr1 (fun z => b01_0 h2 z.2)
      exact And.intro (fun _ => And.intro (Or.inl rfl) hr1) (fun h => absurd (show (0 : Int32) ≤ 0 by decide) h)
/-- the reference with one node more -/
noncomputable def newM (σ : Mem) (kd a b c h : Int32) : Mem := wr (wrl (wr (wr (wr (wr (wr (wr σ 11 0 0 0) 12 0 (nM σ) kd) 13 0 (nM σ) a) 14 0 (nM σ) b) 15 0 (nM σ) c) 16 0 (nM σ) h) 17 (nM σ) (bel (rl σ 17) (nM σ) kd a b)) 11 0 1 (rd σ 11 0 1 + 1)
def S_makeM : SpecT := fun av σ Φ => match av with
  | [Sum.inr (Sum.inr (Sum.inr q)), Sum.inl kd, Sum.inl a, Sum.inl b, Sum.inl c] => thisM q 11 (MI σ ∧ (¬ fitK (tM σ) (nM σ) kd a b c → Φ (some (aI 0)) (wr (wr σ 11 0 0 0) 11 0 0 1)) ∧ (fitK (tM σ) (nM σ) kd a b c → (nM σ = 60 ∨ ¬ hgt (tM σ) kd a b c ≤ 6 → Φ (some (aI 0)) (wr (wr σ 11 0 0 0) 11 0 0 2)) ∧ (nM σ < 60 → hgt (tM σ) kd a b c ≤ 6 → Φ (some (aI (rd σ 11 0 1))) (newM σ kd a b c (hgt (tM σ) kd a b c)))))
  | _ => False
set_option maxRecDepth 100000 in
theorem c_makeM (l : Launch) : Con l yX5_make cX5_make 6 (some .int) 5 4 S_makeM := by
  refine Con.of (by decide) (by decide) ?_
  intro p e s s0 a0 m args below meth c D ad cA A av σ Φ hlen hS hr X
  match av, hS with
  | [Sum.inr (Sum.inr (Sum.inr q)), Sum.inl kd, Sum.inl a, Sum.inl b, Sum.inl c], hS =>
    obtain ⟨rfl, hS⟩ := thisM_out hS
    obtain ⟨hM, hS1, hS2⟩ := hS
    have he0 : eqf [18] [0] σ (wr σ 11 0 0 0) := (eqf.refl _ _ _).pf (by decide)
    obtain ⟨hM0, ht0, hn0⟩ := MI_eqf he0 (by decide) (by decide) hM
    by_cases hf : fitK (tM σ) (nM σ) kd a b c
    rotate_left
    · refine wp_sound (ps := []) (C := fun _ _ _ _ => False) (tk_X5_make X hr (c_fitting l) (by omega) (c_refuse l) (by omega) (c_firstIsNode l) (by omega) (c_heightWith l) (by omega) (c_secondIsNode l) (by omega)) (fun _ _ _ _ h => h.elim) 400 _ _ _ _ ?_
      refine And.intro hM0.1 ?_
      rw [ht0, hn0]
      exact And.intro (fun h => absurd (b01_n h) hf) (fun _ => hS1 hf)
    obtain ⟨hSr, hSn⟩ := hS2 hf
    have h60 := hM.1.2
    have hva := fun h => vp_mono (fit_a hf h) h60
    have hvb := fun h => vp_mono (fit_b hf h) h60
    have hvc := fun h => vp_mono (fit_c hf h) h60
    obtain ⟨e3, -⟩ := hM3_eq hM.2.1 hf
    have htq : ∀ h x, hwV (tM (wr σ 11 0 0 0)) h x = hwV (tM σ) h x := fun h x => by rw [ht0]
    refine wp_meth (β := Nat) (ps := [47, 68, 89]) (N := 200) (N0 := 100)
      (fun j => match j with
        | 0 => 47
        | 1 => 68
        | _ => 89)
      (fun j => [some (aR 11 0), some (aI kd), some (aI a), some (aI b), some (aI c), some (aI (match j with
        | 0 => hM1 (tM σ) kd a
        | 1 => hM2 (tM σ) kd a b
        | _ => hM3 (tM σ) kd a b c))])
      (fun j σ' => j < 3 ∧ σ' = wr σ 11 0 0 0) (fun j _ => 3 - j) (tk_X5_make X hr (c_fitting l) (by omega) (c_refuse l) (by omega) (c_firstIsNode l) (by omega) (c_heightWith l) (by omega) (c_secondIsNode l) (by omega)) ?_ ?_
    · rintro j σ' ⟨hj, rfl⟩
      match j, hj with
      | 0, _ =>
        refine And.intro (fun h => ?_) (fun h => ?_)
        · refine ⟨1, rfl, ⟨rfl, rfl, rfl, rfl, rfl, ?_, trivial⟩, rfl, ⟨by omega, rfl⟩, by show 3 - 1 < 3 - 0; omega⟩
          show some (some (aI (hM1 (tM σ) kd a))) = some (some (aI (hM2 (tM σ) kd a b)))
          rw [hM2, cif_f (b01_0 h)]
        · refine And.intro (hvb (b01_n h)) ?_
          refine ⟨1, rfl, ⟨rfl, rfl, rfl, rfl, rfl, ?_, trivial⟩, rfl, ⟨by omega, rfl⟩, by show 3 - 1 < 3 - 0; omega⟩
          show some (some (aI (hwV (tM (wr σ 11 0 0 0)) (hM1 (tM σ) kd a) b))) = some (some (aI (hM2 (tM σ) kd a b)))
          rw [hM2, cif_t (b01_n h), htq]
      | 1, _ =>
        refine And.intro (fun h => ?_) (fun h => ?_)
        · refine ⟨2, rfl, ⟨rfl, rfl, rfl, rfl, rfl, ?_, trivial⟩, rfl, ⟨by omega, rfl⟩, by show 3 - 2 < 3 - 1; omega⟩
          show some (some (aI (hM2 (tM σ) kd a b))) = some (some (aI (hM3 (tM σ) kd a b c)))
          rw [hM3, cif_f (Int32.not_lt.mpr h)]
        · refine And.intro (hvc (Int32.not_le.mp h)) ?_
          refine ⟨2, rfl, ⟨rfl, rfl, rfl, rfl, rfl, ?_, trivial⟩, rfl, ⟨by omega, rfl⟩, by show 3 - 2 < 3 - 1; omega⟩
          show some (some (aI (hwV (tM (wr σ 11 0 0 0)) (hM2 (tM σ) kd a b) c))) = some (some (aI (hM3 (tM σ) kd a b c)))
          rw [hM3, cif_t (Int32.not_le.mp h), htq]
      | 2, _ =>
        have hN := hM.1.1
        refine And.intro (fun (h : rd σ 11 0 1 = 60) => ?_) (fun (h : ¬ rd σ 11 0 1 = 60) => ?_)
        · have h9 : nM σ = 60 := by
            rw [hN, show (60 : Int32) = nI 60 from rfl, nI_eq (by omega) (by decide)] at h
            exact h
          exact hSr (Or.inl h9)
        have hlt : nM σ < 60 := by
          rw [hN, show (60 : Int32) = nI 60 from rfl, nI_eq (by omega) (by decide)] at h
          omega
        refine And.intro (fun (h6 : hM3 (tM σ) kd a b c ≤ 6) => ?_) (fun (h6 : ¬ hM3 (tM σ) kd a b c ≤ 6) => ?_)
        rotate_left
        · rw [e3] at h6
          exact hSr (Or.inr h6)
        rw [e3] at h6
        have hv : vp_in (rd σ 11 0 1) 60 := by rw [hN]; exact vp_in_nI hlt (by decide)
        have hfin := hSn hlt h6
        rw [← e3] at hfin
        have er : rd σ 11 0 1 + 1 - 1 = rd σ 11 0 1 := by rw [hN, nI_1, nI_pred]
        rw [← er] at hfin
        unfold newM bel at hfin
        rw [← hN] at hfin
        refine And.intro hv (And.intro hv (And.intro hv (And.intro hv (And.intro hv ?_))))
        refine And.intro (fun h1 => ?_) (fun h1 => ?_)
        · rw [cif_f (b01_0 h1)] at hfin
          refine And.intro (fun h2 => ?_) (fun h2 => ?_)
          · rw [cif_f (b01_0 h2)] at hfin
            exact And.intro hv hfin
          · rw [cif_t (b01_n h2)] at hfin
            exact And.intro (hvb (b01_n h2)) (And.intro hv hfin)
        · rw [cif_t (b01_n h1)] at hfin
          refine And.intro (hva (b01_n h1)) ?_
          refine And.intro (fun h2 => ?_) (fun h2 => ?_)
          · rw [cif_f (b01_0 h2)] at hfin
            exact And.intro hv hfin
          · rw [cif_t (b01_n h2)] at hfin
            exact And.intro (hvb (b01_n h2)) (And.intro hv hfin)
    · refine And.intro hM0.1 ?_
      rw [ht0, hn0]
      refine And.intro (fun _ => ?_) (fun h => absurd hf (b01_0 h))
      refine And.intro (fun h => ?_) (fun h => ?_)
      · refine ⟨0, rfl, ⟨rfl, rfl, rfl, rfl, rfl, ?_, trivial⟩, rfl, ⟨by omega, rfl⟩, trivial⟩
        show some (some (aI 1)) = some (some (aI (hM1 (tM σ) kd a)))
        rw [hM1, cif_f (b01_0 h)]
      · refine And.intro (hva (b01_n h)) ?_
        refine ⟨0, rfl, ⟨rfl, rfl, rfl, rfl, rfl, ?_, trivial⟩, rfl, ⟨by omega, rfl⟩, trivial⟩
        show some (some (aI (hwV (tM (wr σ 11 0 0 0)) 1 a))) = some (some (aI (hM1 (tM σ) kd a)))
        rw [hM1, cif_t (b01_n h), htq]
