/-- duties that the reference has gathered -/
def FD (All : List Duty) (σ σ1 : Mem) (T : Nat) : Prop := eqf [24, 25, 26, 27, 28, 29, 30] [0, 16, 17] σ σ1 ∧ rd σ1 11 0 0 = 0 ∧ All.length ≤ 16 ∧ rd σ1 11 0 16 = nI All.length ∧ rd σ1 11 0 17 = nI T ∧ T ≤ 256 ∧ ∀ (i : Nat) (D : Duty), All[i]? = some D → MR σ1 24 25 26 27 28 T i D
def cp1 (σ1 σ' : Mem) (j : Nat) : Prop := ∀ i, i < j → rd σ' 21 0 i = rd σ1 24 0 i ∧ rd σ' 22 0 i = rd σ1 25 0 i ∧ rd σ' 23 0 i = rd σ1 26 0 i ∧ rd σ' 31 0 i = 0
def cp2 (σ1 σ' : Mem) (j : Nat) : Prop := ∀ i, i < j → rd σ' 19 0 i = rd σ1 27 0 i ∧ rd σ' 20 0 i = rd σ1 28 0 i
abbrev GP : List Nat := [19, 20, 21, 22, 23, 24, 25, 26, 27, 28, 29, 30, 31]
def PRm (All : List Duty) (σ : Mem) : Prop := rd σ 11 0 12 = nI All.length ∧ ∃ T, T ≤ 256 ∧ ∀ (i : Nat) (D : Duty), All[i]? = some D → MR σ 21 22 23 19 20 T i D
def prI (All : List Duty) (σ : Mem) (b : Bool × Nat × Nat × Mem) (σ' : Mem) : Prop := FD All σ b.2.2.2 b.2.2.1 ∧ eqf [19, 20, 21, 22, 23, 31] [9, 12] b.2.2.2 σ' ∧ rd σ' 11 0 12 = nI All.length ∧ rd σ' 11 0 9 = nI b.2.2.1 ∧ (match b.1 with
  | false => b.2.1 ≤ All.length ∧ cp1 b.2.2.2 σ' b.2.1
  | true => b.2.1 ≤ b.2.2.1 ∧ cp1 b.2.2.2 σ' All.length ∧ cp2 b.2.2.2 σ' b.2.1)
def S_promiseM : SpecT := fun av σ Φ => match av with
  | [Sum.inr (Sum.inr (Sum.inr q)), Sum.inl p0, Sum.inl x, Sum.inl q0] => thisM q 11 (MI σ ∧ (¬ (isN (tM σ) (nM σ) 5 10 p0 ∧ isN (tM σ) (nM σ) 11 15 x ∧ isN (tM σ) (nM σ) 5 10 q0) → Φ (some (aI 0)) (wr (wr σ 11 0 0 0) 11 0 0 1)) ∧ (isN (tM σ) (nM σ) 5 10 p0 ∧ isN (tM σ) (nM σ) 11 15 x ∧ isN (tM σ) (nM σ) 5 10 q0 → (16 < (allD (tM σ) p0 x q0).length → ∀ σ', rd σ' 11 0 0 = 2 → eqf [24, 25, 26, 27, 28, 29, 30] [0, 16, 17] σ σ' → Φ (some (aI 0)) σ') ∧ ((allD (tM σ) p0 x q0).length ≤ 16 → ∀ σ', rd σ' 11 0 0 = 0 → PRm (allD (tM σ) p0 x q0) σ' → (∀ i, i < (allD (tM σ) p0 x q0).length → rd σ' 31 0 i = 0) → eqf GP [0, 9, 12, 16, 17] σ σ' → Φ (some (aI (nI (allD (tM σ) p0 x q0).length))) σ')))
  | _ => False
set_option maxRecDepth 100000 in
theorem c_promiseM (l : Launch) : Con l yX5_promise cX5_promise 5 (some .int) 4 3 S_promiseM := by
  refine Con.of (by decide) (by decide) ?_
  intro p e s s0 a0 m args below meth c D ad cA A av σ Φ hlen hS hr X
  match av, hS with
  | [Sum.inr (Sum.inr (Sum.inr q)), Sum.inl p0, Sum.inl x, Sum.inl q0], hS =>
    obtain ⟨rfl, hS⟩ := thisM_out hS
    obtain ⟨hM, hS1, hS2⟩ := hS
    have he0 : eqf [24, 25, 26, 27, 28, 29, 30] [0, 16, 17] σ (wr σ 11 0 0 0) := (eqf.refl _ _ _).pf (by decide)
    obtain ⟨hM0, ht0, hn0⟩ := MI_eqf he0 (by decide) (by decide) hM
    obtain ⟨t, ht⟩ : ∃ t, t = tM σ := ⟨_, rfl⟩
    obtain ⟨nn, hnn⟩ : ∃ n, n = nM σ := ⟨_, rfl⟩
    rw [← ht] at hS1 hS2 ht0
    rw [← hnn] at hS1 hS2 hn0
    obtain ⟨All, hAll⟩ : ∃ z, z = allD t p0 x q0 := ⟨_, rfl⟩
    rw [← hAll] at hS2
    by_cases hall : isN t nn 5 10 p0 ∧ isN t nn 11 15 x ∧ isN t nn 5 10 q0
    rotate_left
    · refine wp_sound (ps := []) (C := fun _ _ _ _ => False) (tk_X5_promise X hr (c_isCondition l) (by omega) (c_isCommand l) (by omega) (c_refuse l) (by omega) (c_makeDuties l) (by omega)) (fun _ _ _ _ h => h.elim) 400 _ _ _ _ ?_
      have hr1 := hS1 hall
      refine And.intro hM0.1 ?_
      refine And.intro (fun _ => hr1) (fun (h1 : ¬ b01 (isN (tM (wr σ 11 0 0 0)) (nM (wr σ 11 0 0 0)) 5 10 p0) = 0) => ?_)
      refine And.intro hM0.1 ?_
      refine And.intro (fun _ => hr1) (fun (h2 : ¬ b01 (isN (tM (wr σ 11 0 0 0)) (nM (wr σ 11 0 0 0)) 11 15 x) = 0) => ?_)
      refine And.intro hM0.1 ?_
      refine And.intro (fun (h3 : ¬ b01 (isN (tM (wr σ 11 0 0 0)) (nM (wr σ 11 0 0 0)) 5 10 q0) = 0) => ?_) (fun _ => hr1)
      have h1 := b01_n h1
      have h2 := b01_n h2
      have h3 := b01_n h3
      rw [ht0, hn0] at h1 h2 h3
      exact absurd ⟨h1, h2, h3⟩ hall
    refine wp_meth (β := Bool × Nat × Nat × Mem) (ps := [76, 144]) (N := 100) (N0 := 100) (fun b => if b.1 then 144 else 76) (fun b => [some (aR 11 0), none, none, none, some (aI (nI b.2.1))]) (prI All σ) (fun b _ => if b.1 then 500 - b.2.1 else 1000 - b.2.1) (tk_X5_promise X hr (c_isCondition l) (by omega) (c_isCommand l) (by omega) (c_refuse l) (by omega) (c_makeDuties l) (by omega)) ?_ ?_
    · rintro ⟨b, j, T, σ1⟩ σ' ⟨hF, he, h12, h9, hj⟩
      dsimp only at hF he h12 h9 hj ⊢
      obtain ⟨f1, f2, f3, f4, f5, f6, f7⟩ := hF
      cases b with
      | false =>
        obtain ⟨hj, hc⟩ := hj
        have hcj : ix (nI j) = j := nI_clamp (by omega)
        refine And.intro (fun (h : rd σ' 11 0 12 ≤ nI j) => ?_) (fun (h : ¬ rd σ' 11 0 12 ≤ nI j) => ?_)
        · rw [h12, nI_leI (by omega) (by omega)] at h
          have : j = All.length := by omega
          subst this
          exact ⟨(true, 0, T, σ1), rfl, ⟨rfl, rfl, trivial⟩, rfl, ⟨⟨f1, f2, f3, f4, f5, f6, f7⟩, he, h12, h9, Nat.zero_le _, hc, fun i hi => absurd hi (Nat.not_lt_zero _)⟩, by show 500 - 0 < 1000 - All.length; omega⟩
        · rw [h12, nI_leI (by omega) (by omega)] at h
          have v20 : vp_in (nI j) 20 := vp_in_nI (by omega) (by decide)
          have v16 : vp_in (nI j) 16 := vp_in_nI (by omega) (by decide)
          refine And.intro v20 (And.intro v20 (And.intro v20 (And.intro v20 (And.intro v20 (And.intro v20 (And.intro v16 (And.intro (Or.inl rfl) ?_)))))))
          refine ⟨(false, j + 1, T, σ1), rfl, ⟨rfl, by show some (some (aI (nI j + 1))) = some (some (aI (nI (j + 1)))); rw [nI_1], trivial⟩, rfl, ⟨⟨f1, f2, f3, f4, f5, f6, f7⟩, (((he.pg (by decide)).pg (by decide)).pg (by decide)).pg (by decide), h12, h9, by show j + 1 ≤ All.length; omega, fun i (hi : i < j + 1) => ?_⟩, by show 1000 - (j + 1) < 1000 - j; omega⟩
          dsimp only
          have u24 : rd σ' 24 0 (ix (nI j)) = rd σ1 24 0 j := by rw [hcj]; exact he.1 24 0 j (by decide) (fun z => absurd z (by decide))
          have u25 : rd σ' 25 0 (ix (nI j)) = rd σ1 25 0 j := by rw [hcj]; exact he.1 25 0 j (by decide) (fun z => absurd z (by decide))
          have u26 : rd σ' 26 0 (ix (nI j)) = rd σ1 26 0 j := by rw [hcj]; exact he.1 26 0 j (by decide) (fun z => absurd z (by decide))
          show rd (wr (wr (wr (wr σ' 21 0 (ix (nI j)) (rd σ' 24 0 (ix (nI j)))) 22 0 (ix (nI j)) (rd σ' 25 0 (ix (nI j)))) 23 0 (ix (nI j)) (rd σ' 26 0 (ix (nI j)))) 31 0 (ix (nI j)) 0) 21 0 i = _ ∧ rd (wr (wr (wr (wr σ' 21 0 (ix (nI j)) (rd σ' 24 0 (ix (nI j)))) 22 0 (ix (nI j)) (rd σ' 25 0 (ix (nI j)))) 23 0 (ix (nI j)) (rd σ' 26 0 (ix (nI j)))) 31 0 (ix (nI j)) 0) 22 0 i = _ ∧ rd (wr (wr (wr (wr σ' 21 0 (ix (nI j)) (rd σ' 24 0 (ix (nI j)))) 22 0 (ix (nI j)) (rd σ' 25 0 (ix (nI j)))) 23 0 (ix (nI j)) (rd σ' 26 0 (ix (nI j)))) 31 0 (ix (nI j)) 0) 23 0 i = _ ∧ rd (wr (wr (wr (wr σ' 21 0 (ix (nI j)) (rd σ' 24 0 (ix (nI j)))) 22 0 (ix (nI j)) (rd σ' 25 0 (ix (nI j)))) 23 0 (ix (nI j)) (rd σ' 26 0 (ix (nI j)))) 31 0 (ix (nI j)) 0) 31 0 i = _
          rw [u24, u25, u26, hcj]
          by_cases hij : i = j
          · subst hij
            refine ⟨?_, ?_, ?_, ?_⟩ <;> simp [rd_wr]
          · obtain ⟨c1, c2, c3, c4⟩ := hc i (by omega)
            refine ⟨?_, ?_, ?_, ?_⟩ <;> simp [rd_wr, hij] <;> assumption
      | true =>
        obtain ⟨hj, hc, hd⟩ := hj
        have hcj : ix (nI j) = j := nI_clamp (by omega)
        refine And.intro (fun (h : rd σ' 11 0 9 ≤ nI j) => ?_) (fun (h : ¬ rd σ' 11 0 9 ≤ nI j) => ?_)
        · rw [h9, nI_leI (by omega) (by omega)] at h
          have : j = T := by omega
          subst this
          have heq : eqf GP [0, 9, 12, 16, 17] σ σ' := (f1.mono (by decide) (by decide)).trans (he.mono (by decide) (by decide))
          have hfin := (hS2 hall).2 f3 σ' ((he.1 11 0 0 (by decide) (by decide)).trans f2) ⟨h12, j, f6, fun i D hi => ?_⟩ (fun i hi => (hc i hi).2.2.2) heq
          · rw [← h12] at hfin
            exact hfin
          · obtain ⟨b1, b2, τ, b3, b4, b5⟩ := f7 i D hi
            have hi' := (List.getElem?_eq_some_iff.mp hi).1
            obtain ⟨c1, c2, c3, -⟩ := hc i hi'
            exact ⟨c1.trans b1, c2.trans b2, τ, b3, c3.trans b4, TG_eq hd b3 b5⟩
        · rw [h9, nI_leI (by omega) (by omega)] at h
          have v4 : vp_in (nI j) 400 := vp_in_nI (by omega) (by decide)
          refine And.intro v4 (And.intro v4 (And.intro v4 (And.intro v4 ?_)))
          refine ⟨(true, j + 1, T, σ1), rfl, ⟨rfl, by show some (some (aI (nI j + 1))) = some (some (aI (nI (j + 1)))); rw [nI_1], trivial⟩, rfl, ⟨⟨f1, f2, f3, f4, f5, f6, f7⟩, (he.pg (by decide)).pg (by decide), h12, h9, by show j + 1 ≤ T; omega, fun i hi => ?_, fun i (hi : i < j + 1) => ?_⟩, by show 500 - (j + 1) < 500 - j; omega⟩
          · obtain ⟨c1, c2, c3, c4⟩ := hc i hi
            exact ⟨c1, c2, c3, c4⟩
          · dsimp only
            have u27 : rd σ' 27 0 (ix (nI j)) = rd σ1 27 0 j := by rw [hcj]; exact he.1 27 0 j (by decide) (fun z => absurd z (by decide))
            have u28 : rd σ' 28 0 (ix (nI j)) = rd σ1 28 0 j := by rw [hcj]; exact he.1 28 0 j (by decide) (fun z => absurd z (by decide))
            show rd (wr (wr σ' 19 0 (ix (nI j)) (rd σ' 27 0 (ix (nI j)))) 20 0 (ix (nI j)) (rd σ' 28 0 (ix (nI j)))) 19 0 i = _ ∧ rd (wr (wr σ' 19 0 (ix (nI j)) (rd σ' 27 0 (ix (nI j)))) 20 0 (ix (nI j)) (rd σ' 28 0 (ix (nI j)))) 20 0 i = _
            rw [u27, u28, hcj]
            by_cases hij : i = j
            · subst hij
              refine ⟨?_, ?_⟩ <;> simp [rd_wr]
            · obtain ⟨c1, c2⟩ := hd i (by omega)
              refine ⟨?_, ?_⟩ <;> simp [rd_wr, hij] <;> assumption
    · have g1 : isN (tM (wr σ 11 0 0 0)) (nM (wr σ 11 0 0 0)) 5 10 p0 := by rw [ht0, hn0]; exact hall.1
      have g2 : isN (tM (wr σ 11 0 0 0)) (nM (wr σ 11 0 0 0)) 11 15 x := by rw [ht0, hn0]; exact hall.2.1
      have g3 : isN (tM (wr σ 11 0 0 0)) (nM (wr σ 11 0 0 0)) 5 10 q0 := by rw [ht0, hn0]; exact hall.2.2
      refine And.intro hM0.1 ?_
      refine And.intro (fun (h : b01 (isN (tM (wr σ 11 0 0 0)) (nM (wr σ 11 0 0 0)) 5 10 p0) = 0) => absurd g1 (b01_0 h)) (fun _ => ?_)
      refine And.intro hM0.1 ?_
      refine And.intro (fun (h : b01 (isN (tM (wr σ 11 0 0 0)) (nM (wr σ 11 0 0 0)) 11 15 x) = 0) => absurd g2 (b01_0 h)) (fun _ => ?_)
      refine And.intro hM0.1 ?_
      refine And.intro (fun _ => ?_) (fun (h : b01 (isN (tM (wr σ 11 0 0 0)) (nM (wr σ 11 0 0 0)) 5 10 q0) = 0) => absurd g3 (b01_0 h))
      refine And.intro hM0 (And.intro g2 (fun σ1 he1' hD => ?_))
      rw [ht0, ← hAll] at hD
      have he1 : eqf [24, 25, 26, 27, 28, 29, 30] [0, 16, 17] σ σ1 := he0.trans (he1'.mono (fun _ h => h) (by decide))
      have hz : rd σ1 11 0 0 = 0 := he1'.1 11 0 0 (by decide) (by decide)
      rcases hD with ⟨d1, d2, T, d3, d4, d5⟩ | ⟨d1, m9, d2, d3, d4⟩
      · refine And.intro (fun _ => ?_) (fun (h : ¬ rd σ1 11 0 16 ≤ 16) => absurd (by rw [d2, show (16 : Int32) = nI 16 from rfl, nI_leI (by omega) (by decide)]; exact d1) h)
        exact ⟨(false, 0, T, σ1), rfl, ⟨rfl, rfl, trivial⟩, rfl, ⟨⟨he1, hz, d1, d2, d4, d3, d5⟩, ((eqf.refl _ _ _).pf (by decide)).pf (by decide), d2, d4, Nat.zero_le _, fun i hi => absurd hi (Nat.not_lt_zero _)⟩, trivial⟩
      · refine And.intro (fun (h : rd σ1 11 0 16 ≤ 16) => absurd h (by rw [d4, show (16 : Int32) = nI 16 from rfl, nI_leI (by omega) (by decide)]; omega)) (fun _ => ?_)
        exact (hS2 hall).1 d1 _ rfl (he1.pf (by decide))
