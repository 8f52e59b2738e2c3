def S_keeps : SpecT := fun av σ Φ => match av with
  | [Sum.inr (Sum.inr (Sum.inr q)), Sum.inl i0, Sum.inl s] => thisM q 11 (MI σ ∧ rng s ∧ ∃ i D T, i0 = nI i ∧ i < 16 ∧ T ≤ 256 ∧ MR σ 21 22 23 19 20 T i D ∧ vD (tM σ) (nM σ) D ∧ ∀ σ', eqx [18, 33] σ σ' → Φ (some (aI (kpV (tM σ) D s))) σ')
  | _ => False
set_option maxRecDepth 100000 in
theorem c_keeps (l : Launch) : Con l yX5_keeps cX5_keeps 5 (some .boolean) 3 6 S_keeps := by
  refine Con.of (by decide) (by decide) ?_
  intro p e s s0 a0 m args below meth c D ad cA A av σ Φ hlen hS hr X
  match av, hS with
  | [Sum.inr (Sum.inr (Sum.inr q)), Sum.inl i0, Sum.inl s], hS =>
    obtain ⟨rfl, hS⟩ := thisM_out hS
    obtain ⟨hM, hs, i, D, T, rfl, hi, hT, ⟨hr1, hr2, τ, hτ, hr3, hTG⟩, hvD, hS⟩ := hS
    have hcl : ix (nI i) = i := nI_clamp (by omega)
    have v20 : vp_in (nI i) 20 := vp_in_nI (by omega) (by decide)
    have h60 : nM σ ≤ 60 := hM.1.2
    have fin : ∀ σ9, eqx [18, 33] σ σ9 → ∀ v, kpV (tM σ) D s = v → Φ (some (aI v)) σ9 := fun σ9 h v hv => by
      have := hS σ9 h
      rw [hv] at this
      exact this
    have r1 : rd σ 21 0 (ix (nI i)) = D.1 := by rw [hcl]; exact hr1
    have r2 : rd σ 22 0 (ix (nI i)) = D.2.1 := by rw [hcl]; exact hr2
    refine wp_meth (β := Unit) (ps := [80]) (N := 100) (N0 := 200) (fun _ => 80) (fun _ => [some (aR 11 0), some (aI (nI i)), some (aI s), none, none]) (fun _ σ' => eqx [18, 33] σ σ' ∧ kpV (tM σ) D s = ghF (tM σ) D.2.2.1 D.2.2.2 s) (fun _ _ => 0) (tk_X5_keeps X hr (c_isTrue l) (by omega) (c_reaches l) (by omega)) ?_ ?_
    · rintro - σ1 ⟨he1, ek⟩
      have rtσ1 : rd σ1 23 0 (ix (nI i)) = nI τ := by rw [hcl]; exact (he1.1 23 0 i (by decide)).trans hr3
      refine And.intro v20 ?_
      have hTGσ1 := TG_eq (T := T) (fun k _ => ⟨he1.1 19 0 k (by decide), he1.1 20 0 k (by decide)⟩) hτ hTG
      obtain ⟨hMσ1, htσ1, hnσ1⟩ := MI_eqx he1 (by decide) hM
      refine And.intro hMσ1 (And.intro hs ⟨D.2.2.1, D.2.2.2, τ, T, rtσ1, hτ, hT, hTGσ1, by rw [htσ1, hnσ1]; exact hvD.2.1, by rw [htσ1, hnσ1]; exact hvD.2.2.1, fun σ9 he9 => ?_⟩)
      have hfr : eqx [18, 33] σ σ9 := he1.trans he9
      have g01 := ghF_01 hM.2.1 hvD.2.2.1 D.2.2.1 s
      have ek9 : kpV (tM σ) D s = ghF (tM σ1) D.2.2.1 D.2.2.2 s := by rw [htσ1]; exact ek
      rw [← htσ1] at g01
      generalize ghF (tM σ1) D.2.2.1 D.2.2.2 s = gv at ek9 g01 ⊢
      refine And.intro (fun (h9 : gv = 0) => ?_) (fun (h9 : ¬ gv = 0) => ?_)
      · exact And.intro (Or.inl rfl) (fin σ9 hfr 0 (ek9.trans h9))
      · exact And.intro (Or.inr rfl) (fin σ9 hfr 1 (ek9.trans (g01.resolve_left h9)))
    refine And.intro v20 (And.intro v20 ?_)
    refine And.intro (fun (h : ¬ rd σ 21 0 (ix (nI i)) = 0) => ?_) (fun (h : rd σ 21 0 (ix (nI i)) = 0) => ?_)
    rotate_left
    · rw [r1] at h
      have hp : isN (tM σ) (nM σ) 5 10 D.2.1 := by
        rcases hvD.1 with z | z
        · exact z.2
        · rcases z.1 with y | y <;> (rw [h] at y; exact absurd y (by decide))
      have ek0 : kpV (tM σ) D s = if EV (tM σ) s (ix D.2.1) = 0 then 1 else ghF (tM σ) D.2.2.1 D.2.2.2 s := by unfold kpV; rw [if_pos h]
      refine And.intro hM (And.intro (by show isN (tM σ) (nM σ) 5 10 (rd σ 22 0 (ix (nI i))); rw [r2]; exact hp) (fun σ1 he1 => ?_))
      refine And.intro (fun (h1 : EV (tM σ) s (ix (rd σ 22 0 (ix (nI i)))) = 0) => ?_) (fun (h1 : ¬ EV (tM σ) s (ix (rd σ 22 0 (ix (nI i)))) = 0) => ?_)
      · rw [r2] at h1
        rw [if_pos h1] at ek0
        exact And.intro (Or.inr rfl) (fin σ1 (he1.mono (by decide)) 1 ek0)
      · rw [r2] at h1
        rw [if_neg h1] at ek0
        have ek := ek0
        have he1 : eqx [18, 33] σ σ1 := he1.mono (by decide)
        exact ⟨(), rfl, ⟨rfl, rfl, rfl, trivial⟩, rfl, ⟨he1, ek⟩, trivial⟩
    · rw [r1] at h
      have hp : isN (tM σ) (nM σ) 15 15 D.2.1 := by
        rcases hvD.1 with z | z
        · exact absurd z.1 h
        · exact z.2
      have hlt := vp_lt hp.1
      have e15 : tM σ 0 (ix D.2.1) = 15 := Int32.le_antisymm hp.2.2 hp.2.1
      obtain ⟨ca, cb, -⟩ := (hM.2.1.2 _ hlt).2.2.2.2.2.2.2.2.2.2 e15
      have hb := cb.isN (n := nM σ) (by omega)
      have ha := ca.isN (n := nM σ) (by omega)
      have hv60 : vp_in (rd σ 22 0 (ix (nI i))) 60 := by rw [r2]; exact vp_mono hp.1 h60
      have rb : rd σ 14 0 (ix (rd σ 22 0 (ix (nI i)))) = tM σ 2 (ix D.2.1) := by rw [r2]; rfl
      have ek0 : kpV (tM σ) D s = if EV (tM σ) s (ix (tM σ 2 (ix D.2.1))) = 0 then 1 else if EV (tM σ) s (ix (tM σ 1 (ix D.2.1))) = (if D.1 = 1 then 1 else 0) then ghF (tM σ) D.2.2.1 D.2.2.2 s else 1 := by unfold kpV; rw [if_neg h]
      refine And.intro hv60 (And.intro hM (And.intro (by show isN (tM σ) (nM σ) 5 10 (rd σ 14 0 (ix (rd σ 22 0 (ix (nI i))))); rw [rb]; exact hb) (fun σ1 he1 => ?_)))
      have he1 : eqx [18, 33] σ σ1 := he1.mono (by decide)
      refine And.intro (fun (h1 : EV (tM σ) s (ix (rd σ 14 0 (ix (rd σ 22 0 (ix (nI i)))))) = 0) => ?_) (fun (h1 : ¬ EV (tM σ) s (ix (rd σ 14 0 (ix (rd σ 22 0 (ix (nI i)))))) = 0) => ?_)
      · rw [rb] at h1
        rw [if_pos h1] at ek0
        refine And.intro (fun _ => ?_) (fun (h9 : ¬ (0 : Int32) = 0) => absurd rfl h9)
        exact And.intro (Or.inr rfl) (fin σ1 he1 1 ek0)
      rw [rb] at h1
      rw [if_neg h1] at ek0
      obtain ⟨hM1, ht1, hn1⟩ := MI_eqx he1 (by decide) hM
      have ra : rd σ1 13 0 (ix (rd σ 22 0 (ix (nI i)))) = tM σ 1 (ix D.2.1) := by rw [r2, ← ht1]; rfl
      refine And.intro hv60 (And.intro hM1 (And.intro (by rw [ht1, hn1]; show isN (tM σ) (nM σ) 5 10 (rd σ1 13 0 (ix (rd σ 22 0 (ix (nI i))))); rw [ra]; exact ha) (fun σ2 he2 => ?_)))
      have he2 : eqx [18, 33] σ σ2 := he1.trans (he2.mono (by decide))
      have ea : EV (tM σ1) s (ix (rd σ1 13 0 (ix (rd σ 22 0 (ix (nI i)))))) = EV (tM σ) s (ix (tM σ 1 (ix D.2.1))) := by rw [ht1, ra]
      have r12 : rd σ2 21 0 (ix (nI i)) = D.1 := by rw [hcl]; exact (he2.1 21 0 i (by decide)).trans hr1
      have a01 := EV01 hM.2.1 s ha
      refine And.intro v20 ?_
      refine And.intro (fun (h2 : ¬ rd σ2 21 0 (ix (nI i)) = 1) => ?_) (fun (h2 : rd σ2 21 0 (ix (nI i)) = 1) => ?_)
      · rw [r12] at h2
        rw [if_neg h2] at ek0
        refine And.intro (fun (h3 : ¬ EV (tM σ1) s (ix (rd σ1 13 0 (ix (rd σ 22 0 (ix (nI i)))))) = 0) => ?_) (fun (h3 : EV (tM σ1) s (ix (rd σ1 13 0 (ix (rd σ 22 0 (ix (nI i)))))) = 0) => ?_)
        · rw [ea] at h3
          rw [if_neg h3] at ek0
          refine And.intro (fun _ => ?_) (fun (h9 : ¬ (0 : Int32) = 0) => absurd rfl h9)
          exact And.intro (Or.inr rfl) (fin σ2 he2 1 ek0)
        · rw [ea] at h3
          rw [if_pos h3] at ek0
          have ek := ek0
          refine And.intro (fun (h9 : (1 : Int32) = 0) => absurd h9 (by decide)) (fun _ => ?_)
          exact ⟨(), rfl, ⟨rfl, rfl, rfl, trivial⟩, rfl, ⟨he2, ek⟩, trivial⟩
      · rw [r12] at h2
        rw [if_pos h2] at ek0
        refine And.intro (fun (h3 : ¬ EV (tM σ1) s (ix (rd σ1 13 0 (ix (rd σ 22 0 (ix (nI i)))))) = 1) => ?_) (fun (h3 : EV (tM σ1) s (ix (rd σ1 13 0 (ix (rd σ 22 0 (ix (nI i)))))) = 1) => ?_)
        · rw [ea] at h3
          rw [if_neg h3] at ek0
          refine And.intro (fun _ => ?_) (fun (h9 : ¬ (0 : Int32) = 0) => absurd rfl h9)
          exact And.intro (Or.inr rfl) (fin σ2 he2 1 ek0)
        · rw [ea] at h3
          rw [if_pos h3] at ek0
          have ek := ek0
          refine And.intro (fun (h9 : (1 : Int32) = 0) => absurd h9 (by decide)) (fun _ => ?_)
          exact ⟨(), rfl, ⟨rfl, rfl, rfl, trivial⟩, rfl, ⟨he2, ek⟩, trivial⟩
