/-- what the reference has gathered: all duties, or too many -/
def MDend (All : List Duty) (σ' : Mem) : Prop := (All.length ≤ 16 ∧ rd σ' 11 0 16 = nI All.length ∧ ∃ T, T ≤ 256 ∧ rd σ' 11 0 17 = nI T ∧ ∀ (i : Nat) (D : Duty), All[i]? = some D → MR σ' 24 25 26 27 28 T i D) ∨ (16 < All.length ∧ ∃ m, 16 < m ∧ m ≤ 18 ∧ rd σ' 11 0 16 = nI m)
def allD (t : Tbl) (p0 x q0 : Int32) : List Duty := (0, p0, [x], q0) :: dutL t 6 x [] q0
theorem MC.ag {t : Tbl} {nn : Nat} {σ0 σ : Mem} {T : Nat} {Ds : List Duty} {O : List OI} (h : MC t nn σ0 σ T Ds O) : rd σ 11 0 17 = nI T ∧ rd σ 11 0 16 = nI Ds.length := ⟨h.2.1, h.2.2.1⟩
def S_makeDuties : SpecT := fun av σ Φ => match av with
  | [Sum.inr (Sum.inr (Sum.inr q)), Sum.inl p0, Sum.inl x, Sum.inl q0] => thisM q 11 (MI σ ∧ isN (tM σ) (nM σ) 11 15 x ∧ ∀ σ', eqf [24, 25, 26, 27, 28, 29, 30] [16, 17] σ σ' → MDend (allD (tM σ) p0 x q0) σ' → Φ none σ')
  | _ => False
set_option maxRecDepth 100000 in
theorem c_makeDuties (l : Launch) : Con l yX5_makeDuties cX5_makeDuties 9 none 4 1 S_makeDuties := by
  refine Con.of (by decide) (by decide) ?_
  intro p e s s0 a0 m args below meth c D ad cA A av σ Φ hlen hS hr X
  match av, hS with
  | [Sum.inr (Sum.inr (Sum.inr q)), Sum.inl p0, Sum.inl x, Sum.inl q0], hS =>
    obtain ⟨rfl, hS⟩ := thisM_out hS
    obtain ⟨hM, hx, hS⟩ := hS
    obtain ⟨t, ht⟩ : ∃ t, t = tM σ := ⟨_, rfl⟩
    obtain ⟨nn, hnn⟩ : ∃ n, n = nM σ := ⟨_, rfl⟩
    have h60 : nn ≤ 60 := by rw [hnn]; exact hM.1.2
    have hwf : WF t nn := by rw [ht, hnn]; exact hM.2.1
    rw [← ht] at hx hS
    rw [← hnn] at hx
    obtain ⟨All, hAll⟩ : ∃ z, z = allD t p0 x q0 := ⟨_, rfl⟩
    rw [← hAll] at hS
    refine wp_meth (β := Nat × List Duty × List OI) (ps := [49]) (N := 200) (N0 := 100) (fun _ => 49) (fun b => [some (aR 11 0), none, none, none, none, some (aI (nI b.2.2.length)), none, none, none]) (fun b σ' => MC t nn σ σ' b.1 b.2.1 b.2.2 ∧ b.2.1.length ≤ 18 ∧ b.1 + 2 * wO t b.2.2 ≤ 256 ∧ All = b.2.1 ++ flatO t b.2.2) (fun b _ => wO t b.2.2) (tk_X5_makeDuties X hr (c_newTarget l) (by omega) (c_dutyM l) (by omega) (c_openM l) (by omega)) ?_ ?_
    · rintro ⟨T, Ds, O⟩ σ' ⟨hMC, h18, hT, hAl⟩
      dsimp only at hMC h18 hT hAl ⊢
      have hld : rd σ' 11 0 16 = nI Ds.length := hMC.2.2.1
      cases O with
      | nil =>
        refine And.intro (fun _ => ?_) (fun (h : ¬ nI 0 ≤ 0) => absurd (by decide) h)
        have hAl : All = Ds := by rw [hAl]; exact List.append_nil _
        refine hS σ' hMC.1 ?_
        by_cases h16 : Ds.length ≤ 16
        · exact Or.inl ⟨by rw [hAl]; exact h16, by rw [hAl]; exact hld, T, by omega, hMC.2.1, by rw [hAl]; exact hMC.2.2.2.1⟩
        · exact Or.inr ⟨by rw [hAl]; omega, Ds.length, by omega, h18, hld⟩
      | cons q O =>
        obtain ⟨x1, K, g, τ⟩ := q
        have hlen3 := wO_len hwf hMC.2.2.2.2
        simp only [List.length_cons] at hlen3
        refine And.intro (fun (h : nI (O.length + 1) ≤ 0) => absurd h (nI_nle (by omega) (by omega))) (fun _ => ?_)
        refine And.intro (fun (h : 16 < rd σ' 11 0 16) => ?_) (fun (h : ¬ 16 < rd σ' 11 0 16) => ?_)
        · rw [hld, show (16 : Int32) = nI 16 from rfl, nI_ltI (by decide) (by omega)] at h
          exact hS σ' hMC.1 (Or.inr ⟨by rw [hAl, List.length_append]; omega, Ds.length, h, h18, hld⟩)
        rw [hld, show (16 : Int32) = nI 16 from rfl, nI_ltI (by decide) (by omega)] at h
        have e1 : nI (O.length + 1) + (-1) = nI O.length := pk_m1 _
        have hcl : ix (nI (O.length + 1) + (-1)) = O.length := by rw [e1]; exact nI_clamp (by omega)
        have hvp : vp_in (nI (O.length + 1) + (-1)) 100 := by rw [e1]; exact vp_in_nI (by omega) (by decide)
        obtain ⟨oc, ot, oτ, oTG, ox, oR⟩ := hMC.2.2.2.2
        dsimp only at oc ot oτ oTG ox
        have hrc : rd σ' 29 0 (ix (nI (O.length + 1) + (-1))) = x1 := by rw [hcl]; exact oc
        have hrt : rd σ' 30 0 (ix (nI (O.length + 1) + (-1))) = nI τ := by rw [hcl]; exact ot
        have hv1 : vp_in (rd σ' 29 0 (ix (nI (O.length + 1) + (-1)))) 60 := by rw [hrc]; exact vp_mono ox.1 h60
        refine And.intro hvp (And.intro hvp (And.intro hv1 ?_))
        obtain ⟨hM1, ht1, hn1⟩ := MI_eqf hMC.1 (by decide) (by decide) hM
        rw [← ht] at ht1
        rw [← hnn] at hn1
        have hlt := vp_lt ox.1
        obtain ⟨-, -, -, -, -, -, -, -, h13, h14, h15⟩ := hwf.2 _ hlt
        have hh6 := (hwf.2 _ hlt).2.1.2
        have row : ∀ j, j < 5 → ∀ k, rd σ' (12 + j) 0 k = t j k := fun j hj k => by
          have := congrFun (congrFun ht1 j) k
          unfold tM at this
          rw [if_pos hj] at this
          exact this
        have rK : ∀ j, j < 5 → rd σ' (12 + j) 0 (ix (rd σ' 29 0 (ix (nI (O.length + 1) + (-1))))) = t j (ix x1) := fun j hj => by rw [hrc]; exact row j hj _
        have hMO : MC t nn σ σ' T Ds O := ⟨hMC.1, hMC.2.1, hMC.2.2.1, hMC.2.2.2.1, oR⟩
        have ew : wO t ((x1, K, g, τ) :: O) = (2 ^ (hN t (ix x1) + 1) - 1) + wO t O := rfl
        obtain ⟨p2a, p2b⟩ := pw2 (hN t (ix x1))
        have efl : flatO t ((x1, K, g, τ) :: O) = dutL t 6 x1 K g ++ flatO t O := rfl
        rw [ew] at hT
        rw [efl] at hAl
        have d6 : ∀ y K g, isN t nn 11 15 y → hN t (ix y) < hN t (ix x1) → dutL t 5 y K g = dutL t 6 y K g := fun y K g hy hl => dutL_eq hwf 5 6 y K g hy (by omega) (by omega)
        refine And.intro (fun (hne : ¬ rd σ' 12 0 (ix (rd σ' 29 0 (ix (nI (O.length + 1) + (-1))))) = 13) => ?_) (fun (e : rd σ' 12 0 (ix (rd σ' 29 0 (ix (nI (O.length + 1) + (-1))))) = 13) => ?_)
        rotate_left
        · -- then
          have e : t 0 (ix x1) = 13 := (rK 0 (by decide)).symm.trans e
          obtain ⟨ca, cb⟩ := h13 e
          have ha := ca.isN (n := nn) (by omega)
          have hb := cb.isN (n := nn) (by omega)
          have pa := pw ca.2.2.2
          have pb := pw cb.2.2.2
          refine And.intro hv1 (And.intro hvp ?_)
          refine And.intro hv1 (And.intro hv1 ?_)
          have m1 : MC t nn σ (opM σ' (nI (O.length + 1) + (-1)) (rd σ' 14 0 (ix (rd σ' 29 0 (ix (nI (O.length + 1) + (-1)))))) (rd σ' 30 0 (ix (nI (O.length + 1) + (-1))))) T Ds ((t 2 (ix x1), K, g, τ) :: O) := MD_op hMO e1 (rK 2 (by decide)) hrt (by omega) oτ oTG hb
          have hTb : T < 400 := by omega
          have m2 := MD_nt (c := rd σ' 14 0 (ix (rd σ' 29 0 (ix (nI (O.length + 1) + (-1)))))) (nx := rd σ' 30 0 (ix (nI (O.length + 1) + (-1)))) m1 hTb
          obtain ⟨n1, n2, n3, n4, n5, n6, n7⟩ := nt_ok (c := rd σ' 14 0 (ix (rd σ' 29 0 (ix (nI (O.length + 1) + (-1)))))) (nx := rd σ' 30 0 (ix (nI (O.length + 1) + (-1)))) m1.2.1 hTb
          refine And.intro n7 ?_
          have tg : TG (ntM (opM σ' (nI (O.length + 1) + (-1)) (rd σ' 14 0 (ix (rd σ' 29 0 (ix (nI (O.length + 1) + (-1)))))) (rd σ' 30 0 (ix (nI (O.length + 1) + (-1))))) (rd σ' 14 0 (ix (rd σ' 29 0 (ix (nI (O.length + 1) + (-1)))))) (rd σ' 30 0 (ix (nI (O.length + 1) + (-1))))) 27 28 (t 2 (ix x1) :: K) g T := ⟨n2.trans (rK 2 (by decide)), τ, oτ, n3.trans hrt, m2.2.2.2.2.2.2.2.1⟩
          have e2 : nI (O.length + 1) + (-1) + 1 = nI (O.length + 1) := by rw [e1, nI_1]
          refine And.intro (by show vp_in (nI (O.length + 1) + (-1) + 1) 100; rw [e2]; exact vp_in_nI (by omega) (by decide)) ?_
          refine ⟨(T + 1, Ds, (t 1 (ix x1), t 2 (ix x1) :: K, g, T) :: (t 2 (ix x1), K, g, τ) :: O), rfl, ⟨rfl, by show some (some (aI (nI (O.length + 1) + (-1) + 1 + 1))) = some (some (aI (nI (O.length + 1 + 1)))); rw [e2, nI_1], trivial⟩, rfl, ⟨MD_op m2 e2 (rK 1 (by decide)) n6 (by simp only [List.length_cons]; omega) (by omega) tg ha, h18, ?_, ?_⟩, ?_⟩
          · show T + 1 + 2 * ((2 ^ (hN t (ix (t 1 (ix x1))) + 1) - 1) + ((2 ^ (hN t (ix (t 2 (ix x1))) + 1) - 1) + wO t O)) ≤ 256
            omega
          · show All = Ds ++ (dutL t 6 (t 1 (ix x1)) (t 2 (ix x1) :: K) g ++ (dutL t 6 (t 2 (ix x1)) K g ++ flatO t O))
            rw [hAl, ← d6 _ _ _ ha ca.2.2.2, ← d6 _ _ _ hb cb.2.2.2, ← List.append_assoc (dutL t 5 _ _ _)]
            congr 2
            show (if t 0 (ix x1) = 13 then _ else _) = _
            rw [if_pos e]
          · show (2 ^ (hN t (ix (t 1 (ix x1))) + 1) - 1) + ((2 ^ (hN t (ix (t 2 (ix x1))) + 1) - 1) + wO t O) < (2 ^ (hN t (ix x1) + 1) - 1) + wO t O
            omega
        have hne13 : ¬ t 0 (ix x1) = 13 := fun z => hne ((rK 0 (by decide)).trans z)
        refine And.intro hv1 ?_
        refine And.intro (fun (hne : ¬ rd σ' 12 0 (ix (rd σ' 29 0 (ix (nI (O.length + 1) + (-1))))) = 14) => ?_) (fun (e : rd σ' 12 0 (ix (rd σ' 29 0 (ix (nI (O.length + 1) + (-1))))) = 14) => ?_)
        rotate_left
        · -- a choice
          have e : t 0 (ix x1) = 14 := (rK 0 (by decide)).symm.trans e
          obtain ⟨-, cb, cc3⟩ := h14 e
          have hb := cb.isN (n := nn) (by omega)
          have hc := cc3.isN (n := nn) (by omega)
          have pb := pw cb.2.2.2
          have pc := pw cc3.2.2.2
          refine And.intro hv1 (And.intro hvp ?_)
          have m1 : MC t nn σ (opM σ' (nI (O.length + 1) + (-1)) (rd σ' 15 0 (ix (rd σ' 29 0 (ix (nI (O.length + 1) + (-1)))))) (rd σ' 30 0 (ix (nI (O.length + 1) + (-1))))) T Ds ((t 3 (ix x1), K, g, τ) :: O) := MD_op hMO e1 (rK 3 (by decide)) hrt (by omega) oτ oTG hc
          have e2 : nI (O.length + 1) + (-1) + 1 = nI (O.length + 1) := by rw [e1, nI_1]
          refine And.intro hv1 (And.intro (by show vp_in (nI (O.length + 1) + (-1) + 1) 100; rw [e2]; exact vp_in_nI (by omega) (by decide)) ?_)
          refine ⟨(T, Ds, (t 2 (ix x1), K, g, τ) :: (t 3 (ix x1), K, g, τ) :: O), rfl, ⟨rfl, by show some (some (aI (nI (O.length + 1) + (-1) + 1 + 1))) = some (some (aI (nI (O.length + 1 + 1)))); rw [e2, nI_1], trivial⟩, rfl, ⟨MD_op m1 e2 (rK 2 (by decide)) hrt (by simp only [List.length_cons]; omega) oτ m1.2.2.2.2.2.2.2.1 hb, h18, ?_, ?_⟩, ?_⟩
          · show T + 2 * ((2 ^ (hN t (ix (t 2 (ix x1))) + 1) - 1) + ((2 ^ (hN t (ix (t 3 (ix x1))) + 1) - 1) + wO t O)) ≤ 256
            omega
          · show All = Ds ++ (dutL t 6 (t 2 (ix x1)) K g ++ (dutL t 6 (t 3 (ix x1)) K g ++ flatO t O))
            rw [hAl, ← d6 _ _ _ hc cc3.2.2.2, ← d6 _ _ _ hb cb.2.2.2, ← List.append_assoc (dutL t 5 _ _ _)]
            congr 2
            show (if t 0 (ix x1) = 13 then _ else (if t 0 (ix x1) = 14 then _ else _)) = _
            rw [if_neg hne13, if_pos e]
          · show (2 ^ (hN t (ix (t 2 (ix x1))) + 1) - 1) + ((2 ^ (hN t (ix (t 3 (ix x1))) + 1) - 1) + wO t O) < (2 ^ (hN t (ix x1) + 1) - 1) + wO t O
            omega
        have hne14 : ¬ t 0 (ix x1) = 14 := fun z => hne ((rK 0 (by decide)).trans z)
        refine And.intro hv1 ?_
        refine And.intro (fun (hne : ¬ rd σ' 12 0 (ix (rd σ' 29 0 (ix (nI (O.length + 1) + (-1))))) = 15) => ?_) (fun (e : rd σ' 12 0 (ix (rd σ' 29 0 (ix (nI (O.length + 1) + (-1))))) = 15) => ?_)
        · have hne15 : ¬ t 0 (ix x1) = 15 := fun z => hne ((rK 0 (by decide)).trans z)
          refine ⟨(T, Ds, O), rfl, ⟨rfl, by show some (some (aI (nI (O.length + 1) + (-1)))) = some (some (aI (nI O.length))); rw [e1], trivial⟩, rfl, ⟨hMO, h18, ?_, ?_⟩, ?_⟩
          · show T + 2 * wO t O ≤ 256
            omega
          · show All = Ds ++ flatO t O
            rw [hAl]
            congr 1
            have : dutL t 6 x1 K g = [] := by
              show (if t 0 (ix x1) = 13 then _ else (if t 0 (ix x1) = 14 then _ else (if t 0 (ix x1) = 15 then _ else _))) = _
              rw [if_neg hne13, if_neg hne14, if_neg hne15]
            rw [this, List.nil_append]
          · show wO t O < (2 ^ (hN t (ix x1) + 1) - 1) + wO t O
            omega
        have e : t 0 (ix x1) = 15 := (rK 0 (by decide)).symm.trans e
        obtain ⟨-, cb, cc3⟩ := h15 e
        have hc := cc3.isN (n := nn) (by omega)
        have pc := pw cc3.2.2.2
        refine And.intro hv1 ?_
        have hTb : T < 400 := by omega
        obtain ⟨n1, n2, n3, n4, n5, n6, n7⟩ := nt_ok (c := -1) (nx := rd σ' 14 0 (ix (rd σ' 29 0 (ix (nI (O.length + 1) + (-1)))))) hMC.2.1 hTb
        refine And.intro n7 ?_
        have m1 := MD_nt (c := -1) (nx := rd σ' 14 0 (ix (rd σ' 29 0 (ix (nI (O.length + 1) + (-1)))))) hMO hTb
        have n6' : rd σ' 11 0 17 + 1 - 1 = nI T := n6
        generalize hσ1 : ntM σ' (-1) (rd σ' 14 0 (ix (rd σ' 29 0 (ix (nI (O.length + 1) + (-1)))))) = σ1 at m1 n1 n2 n3 n4 n5
        sorry
    · sorry
