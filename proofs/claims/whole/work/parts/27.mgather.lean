/-- what the reference has gathered: all duties, or too many -/
def MDend (All : List Duty) (σ' : Mem) : Prop := (All.length ≤ 16 ∧ rd σ' 11 0 16 = nI All.length ∧ ∃ T, T ≤ 256 ∧ rd σ' 11 0 17 = nI T ∧ ∀ (i : Nat) (D : Duty), All[i]? = some D → MR σ' 24 25 26 27 28 T i D) ∨ (16 < All.length ∧ ∃ m, 16 < m ∧ m ≤ 18 ∧ rd σ' 11 0 16 = nI m)
def allD (t : Tbl) (p0 x q0 : Int32) : List Duty := (0, p0, [x], q0) :: dutL t 6 x [] q0
theorem MC.ag {t : Tbl} {nn : Nat} {σ0 σ : Mem} {T : Nat} {Ds : List Duty} {O : List OI} (h : MC t nn σ0 σ T Ds O) : rd σ 11 0 17 = nI T ∧ rd σ 11 0 16 = nI Ds.length := ⟨h.2.1, h.2.2.1⟩
def S_makeDuties : SpecT := fun av σ Φ => match av with
  | [Sum.inr (Sum.inr (Sum.inr q)), Sum.inl p0, Sum.inl x, Sum.inl q0] => thisM q 11 (MI σ ∧ isN (tM σ) (nM σ) 11 15 x ∧ ∀ σ', eqf [24, 25, 26, 27, 28, 29, 30] [16, 17] σ σ' → MDend (allD (tM σ) p0 x q0) σ' → Φ none σ')
  | _ => False
set_option maxRecDepth 100000 in
theorem c_makeDuties (l : Launch) : Con l yX5_makeDuties cX5_makeDuties 9 none 4 1 S_makeDuties := by
  refine Con.of (by decide) (by decide) ?_
  intro p e s s0 a0 m args below meth c D ad cA A av σ Φ hlen hS hr X
  match av, hS with
  | [Sum.inr (Sum.inr (Sum.inr q)), Sum.inl p0, Sum.inl x, Sum.inl q0], hS =>
    obtain ⟨rfl, hS⟩ := thisM_out hS
    obtain ⟨hM, hx, hS⟩ := hS
    obtain ⟨t, ht⟩ : ∃ t, t = tM σ := ⟨_, rfl⟩
    obtain ⟨nn, hnn⟩ : ∃ n, n = nM σ := ⟨_, rfl⟩
    have h60 : nn ≤ 60 := by rw [hnn]; exact hM.1.2
    have hwf : WF t nn := by rw [ht, hnn]; exact hM.2.1
    rw [← ht] at hx hS
    rw [← hnn] at hx
    obtain ⟨All, hAll⟩ : ∃ z, z = allD t p0 x q0 := ⟨_, rfl⟩
    rw [← hAll] at hS
    refine wp_meth (β := Nat × List Duty × List OI) (ps := [49]) (N := 200) (N0 := 100) (fun _ => 49) (fun b => [some (aR 11 0), none, none, none, none, some (aI (nI b.2.2.length)), none, none, none]) (fun b σ' => MC t nn σ σ' b.1 b.2.1 b.2.2 ∧ b.2.1.length ≤ 18 ∧ b.1 + 2 * wO t b.2.2 ≤ 256 ∧ All = b.2.1 ++ flatO t b.2.2) (fun b _ => wO t b.2.2) (tk_X5_makeDuties X hr (c_newTarget l) (by omega) (c_dutyM l) (by omega) (c_openM l) (by omega)) ?_ ?_
    · rintro ⟨T, Ds, O⟩ σ' ⟨hMC, h18, hT, hAl⟩
      dsimp only at hMC h18 hT hAl ⊢
      have hld : rd σ' 11 0 16 = nI Ds.length := hMC.2.2.1
      cases O with
      | nil =>
        refine And.intro (fun _ => ?_) (fun (h : ¬ nI 0 ≤ 0) => absurd (by decide) h)
        have hAl : All = Ds := by rw [hAl]; exact List.append_nil _
        refine hS σ' hMC.1 ?_
        by_cases h16 : Ds.length ≤ 16
        · exact Or.inl ⟨by rw [hAl]; exact h16, by rw [hAl]; exact hld, T, by omega, hMC.2.1, by rw [hAl]; exact hMC.2.2.2.1⟩
        · exact Or.inr ⟨by rw [hAl]; omega, Ds.length, by omega, h18, hld⟩
      | cons q O =>
        obtain ⟨x1, K, g, τ⟩ := q
        have hlen3 := wO_len hwf hMC.2.2.2.2
        simp only [List.length_cons] at hlen3
        refine And.intro (fun (h : nI (O.length + 1) ≤ 0) => absurd h (nI_nle (by omega) (by omega))) (fun _ => ?_)
        refine And.intro (fun (h : 16 < rd σ' 11 0 16) => ?_) (fun (h : ¬ 16 < rd σ' 11 0 16) => ?_)
        · rw [hld, show (16 : Int32) = nI 16 from rfl, nI_ltI (by decide) (by omega)] at h
          exact hS σ' hMC.1 (Or.inr ⟨by rw [hAl, List.length_append]; omega, Ds.length, h, h18, hld⟩)
        rw [hld, show (16 : Int32) = nI 16 from rfl, nI_ltI (by decide) (by omega)] at h
        have e1 : nI (O.length + 1) + (-1) = nI O.length := pk_m1 _
        have hcl : ix (nI (O.length + 1) + (-1)) = O.length := by rw [e1]; exact nI_clamp (by omega)
        have hvp : vp_in (nI (O.length + 1) + (-1)) 100 := by rw [e1]; exact vp_in_nI (by omega) (by decide)
        obtain ⟨oc, ot, oτ, oTG, ox, oR⟩ := hMC.2.2.2.2
        dsimp only at oc ot oτ oTG ox
        have hrc : rd σ' 29 0 (ix (nI (O.length + 1) + (-1))) = x1 := by rw [hcl]; exact oc
        have hrt : rd σ' 30 0 (ix (nI (O.length + 1) + (-1))) = nI τ := by rw [hcl]; exact ot
        have hv1 : vp_in (rd σ' 29 0 (ix (nI (O.length + 1) + (-1)))) 60 := by rw [hrc]; exact vp_mono ox.1 h60
        refine And.intro hvp (And.intro hvp (And.intro hv1 ?_))
        obtain ⟨hM1, ht1, hn1⟩ := MI_eqf hMC.1 (by decide) (by decide) hM
        rw [← ht] at ht1
        rw [← hnn] at hn1
        have hlt := vp_lt ox.1
        obtain ⟨-, -, -, -, -, -, -, -, h13, h14, h15⟩ := hwf.2 _ hlt
        have hh6 := (hwf.2 _ hlt).2.1.2
        have row : ∀ j, j < 5 → ∀ k, rd σ' (12 + j) 0 k = t j k := fun j hj k => by
          have := congrFun (congrFun ht1 j) k
          unfold tM at this
          rw [if_pos hj] at this
          exact this
        have rK : ∀ j, j < 5 → rd σ' (12 + j) 0 (ix (rd σ' 29 0 (ix (nI (O.length + 1) + (-1))))) = t j (ix x1) := fun j hj => by rw [hrc]; exact row j hj _
        have hMO : MC t nn σ σ' T Ds O := ⟨hMC.1, hMC.2.1, hMC.2.2.1, hMC.2.2.2.1, oR⟩
        have ew : wO t ((x1, K, g, τ) :: O) = (2 ^ (hN t (ix x1) + 1) - 1) + wO t O := rfl
        obtain ⟨p2a, p2b⟩ := pw2 (hN t (ix x1))
        have efl : flatO t ((x1, K, g, τ) :: O) = dutL t 6 x1 K g ++ flatO t O := rfl
        rw [ew] at hT
        rw [efl] at hAl
        have d6 : ∀ y K g, isN t nn 11 15 y → hN t (ix y) < hN t (ix x1) → dutL t 5 y K g = dutL t 6 y K g := fun y K g hy hl => dutL_eq hwf 5 6 y K g hy (by omega) (by omega)
        refine And.intro (fun (hne : ¬ rd σ' 12 0 (ix (rd σ' 29 0 (ix (nI (O.length + 1) + (-1))))) = 13) => ?_) (fun (e : rd σ' 12 0 (ix (rd σ' 29 0 (ix (nI (O.length + 1) + (-1))))) = 13) => ?_)
        rotate_left
        · -- then
          have e : t 0 (ix x1) = 13 := (rK 0 (by decide)).symm.trans e
          obtain ⟨ca, cb⟩ := h13 e
          have ha := ca.isN (n := nn) (by omega)
          have hb := cb.isN (n := nn) (by omega)
          have pa := pw ca.2.2.2
          have pb := pw cb.2.2.2
          refine And.intro hv1 (And.intro hvp ?_)
          refine And.intro hv1 (And.intro hv1 ?_)
          have m1 : MC t nn σ (opM σ' (nI (O.length + 1) + (-1)) (rd σ' 14 0 (ix (rd σ' 29 0 (ix (nI (O.length + 1) + (-1)))))) (rd σ' 30 0 (ix (nI (O.length + 1) + (-1))))) T Ds ((t 2 (ix x1), K, g, τ) :: O) := MD_op hMO e1 (rK 2 (by decide)) hrt (by omega) oτ oTG hb
          have hTb : T < 400 := by omega
          have m2 := MD_nt (c := rd σ' 14 0 (ix (rd σ' 29 0 (ix (nI (O.length + 1) + (-1)))))) (nx := rd σ' 30 0 (ix (nI (O.length + 1) + (-1)))) m1 hTb
          obtain ⟨n1, n2, n3, n4, n5, n6, n7⟩ := nt_ok (c := rd σ' 14 0 (ix (rd σ' 29 0 (ix (nI (O.length + 1) + (-1)))))) (nx := rd σ' 30 0 (ix (nI (O.length + 1) + (-1)))) m1.2.1 hTb
          refine And.intro n7 ?_
          have tg : TG (ntM (opM σ' (nI (O.length + 1) + (-1)) (rd σ' 14 0 (ix (rd σ' 29 0 (ix (nI (O.length + 1) + (-1)))))) (rd σ' 30 0 (ix (nI (O.length + 1) + (-1))))) (rd σ' 14 0 (ix (rd σ' 29 0 (ix (nI (O.length + 1) + (-1)))))) (rd σ' 30 0 (ix (nI (O.length + 1) + (-1))))) 27 28 (t 2 (ix x1) :: K) g T := ⟨n2.trans (rK 2 (by decide)), τ, oτ, n3.trans hrt, m2.2.2.2.2.2.2.2.1⟩
          have e2 : nI (O.length + 1) + (-1) + 1 = nI (O.length + 1) := by rw [e1, nI_1]
          refine And.intro (by show vp_in (nI (O.length + 1) + (-1) + 1) 100; rw [e2]; exact vp_in_nI (by omega) (by decide)) ?_
          refine ⟨(T + 1, Ds, (t 1 (ix x1), t 2 (ix x1) :: K, g, T) :: (t 2 (ix x1), K, g, τ) :: O), rfl, ⟨rfl, by show some (some (aI (nI (O.length + 1) + (-1) + 1 + 1))) = some (some (aI (nI (O.length + 1 + 1)))); rw [e2, nI_1], trivial⟩, rfl, ⟨MD_op m2 e2 (rK 1 (by decide)) n6 (by simp only [List.length_cons]; omega) (by omega) tg ha, h18, ?_, ?_⟩, ?_⟩
          · show T + 1 + 2 * ((2 ^ (hN t (ix (t 1 (ix x1))) + 1) - 1) + ((2 ^ (hN t (ix (t 2 (ix x1))) + 1) - 1) + wO t O)) ≤ 256
            omega
          · show All = Ds ++ (dutL t 6 (t 1 (ix x1)) (t 2 (ix x1) :: K) g ++ (dutL t 6 (t 2 (ix x1)) K g ++ flatO t O))
            have hd : dutL t 6 x1 K g = dutL t 5 (t 1 (ix x1)) (t 2 (ix x1) :: K) g ++ dutL t 5 (t 2 (ix x1)) K g := by
              show (if t 0 (ix x1) = 13 then _ else _) = _
              rw [if_pos e]
            rw [hAl, hd, ← d6 _ _ _ ha ca.2.2.2, ← d6 _ _ _ hb cb.2.2.2, List.append_assoc (dutL t 5 _ _ _)]
          · show (2 ^ (hN t (ix (t 1 (ix x1))) + 1) - 1) + ((2 ^ (hN t (ix (t 2 (ix x1))) + 1) - 1) + wO t O) < (2 ^ (hN t (ix x1) + 1) - 1) + wO t O
            omega
        have hne13 : ¬ t 0 (ix x1) = 13 := fun z => hne ((rK 0 (by decide)).trans z)
        refine And.intro hv1 ?_
        refine And.intro (fun (hne : ¬ rd σ' 12 0 (ix (rd σ' 29 0 (ix (nI (O.length + 1) + (-1))))) = 14) => ?_) (fun (e : rd σ' 12 0 (ix (rd σ' 29 0 (ix (nI (O.length + 1) + (-1))))) = 14) => ?_)
        rotate_left
        · -- a choice
          have e : t 0 (ix x1) = 14 := (rK 0 (by decide)).symm.trans e
          obtain ⟨-, cb, cc3⟩ := h14 e
          have hb := cb.isN (n := nn) (by omega)
          have hc := cc3.isN (n := nn) (by omega)
          have pb := pw cb.2.2.2
          have pc := pw cc3.2.2.2
          refine And.intro hv1 (And.intro hvp ?_)
          have m1 : MC t nn σ (opM σ' (nI (O.length + 1) + (-1)) (rd σ' 15 0 (ix (rd σ' 29 0 (ix (nI (O.length + 1) + (-1)))))) (rd σ' 30 0 (ix (nI (O.length + 1) + (-1))))) T Ds ((t 3 (ix x1), K, g, τ) :: O) := MD_op hMO e1 (rK 3 (by decide)) hrt (by omega) oτ oTG hc
          have e2 : nI (O.length + 1) + (-1) + 1 = nI (O.length + 1) := by rw [e1, nI_1]
          refine And.intro hv1 (And.intro (by show vp_in (nI (O.length + 1) + (-1) + 1) 100; rw [e2]; exact vp_in_nI (by omega) (by decide)) ?_)
          refine ⟨(T, Ds, (t 2 (ix x1), K, g, τ) :: (t 3 (ix x1), K, g, τ) :: O), rfl, ⟨rfl, by show some (some (aI (nI (O.length + 1) + (-1) + 1 + 1))) = some (some (aI (nI (O.length + 1 + 1)))); rw [e2, nI_1], trivial⟩, rfl, ⟨MD_op m1 e2 (rK 2 (by decide)) hrt (by simp only [List.length_cons]; omega) oτ m1.2.2.2.2.2.2.2.1 hb, h18, ?_, ?_⟩, ?_⟩
          · show T + 2 * ((2 ^ (hN t (ix (t 2 (ix x1))) + 1) - 1) + ((2 ^ (hN t (ix (t 3 (ix x1))) + 1) - 1) + wO t O)) ≤ 256
            omega
          · show All = Ds ++ (dutL t 6 (t 2 (ix x1)) K g ++ (dutL t 6 (t 3 (ix x1)) K g ++ flatO t O))
            have hd : dutL t 6 x1 K g = dutL t 5 (t 2 (ix x1)) K g ++ dutL t 5 (t 3 (ix x1)) K g := by
              show (if t 0 (ix x1) = 13 then _ else (if t 0 (ix x1) = 14 then _ else _)) = _
              rw [if_neg hne13, if_pos e]
            rw [hAl, hd, ← d6 _ _ _ hc cc3.2.2.2, ← d6 _ _ _ hb cb.2.2.2, List.append_assoc (dutL t 5 _ _ _)]
          · show (2 ^ (hN t (ix (t 2 (ix x1))) + 1) - 1) + ((2 ^ (hN t (ix (t 3 (ix x1))) + 1) - 1) + wO t O) < (2 ^ (hN t (ix x1) + 1) - 1) + wO t O
            omega
        have hne14 : ¬ t 0 (ix x1) = 14 := fun z => hne ((rK 0 (by decide)).trans z)
        refine And.intro hv1 ?_
        refine And.intro (fun (hne : ¬ rd σ' 12 0 (ix (rd σ' 29 0 (ix (nI (O.length + 1) + (-1))))) = 15) => ?_) (fun (e : rd σ' 12 0 (ix (rd σ' 29 0 (ix (nI (O.length + 1) + (-1))))) = 15) => ?_)
        · have hne15 : ¬ t 0 (ix x1) = 15 := fun z => hne ((rK 0 (by decide)).trans z)
          refine ⟨(T, Ds, O), rfl, ⟨rfl, by show some (some (aI (nI (O.length + 1) + (-1)))) = some (some (aI (nI O.length))); rw [e1], trivial⟩, rfl, ⟨hMO, h18, ?_, ?_⟩, ?_⟩
          · show T + 2 * wO t O ≤ 256
            omega
          · show All = Ds ++ flatO t O
            have : dutL t 6 x1 K g = [] := by
              show (if t 0 (ix x1) = 13 then _ else (if t 0 (ix x1) = 14 then _ else (if t 0 (ix x1) = 15 then _ else _))) = _
              rw [if_neg hne13, if_neg hne14, if_neg hne15]
            rw [hAl, this, List.nil_append]
          · show wO t O < (2 ^ (hN t (ix x1) + 1) - 1) + wO t O
            omega
        have e : t 0 (ix x1) = 15 := (rK 0 (by decide)).symm.trans e
        obtain ⟨-, cb, cc3⟩ := h15 e
        have hc := cc3.isN (n := nn) (by omega)
        have pc := pw cc3.2.2.2
        refine And.intro hv1 ?_
        have hTb : T < 400 := by omega
        obtain ⟨n1, n2, n3, n4, n5, n6, n7⟩ := nt_ok (c := -1) (nx := rd σ' 14 0 (ix (rd σ' 29 0 (ix (nI (O.length + 1) + (-1)))))) hMC.2.1 hTb
        refine And.intro n7 ?_
        have row2 : ∀ σ2, eqf [24, 25, 26, 27, 28, 29, 30] [16, 17] σ σ2 → ∀ k, rd σ2 15 0 k = t 3 k := fun σ2 h2 k => by
          obtain ⟨-, ht2, -⟩ := MI_eqf h2 (by decide) (by decide) hM
          have := congrFun (congrFun ht2 3) k
          rw [← ht] at this
          exact this
        have m1 : MC t nn σ (ntM σ' (-1) (rd σ' 14 0 (ix (rd σ' 29 0 (ix (nI (O.length + 1) + (-1))))))) (T + 1) Ds ((x1, K, g, τ) :: O) := MD_nt hMC hTb
        have tg1 : TG (ntM σ' (-1) (rd σ' 14 0 (ix (rd σ' 29 0 (ix (nI (O.length + 1) + (-1))))))) 27 28 [] (t 2 (ix x1)) T := ⟨n2, n3.trans (rK 2 (by decide))⟩
        have k1 : (rd (ntM σ' (-1) (rd σ' 14 0 (ix (rd σ' 29 0 (ix (nI (O.length + 1) + (-1))))))) 15 0 (ix (rd σ' 29 0 (ix (nI (O.length + 1) + (-1)))))) = t 3 (ix x1) := by rw [row2 _ m1.1, hrc]
        obtain ⟨p1, p2, p3, p4, p5, p6, p7⟩ := nt_ok (c := (rd (ntM σ' (-1) (rd σ' 14 0 (ix (rd σ' 29 0 (ix (nI (O.length + 1) + (-1))))))) 15 0 (ix (rd σ' 29 0 (ix (nI (O.length + 1) + (-1))))))) (nx := (rd σ' 11 0 17 + 1 - 1)) m1.2.1 (by omega)
        refine And.intro hv1 (And.intro p7 ?_)
        have m2 : MC t nn σ (ntM (ntM σ' (-1) (rd σ' 14 0 (ix (rd σ' 29 0 (ix (nI (O.length + 1) + (-1))))))) (rd (ntM σ' (-1) (rd σ' 14 0 (ix (rd σ' 29 0 (ix (nI (O.length + 1) + (-1))))))) 15 0 (ix (rd σ' 29 0 (ix (nI (O.length + 1) + (-1)))))) (rd σ' 11 0 17 + 1 - 1)) (T + 2) Ds ((x1, K, g, τ) :: O) := MD_nt m1 (by omega)
        have tg2 : TG (ntM (ntM σ' (-1) (rd σ' 14 0 (ix (rd σ' 29 0 (ix (nI (O.length + 1) + (-1))))))) (rd (ntM σ' (-1) (rd σ' 14 0 (ix (rd σ' 29 0 (ix (nI (O.length + 1) + (-1))))))) 15 0 (ix (rd σ' 29 0 (ix (nI (O.length + 1) + (-1)))))) (rd σ' 11 0 17 + 1 - 1)) 27 28 [t 3 (ix x1)] (t 2 (ix x1)) (T + 1) := ⟨p2.trans k1, T, by omega, p3.trans n6, TG_eq p4 (by omega) tg1⟩
        obtain ⟨-, -, -, -, q5, q6⟩ := dt_ok (a := 1) (b := (rd σ' 29 0 (ix (nI (O.length + 1) + (-1))))) (c := (rd (ntM σ' (-1) (rd σ' 14 0 (ix (rd σ' 29 0 (ix (nI (O.length + 1) + (-1))))))) 11 0 17 + 1 - 1)) m2.2.2.1 (by omega)
        refine And.intro q6 ?_
        have m3 : MC t nn σ (dtM (ntM (ntM σ' (-1) (rd σ' 14 0 (ix (rd σ' 29 0 (ix (nI (O.length + 1) + (-1))))))) (rd (ntM σ' (-1) (rd σ' 14 0 (ix (rd σ' 29 0 (ix (nI (O.length + 1) + (-1))))))) 15 0 (ix (rd σ' 29 0 (ix (nI (O.length + 1) + (-1)))))) (rd σ' 11 0 17 + 1 - 1)) 1 (rd σ' 29 0 (ix (nI (O.length + 1) + (-1)))) (rd (ntM σ' (-1) (rd σ' 14 0 (ix (rd σ' 29 0 (ix (nI (O.length + 1) + (-1))))))) 11 0 17 + 1 - 1)) (T + 2) (Ds ++ [((1, x1, [t 3 (ix x1)], t 2 (ix x1)) : Duty)]) ((x1, K, g, τ) :: O) := MD_dt (D := ((1, x1, [t 3 (ix x1)], t 2 (ix x1)) : Duty)) m2 rfl hrc p6 (by omega) (by omega) tg2
        have tg3 : TG (dtM (ntM (ntM σ' (-1) (rd σ' 14 0 (ix (rd σ' 29 0 (ix (nI (O.length + 1) + (-1))))))) (rd (ntM σ' (-1) (rd σ' 14 0 (ix (rd σ' 29 0 (ix (nI (O.length + 1) + (-1))))))) 15 0 (ix (rd σ' 29 0 (ix (nI (O.length + 1) + (-1)))))) (rd σ' 11 0 17 + 1 - 1)) 1 (rd σ' 29 0 (ix (nI (O.length + 1) + (-1)))) (rd (ntM σ' (-1) (rd σ' 14 0 (ix (rd σ' 29 0 (ix (nI (O.length + 1) + (-1))))))) 11 0 17 + 1 - 1)) 27 28 [] (t 2 (ix x1)) T := TG_eq (T := T + 1) (fun k _ => ⟨q5 27 k (by omega) (by omega), q5 28 k (by omega) (by omega)⟩) (by omega) (TG_eq p4 (by omega) tg1)
        have hl1 : (Ds ++ [((1, x1, [t 3 (ix x1)], t 2 (ix x1)) : Duty)]).length = Ds.length + 1 := by rw [List.length_append]; rfl
        obtain ⟨-, -, -, -, u5, u6⟩ := dt_ok (a := 2) (b := (rd σ' 29 0 (ix (nI (O.length + 1) + (-1))))) (c := (rd σ' 30 0 (ix (nI (O.length + 1) + (-1))))) m3.2.2.1 (by omega)
        refine And.intro u6 ?_
        have m4 : MC t nn σ (dtM (dtM (ntM (ntM σ' (-1) (rd σ' 14 0 (ix (rd σ' 29 0 (ix (nI (O.length + 1) + (-1))))))) (rd (ntM σ' (-1) (rd σ' 14 0 (ix (rd σ' 29 0 (ix (nI (O.length + 1) + (-1))))))) 15 0 (ix (rd σ' 29 0 (ix (nI (O.length + 1) + (-1)))))) (rd σ' 11 0 17 + 1 - 1)) 1 (rd σ' 29 0 (ix (nI (O.length + 1) + (-1)))) (rd (ntM σ' (-1) (rd σ' 14 0 (ix (rd σ' 29 0 (ix (nI (O.length + 1) + (-1))))))) 11 0 17 + 1 - 1)) 2 (rd σ' 29 0 (ix (nI (O.length + 1) + (-1)))) (rd σ' 30 0 (ix (nI (O.length + 1) + (-1))))) (T + 2) ((Ds ++ [((1, x1, [t 3 (ix x1)], t 2 (ix x1)) : Duty)]) ++ [((2, x1, K, g) : Duty)]) ((x1, K, g, τ) :: O) := MD_dt (D := ((2, x1, K, g) : Duty)) m3 rfl hrc hrt (by omega) (by omega) m3.2.2.2.2.2.2.2.1
        have tg4 : TG (dtM (dtM (ntM (ntM σ' (-1) (rd σ' 14 0 (ix (rd σ' 29 0 (ix (nI (O.length + 1) + (-1))))))) (rd (ntM σ' (-1) (rd σ' 14 0 (ix (rd σ' 29 0 (ix (nI (O.length + 1) + (-1))))))) 15 0 (ix (rd σ' 29 0 (ix (nI (O.length + 1) + (-1)))))) (rd σ' 11 0 17 + 1 - 1)) 1 (rd σ' 29 0 (ix (nI (O.length + 1) + (-1)))) (rd (ntM σ' (-1) (rd σ' 14 0 (ix (rd σ' 29 0 (ix (nI (O.length + 1) + (-1))))))) 11 0 17 + 1 - 1)) 2 (rd σ' 29 0 (ix (nI (O.length + 1) + (-1)))) (rd σ' 30 0 (ix (nI (O.length + 1) + (-1))))) 27 28 [] (t 2 (ix x1)) T := TG_eq (T := T + 1) (fun k _ => ⟨u5 27 k (by omega) (by omega), u5 28 k (by omega) (by omega)⟩) (by omega) tg3
        have hl2 : ((Ds ++ [((1, x1, [t 3 (ix x1)], t 2 (ix x1)) : Duty)]) ++ [((2, x1, K, g) : Duty)]).length = Ds.length + 2 := by rw [List.length_append, hl1]; rfl
        have k4 : (rd (dtM (dtM (ntM (ntM σ' (-1) (rd σ' 14 0 (ix (rd σ' 29 0 (ix (nI (O.length + 1) + (-1))))))) (rd (ntM σ' (-1) (rd σ' 14 0 (ix (rd σ' 29 0 (ix (nI (O.length + 1) + (-1))))))) 15 0 (ix (rd σ' 29 0 (ix (nI (O.length + 1) + (-1)))))) (rd σ' 11 0 17 + 1 - 1)) 1 (rd σ' 29 0 (ix (nI (O.length + 1) + (-1)))) (rd (ntM σ' (-1) (rd σ' 14 0 (ix (rd σ' 29 0 (ix (nI (O.length + 1) + (-1))))))) 11 0 17 + 1 - 1)) 2 (rd σ' 29 0 (ix (nI (O.length + 1) + (-1)))) (rd σ' 30 0 (ix (nI (O.length + 1) + (-1))))) 15 0 (ix (rd σ' 29 0 (ix (nI (O.length + 1) + (-1)))))) = t 3 (ix x1) := by rw [row2 _ m4.1, hrc]
        have e2 : nI (O.length + 1) + (-1) + 1 = nI (O.length + 1) := by rw [e1, nI_1]
        refine And.intro hv1 (And.intro hvp ?_)
        refine ⟨(T + 2, (Ds ++ [((1, x1, [t 3 (ix x1)], t 2 (ix x1)) : Duty)]) ++ [((2, x1, K, g) : Duty)], (t 3 (ix x1), [], t 2 (ix x1), T) :: O), rfl, ⟨rfl, by show some (some (aI (nI (O.length + 1) + (-1) + 1))) = some (some (aI (nI (O.length + 1)))); rw [e2], trivial⟩, rfl, ⟨MD_op ⟨m4.1, m4.2.1, m4.2.2.1, m4.2.2.2.1, m4.2.2.2.2.2.2.2.2.2⟩ e1 k4 n6 (by omega) (by omega) tg4 hc, by show ((Ds ++ [((1, x1, [t 3 (ix x1)], t 2 (ix x1)) : Duty)]) ++ [((2, x1, K, g) : Duty)]).length ≤ 18; omega, ?_, ?_⟩, ?_⟩
        · show T + 2 + 2 * ((2 ^ (hN t (ix (t 3 (ix x1))) + 1) - 1) + wO t O) ≤ 256
          omega
        · show All = ((Ds ++ [((1, x1, [t 3 (ix x1)], t 2 (ix x1)) : Duty)]) ++ [((2, x1, K, g) : Duty)]) ++ (dutL t 6 (t 3 (ix x1)) [] (t 2 (ix x1)) ++ flatO t O)
          have hd : dutL t 6 x1 K g = ((1, x1, [t 3 (ix x1)], t 2 (ix x1)) : Duty) :: ((2, x1, K, g) : Duty) :: dutL t 5 (t 3 (ix x1)) [] (t 2 (ix x1)) := by
            show (if t 0 (ix x1) = 13 then _ else (if t 0 (ix x1) = 14 then _ else (if t 0 (ix x1) = 15 then _ else _))) = _
            rw [if_neg hne13, if_neg hne14, if_pos e]
          rw [hAl, hd, ← d6 _ _ _ hc cc3.2.2.2, List.append_assoc, List.append_assoc]
          rfl
        · show (2 ^ (hN t (ix (t 3 (ix x1))) + 1) - 1) + wO t O < (2 ^ (hN t (ix x1) + 1) - 1) + wO t O
          omega
    · have m0 : MC t nn σ (wr (wr σ 11 0 16 0) 11 0 17 0) 0 [] [] := ⟨((eqf.refl _ _ _).pf (by decide)).pf (by decide), rfl, rfl, fun i D h => by simp at h, trivial⟩
      obtain ⟨n1, n2, n3, n4, n5, n6, n7⟩ := nt_ok (c := -1) (nx := q0) m0.2.1 (by decide)
      refine And.intro n7 ?_
      have m1 : MC t nn σ (ntM (wr (wr σ 11 0 16 0) 11 0 17 0) (-1) q0) 1 [] [] := MD_nt m0 (by decide)
      have tg1 : TG (ntM (wr (wr σ 11 0 16 0) 11 0 17 0) (-1) q0) 27 28 [] q0 0 := ⟨n2, n3⟩
      obtain ⟨p1, p2, p3, p4, p5, p6, p7⟩ := nt_ok (c := x) (nx := rd (wr (wr σ 11 0 16 0) 11 0 17 0) 11 0 17 + 1 - 1) m1.2.1 (by decide)
      refine And.intro p7 ?_
      have m2 := MD_nt (c := x) (nx := rd (wr (wr σ 11 0 16 0) 11 0 17 0) 11 0 17 + 1 - 1) m1 (by decide)
      have tg2 : TG (ntM (ntM (wr (wr σ 11 0 16 0) 11 0 17 0) (-1) q0) x (rd (wr (wr σ 11 0 16 0) 11 0 17 0) 11 0 17 + 1 - 1)) 27 28 [x] q0 1 := ⟨p2, 0, by decide, p3.trans n6, TG_eq p4 (by decide) tg1⟩
      obtain ⟨-, -, -, -, q5, q6⟩ := dt_ok (a := 0) (b := p0) (c := rd (ntM (wr (wr σ 11 0 16 0) 11 0 17 0) (-1) q0) 11 0 17 + 1 - 1) m2.2.2.1 (by decide)
      refine And.intro q6 ?_
      have m3 := MD_dt (D := ((0, p0, [x], q0) : Duty)) m2 rfl rfl p6 (by decide) (by decide) tg2
      have tg3 : TG _ 27 28 [] q0 0 := TG_eq (T := 1) (fun k _ => ⟨q5 27 k (by omega) (by omega), q5 28 k (by omega) (by omega)⟩) (by decide) (TG_eq p4 (by decide) tg1)
      have m4 := MD_op (dp := 0) m3 rfl rfl n6 (by decide) (by decide) tg3 hx
      have v0 : vp_in 0 100 := vp_in_nI (N := 100) (Nat.zero_lt_succ 99) (by decide)
      refine And.intro v0 (And.intro v0 ?_)
      have hh6 := (hwf.2 _ (vp_lt hx.1)).2.1.2
      have hp : 2 ^ (hN t (ix x) + 1) ≤ 2 ^ 7 := Nat.pow_le_pow_right (by decide) (by omega)
      refine ⟨(2, [(0, p0, [x], q0)], [(x, [], q0, 0)]), rfl, ⟨rfl, rfl, trivial⟩, rfl, ⟨m4, by show 1 ≤ 18; decide, ?_, ?_⟩, trivial⟩
      · show 2 + 2 * ((2 ^ (hN t (ix x) + 1) - 1) + 0) ≤ 256
        omega
      · show All = [(0, p0, [x], q0)] ++ (dutL t 6 x [] q0 ++ [])
        rw [hAll, List.append_nil]
        rfl
