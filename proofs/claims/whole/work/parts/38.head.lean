def tbH (L : Nat) (xs : Nat → Int32) : List (Nat × Tr) := [(28, tq_ild 5 30), (30, tq_ald 0 31), (31, tq_slen L 32), (32, tq_push 5 33), (33, tq_isub 34), (34, tq_ic_gt 833 37), (37, tq_ald 0 38), (38, tq_ild 5 40), (40, tq_sl L xs 41), (41, tq_push 15 43), (43, tq_iand 44), (44, tq_sw 827 [(0, 100), (1, 192), (2, 260), (3, 335), (4, 415), (5, 495), (6, 570), (7, 626), (8, 706), (9, 771)]), (827, tq_iinc 5 5 830), (830, tq_goto 28), (833, tq_push 1 834), (834, tq_lret)]
def CH (i : Nat) (σ : Mem) : Kt := fun pc lv st σ' => (pc = 28 ∧ subl (lvH (i + 5)) lv ∧ st = [] ∧ σ' = σ) ∨ (pc = 100 ∧ subl (lvH i) lv ∧ st = [] ∧ σ' = σ) ∨ (pc = 192 ∧ subl (lvH i) lv ∧ st = [] ∧ σ' = σ) ∨ (pc = 260 ∧ subl (lvH i) lv ∧ st = [] ∧ σ' = σ) ∨ (pc = 335 ∧ subl (lvH i) lv ∧ st = [] ∧ σ' = σ) ∨ (pc = 415 ∧ subl (lvH i) lv ∧ st = [] ∧ σ' = σ) ∨ (pc = 495 ∧ subl (lvH i) lv ∧ st = [] ∧ σ' = σ) ∨ (pc = 570 ∧ subl (lvH i) lv ∧ st = [] ∧ σ' = σ) ∨ (pc = 626 ∧ subl (lvH i) lv ∧ st = [] ∧ σ' = σ) ∨ (pc = 706 ∧ subl (lvH i) lv ∧ st = [] ∧ σ' = σ) ∨ (pc = 771 ∧ subl (lvH i) lv ∧ st = [] ∧ σ' = σ)
set_option maxRecDepth 100000 in
theorem lw_head {p : Program} {l : Launch} {e : Env} {s : State} {m : MethodId} {below : List Frame} {meth : Method} {c : Code} {D : va_G} {ad : Nat → Nat → Nat} {cA : Nat → ClassId} {b L : Nat} {xs : Nat → Int32} (X : LX p l s m meth c D ad cA b L xs) : ∀ (n i cl sl : Nat) (σ : Mem) (Ds : List Duty), L - i < n → i ≤ L → cl + (L - i) ≤ 601024 → sl + 6 * (L - i) ≤ 7293034 → INV σ Ds → KL p l e s m below meth c D ad cA b cl sl 28 (lvH i) [] σ := by
  intro n
  induction n with
  | zero => intro i cl sl σ Ds h; exact absurd h (Nat.not_lt_zero _)
  | succ n ih =>
  intro i cl sl σ Ds hn hiL hb1 hb2 hInv
  have hL := X.2.2.2.2.1
  have hcl : cl ≤ 601024 ∧ sl ≤ 7293034 := ⟨by omega, by omega⟩
  have tb : tabOK (KL p l e s m below meth c D ad cA b cl sl) (tbH L xs) := ⟨sq_iload X.1 dL_law_28, sq_aload_n X.1 rfl dL_law_30, sq_slen X.1 X.2.2.1 X.2.2.2.1 (Nat.not_le.mpr X.2.2.2.1) dL_law_31, sq_iconst X.1 (by decide) dL_law_32, sq_isub X.1 dL_law_33, sq_ic_gt X.1 (by decide) dL_law_34, sq_aload_n X.1 rfl dL_law_37, sq_iload X.1 dL_law_38, sq_sl X.1 X.2.2.1 X.2.2.2.1 (Nat.not_le.mpr X.2.2.2.1) dL_law_40, sq_bipush X.1 (by decide) dL_law_41, sq_iand X.1 dL_law_43, sq_sw X.1 (by decide) rfl (by decide) (by decide) dL_law_44, sq_iinc X.1 (by decide) (by decide) dL_law_827, sq_goto X.1 (by decide) dL_law_830, sq_iconst X.1 (by decide) dL_law_833, sq_lret X.1 X.2.1 hcl dL_law_834, trivial⟩
  have e5 : (nI L - 5).toInt = (L : Int) - 5 := pk_sub_toInt (a := L) (b := 5) (by omega) (by decide)
  have ei : (nI i).toInt = (i : Int) := nI_toInt (by omega)
  by_cases h5 : i + 5 ≤ L
  · have hc1 : cl + 1 ≤ 601024 ∧ sl + 6 ≤ 7293034 := ⟨by omega, by omega⟩
    have hI1 : ∀ σ' Ds, INV σ' Ds → KL p l e s m below meth c D ad cA b (cl + 1) (sl + 6) 28 (lvH (i + 5)) [] σ' := fun σ' Ds' hv => ih (i + 5) (cl + 1) (sl + 6) σ' Ds' (by omega) (by omega) (by omega) (by omega) hv
    refine wp_sound (ps := [28, 100, 192, 260, 335, 415, 495, 570, 626, 706, 771]) (C := CH i σ) tb (fun pc lv st σ' hC => ?_) 100 _ _ _ _ ?_
    · rcases hC with ⟨rfl, hs, rfl, rfl⟩ | ⟨rfl, hs, rfl, rfl⟩ | ⟨rfl, hs, rfl, rfl⟩ | ⟨rfl, hs, rfl, rfl⟩ | ⟨rfl, hs, rfl, rfl⟩ | ⟨rfl, hs, rfl, rfl⟩ | ⟨rfl, hs, rfl, rfl⟩ | ⟨rfl, hs, rfl, rfl⟩ | ⟨rfl, hs, rfl, rfl⟩ | ⟨rfl, hs, rfl, rfl⟩ | ⟨rfl, hs, rfl, rfl⟩
      · exact K_sub hs (ih (i + 5) cl sl _ Ds (by omega) (by omega) (by omega) (by omega) hInv)
      · exact K_sub hs (cs_make X h5 hc1 hI1 hInv)
      · exact K_sub hs (cs_value X h5 hc1 hI1 hInv)
      · exact K_sub hs (cs_holds X h5 hc1 hI1 hInv)
      · exact K_sub hs (cs_run X h5 hc1 hI1 hInv)
      · exact K_sub hs (cs_promise X h5 hc1 hI1 hInv)
      · exact K_sub hs (cs_kept X h5 hc1 hI1 hInv)
      · exact K_sub hs (cs_decide X h5 hc1 hI1 hInv)
      · exact K_sub hs (cs_broken X h5 hc1 hI1 hInv)
      · exact K_sub hs (cs_part X h5 hc1 hI1 hInv)
      · exact K_sub hs (cs_count X h5 hc1 hI1 hInv)
    · refine And.intro (fun (h : nI L - 5 < nI i) => ?_) (fun _ => ?_)
      · have h := Int32.lt_iff_toInt_lt.mp h
        rw [e5, ei] at h
        omega
      refine And.intro (vp_in_nI (by omega) (by omega)) ?_
      refine And.intro (fun _ => (Or.inr (Or.inl ⟨rfl, ⟨rfl, rfl, rfl, rfl, rfl, rfl, trivial⟩, rfl, rfl⟩))) (fun _ => ?_)
      refine And.intro (fun _ => (Or.inr (Or.inr (Or.inl ⟨rfl, ⟨rfl, rfl, rfl, rfl, rfl, rfl, trivial⟩, rfl, rfl⟩)))) (fun _ => ?_)
      refine And.intro (fun _ => (Or.inr (Or.inr (Or.inr (Or.inl ⟨rfl, ⟨rfl, rfl, rfl, rfl, rfl, rfl, trivial⟩, rfl, rfl⟩))))) (fun _ => ?_)
      refine And.intro (fun _ => (Or.inr (Or.inr (Or.inr (Or.inr (Or.inl ⟨rfl, ⟨rfl, rfl, rfl, rfl, rfl, rfl, trivial⟩, rfl, rfl⟩)))))) (fun _ => ?_)
      refine And.intro (fun _ => (Or.inr (Or.inr (Or.inr (Or.inr (Or.inr (Or.inl ⟨rfl, ⟨rfl, rfl, rfl, rfl, rfl, rfl, trivial⟩, rfl, rfl⟩))))))) (fun _ => ?_)
      refine And.intro (fun _ => (Or.inr (Or.inr (Or.inr (Or.inr (Or.inr (Or.inr (Or.inl ⟨rfl, ⟨rfl, rfl, rfl, rfl, rfl, rfl, trivial⟩, rfl, rfl⟩)))))))) (fun _ => ?_)
      refine And.intro (fun _ => (Or.inr (Or.inr (Or.inr (Or.inr (Or.inr (Or.inr (Or.inr (Or.inl ⟨rfl, ⟨rfl, rfl, rfl, rfl, rfl, rfl, trivial⟩, rfl, rfl⟩))))))))) (fun _ => ?_)
      refine And.intro (fun _ => (Or.inr (Or.inr (Or.inr (Or.inr (Or.inr (Or.inr (Or.inr (Or.inr (Or.inl ⟨rfl, ⟨rfl, rfl, rfl, rfl, rfl, rfl, trivial⟩, rfl, rfl⟩)))))))))) (fun _ => ?_)
      refine And.intro (fun _ => (Or.inr (Or.inr (Or.inr (Or.inr (Or.inr (Or.inr (Or.inr (Or.inr (Or.inr (Or.inl ⟨rfl, ⟨rfl, rfl, rfl, rfl, rfl, rfl, trivial⟩, rfl, rfl⟩))))))))))) (fun _ => ?_)
      refine And.intro (fun _ => (Or.inr (Or.inr (Or.inr (Or.inr (Or.inr (Or.inr (Or.inr (Or.inr (Or.inr (Or.inr ⟨rfl, ⟨rfl, rfl, rfl, rfl, rfl, rfl, trivial⟩, rfl, rfl⟩))))))))))) (fun _ => ?_)
      exact (Or.inl ⟨rfl, ⟨rfl, rfl, rfl, rfl, rfl, by show some (some (aI (nI i + 5))) = some (some (aI (nI (i + 5)))); rw [nI_5], trivial⟩, rfl, rfl⟩)
  · refine wp_sound (ps := []) (C := fun _ _ _ _ => False) tb (fun _ _ _ _ h => h.elim) 100 _ _ _ _ ?_
    refine And.intro (fun _ => rfl) (fun (h : ¬ nI L - 5 < nI i) => ?_)
    have h := Int32.not_lt.mp h
    have h := Int32.le_iff_toInt_le.mp h
    rw [e5, ei] at h
    omega
