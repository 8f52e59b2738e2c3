/-- a table with row n laid anew -/
def upT (t : Tbl) (n : Nat) (kd a b c h : Int32) : Tbl := fun j k => if k = n then (match j with
  | 0 => kd
  | 1 => a
  | 2 => b
  | 3 => c
  | 4 => h
  | _ => 0) else t j k
theorem upT_ne {t : Tbl} {n : Nat} {kd a b c h : Int32} {j k : Nat} (hk : ¬ k = n) : upT t n kd a b c h j k = t j k := by unfold upT; rw [if_neg hk]
theorem chk_up {t : Tbl} {n : Nat} {kd a b c h : Int32} {k : Nat} (hk : k < n) {lo hi x : Int32} (hc : chk t k lo hi x) : chk (upT t n kd a b c h) k lo hi x := by
  have hx := vp_lt hc.1
  refine ⟨hc.1, ?_, ?_, ?_⟩
  · rw [upT_ne (by omega)]; exact hc.2.1
  · rw [upT_ne (by omega)]; exact hc.2.2.1
  · unfold hN; rw [upT_ne (by omega), upT_ne (by omega)]; exact hc.2.2.2
theorem wfn_up {t : Tbl} {n : Nat} {kd a b c h : Int32} {k : Nat} (hk : k < n) (hw : wfn t k) : wfn (upT t n kd a b c h) k := by
  have r : ∀ j, upT t n kd a b c h j k = t j k := fun j => upT_ne (by omega)
  obtain ⟨w1, w2, w3, w4, w5, w6, w7, w8, w9, w10, w11⟩ := hw
  unfold wfn hN
  simp only [r]
  exact ⟨w1, w2, fun z => ⟨chk_up hk (w3 z).1, chk_up hk (w3 z).2⟩, fun z => chk_up hk (w4 z), w5, w6, fun z => chk_up hk (w7 z), fun z => chk_up hk (w8 z), fun z => ⟨chk_up hk (w9 z).1, chk_up hk (w9 z).2⟩, fun z => ⟨chk_up hk (w10 z).1, chk_up hk (w10 z).2.1, chk_up hk (w10 z).2.2⟩, fun z => ⟨chk_up hk (w11 z).1, chk_up hk (w11 z).2.1, chk_up hk (w11 z).2.2⟩⟩
theorem chk_new {t : Tbl} {n : Nat} {kd a b c h : Int32} {lo hi x : Int32} (hx : isN t n lo hi x) (hh : hN t (ix x) < ix h) : chk (upT t n kd a b c h) n lo hi x := by
  have hl := vp_lt hx.1
  refine ⟨hx.1, ?_, ?_, ?_⟩
  · rw [upT_ne (by omega)]; exact hx.2.1
  · rw [upT_ne (by omega)]; exact hx.2.2
  · unfold hN at hh ⊢
    rw [upT_ne (by omega)]
    show _ < ix (if n = n then h else t 4 n)
    rw [if_pos rfl]
    exact hh
theorem WF_up {t : Tbl} {n : Nat} {kd a b c h : Int32} (hw : WF t n) (hn : n < 60) (hf : fitK t n kd a b c) (hh : h = hgt t kd a b c) (h6 : h ≤ 6) : WF (upT t n kd a b c h) (n + 1) := by
  refine ⟨by omega, fun k hk => ?_⟩
  by_cases hkn : k = n
  rotate_left
  · exact wfn_up (by omega) (hw.2 k (by omega))
  subst hkn
  obtain ⟨-, p1, p2, p3, pa, pb, pc⟩ := hM3_eq hw hf
  rw [← hh] at p1 p2 p3 pa pb pc
  have h6' : ix h ≤ 6 := by
    rw [p2, show (6 : Int32) = nI 6 from rfl, nI_leI (by omega) (by decide)] at h6
    exact h6
  have r : ∀ j, upT t k kd a b c h j k = (match j with
    | 0 => kd
    | 1 => a
    | 2 => b
    | 3 => c
    | 4 => h
    | _ => 0) := fun j => by unfold upT; rw [if_pos rfl]
  have cA : ∀ {lo hi : Int32}, finK kd → isN t k lo hi a → chk (upT t k kd a b c h) k lo hi a := fun w z => chk_new z (pa w)
  have cB : ∀ {lo hi : Int32}, sinK kd → isN t k lo hi b → chk (upT t k kd a b c h) k lo hi b := fun w z => chk_new z (pb w)
  have cC : ∀ {lo hi : Int32}, 13 < kd → isN t k lo hi c → chk (upT t k kd a b c h) k lo hi c := fun w z => chk_new z (pc w)
  unfold wfn hN
  simp only [r]
  rcases fitK_cases hf with e | e | e | e | e | e | e | e | e | e | e | e | e | e | e | e
  · exact ⟨⟨by rw [e]; decide, by rw [e]; decide⟩, ⟨p1, h6'⟩, fun z => absurd z (by rw [e]; decide), fun z => absurd z (by rw [e]; decide), fun z => absurd z (by rw [e]; decide), fun z => absurd z (by rw [e]; decide), fun z => absurd z (by rw [e]; decide), fun z => absurd z (by rw [e]; decide), fun z => absurd z (by rw [e]; decide), fun z => absurd z (by rw [e]; decide), fun z => absurd z (by rw [e]; decide)⟩
  · exact ⟨⟨by rw [e]; decide, by rw [e]; decide⟩, ⟨p1, h6'⟩, fun z => absurd z (by rw [e]; decide), fun z => absurd z (by rw [e]; decide), fun z => absurd z (by rw [e]; decide), fun z => absurd z (by rw [e]; decide), fun z => absurd z (by rw [e]; decide), fun z => absurd z (by rw [e]; decide), fun z => absurd z (by rw [e]; decide), fun z => absurd z (by rw [e]; decide), fun z => absurd z (by rw [e]; decide)⟩
  · exact ⟨⟨by rw [e]; decide, by rw [e]; decide⟩, ⟨p1, h6'⟩, fun _ => ⟨cA (by rw [e]; exact finK2) ((fitK2 e).mp hf).1, cB (by rw [e]; exact sinK2) ((fitK2 e).mp hf).2⟩, fun z => absurd z (by rw [e]; decide), fun z => absurd z (by rw [e]; decide), fun z => absurd z (by rw [e]; decide), fun z => absurd z (by rw [e]; decide), fun z => absurd z (by rw [e]; decide), fun z => absurd z (by rw [e]; decide), fun z => absurd z (by rw [e]; decide), fun z => absurd z (by rw [e]; decide)⟩
  · exact ⟨⟨by rw [e]; decide, by rw [e]; decide⟩, ⟨p1, h6'⟩, fun _ => ⟨cA (by rw [e]; exact finK3) ((fitK3 e).mp hf).1, cB (by rw [e]; exact sinK3) ((fitK3 e).mp hf).2⟩, fun z => absurd z (by rw [e]; decide), fun z => absurd z (by rw [e]; decide), fun z => absurd z (by rw [e]; decide), fun z => absurd z (by rw [e]; decide), fun z => absurd z (by rw [e]; decide), fun z => absurd z (by rw [e]; decide), fun z => absurd z (by rw [e]; decide), fun z => absurd z (by rw [e]; decide)⟩
  · exact ⟨⟨by rw [e]; decide, by rw [e]; decide⟩, ⟨p1, h6'⟩, fun z => absurd z (by rw [e]; decide), fun _ => cB (by rw [e]; exact sinK4) ((fitK4 e).mp hf).2, fun z => absurd z (by rw [e]; decide), fun z => absurd z (by rw [e]; decide), fun z => absurd z (by rw [e]; decide), fun z => absurd z (by rw [e]; decide), fun z => absurd z (by rw [e]; decide), fun z => absurd z (by rw [e]; decide), fun z => absurd z (by rw [e]; decide)⟩
  · exact ⟨⟨by rw [e]; decide, by rw [e]; decide⟩, ⟨p1, h6'⟩, fun _ => ⟨cA (by rw [e]; exact finK5) ((fitK5 e).mp hf).1, cB (by rw [e]; exact sinK5) ((fitK5 e).mp hf).2⟩, fun z => absurd z (by rw [e]; decide), fun z => absurd z (by rw [e]; decide), fun z => absurd z (by rw [e]; decide), fun z => absurd z (by rw [e]; decide), fun z => absurd z (by rw [e]; decide), fun z => absurd z (by rw [e]; decide), fun z => absurd z (by rw [e]; decide), fun z => absurd z (by rw [e]; decide)⟩
  · exact ⟨⟨by rw [e]; decide, by rw [e]; decide⟩, ⟨p1, h6'⟩, fun _ => ⟨cA (by rw [e]; exact finK6) ((fitK6 e).mp hf).1, cB (by rw [e]; exact sinK6) ((fitK6 e).mp hf).2⟩, fun z => absurd z (by rw [e]; decide), fun z => absurd z (by rw [e]; decide), fun z => absurd z (by rw [e]; decide), fun z => absurd z (by rw [e]; decide), fun z => absurd z (by rw [e]; decide), fun z => absurd z (by rw [e]; decide), fun z => absurd z (by rw [e]; decide), fun z => absurd z (by rw [e]; decide)⟩
  · exact ⟨⟨by rw [e]; decide, by rw [e]; decide⟩, ⟨p1, h6'⟩, fun z => absurd z (by rw [e]; decide), fun _ => cB (by rw [e]; exact sinK7) ((fitK7 e).mp hf).2, fun _ => ((fitK7 e).mp hf).1.1, fun z => absurd z (by rw [e]; decide), fun z => absurd z (by rw [e]; decide), fun z => absurd z (by rw [e]; decide), fun z => absurd z (by rw [e]; decide), fun z => absurd z (by rw [e]; decide), fun z => absurd z (by rw [e]; decide)⟩
  · exact ⟨⟨by rw [e]; decide, by rw [e]; decide⟩, ⟨p1, h6'⟩, fun z => absurd z (by rw [e]; decide), fun z => absurd z (by rw [e]; decide), fun z => absurd z (by rw [e]; decide), fun z => absurd z (by rw [e]; decide), fun _ => cA (by rw [e]; exact finK8) ((fitK8 e).mp hf), fun z => absurd z (by rw [e]; decide), fun z => absurd z (by rw [e]; decide), fun z => absurd z (by rw [e]; decide), fun z => absurd z (by rw [e]; decide)⟩
  · exact ⟨⟨by rw [e]; decide, by rw [e]; decide⟩, ⟨p1, h6'⟩, fun z => absurd z (by rw [e]; decide), fun z => absurd z (by rw [e]; decide), fun z => absurd z (by rw [e]; decide), fun z => absurd z (by rw [e]; decide), fun _ => cA (by rw [e]; exact finK9) ((fitK9 e).mp hf).1, fun _ => cB (by rw [e]; exact sinK9) ((fitK9 e).mp hf).2, fun z => absurd z (by rw [e]; decide), fun z => absurd z (by rw [e]; decide), fun z => absurd z (by rw [e]; decide)⟩
  · exact ⟨⟨by rw [e]; decide, by rw [e]; decide⟩, ⟨p1, h6'⟩, fun z => absurd z (by rw [e]; decide), fun z => absurd z (by rw [e]; decide), fun z => absurd z (by rw [e]; decide), fun z => absurd z (by rw [e]; decide), fun _ => cA (by rw [e]; exact finK10) ((fitK10 e).mp hf).1, fun _ => cB (by rw [e]; exact sinK10) ((fitK10 e).mp hf).2, fun z => absurd z (by rw [e]; decide), fun z => absurd z (by rw [e]; decide), fun z => absurd z (by rw [e]; decide)⟩
  · exact ⟨⟨by rw [e]; decide, by rw [e]; decide⟩, ⟨p1, h6'⟩, fun z => absurd z (by rw [e]; decide), fun z => absurd z (by rw [e]; decide), fun z => absurd z (by rw [e]; decide), fun z => absurd z (by rw [e]; decide), fun z => absurd z (by rw [e]; decide), fun z => absurd z (by rw [e]; decide), fun z => absurd z (by rw [e]; decide), fun z => absurd z (by rw [e]; decide), fun z => absurd z (by rw [e]; decide)⟩
  · exact ⟨⟨by rw [e]; decide, by rw [e]; decide⟩, ⟨p1, h6'⟩, fun z => absurd z (by rw [e]; decide), fun _ => cB (by rw [e]; exact sinK12) ((fitK12 e).mp hf).2, fun z => absurd z (by rw [e]; decide), fun _ => ((fitK12 e).mp hf).1, fun z => absurd z (by rw [e]; decide), fun z => absurd z (by rw [e]; decide), fun z => absurd z (by rw [e]; decide), fun z => absurd z (by rw [e]; decide), fun z => absurd z (by rw [e]; decide)⟩
  · exact ⟨⟨by rw [e]; decide, by rw [e]; decide⟩, ⟨p1, h6'⟩, fun z => absurd z (by rw [e]; decide), fun z => absurd z (by rw [e]; decide), fun z => absurd z (by rw [e]; decide), fun z => absurd z (by rw [e]; decide), fun z => absurd z (by rw [e]; decide), fun z => absurd z (by rw [e]; decide), fun _ => ⟨cA (by rw [e]; exact finK13) ((fitK13 e).mp hf).1, cB (by rw [e]; exact sinK13) ((fitK13 e).mp hf).2⟩, fun z => absurd z (by rw [e]; decide), fun z => absurd z (by rw [e]; decide)⟩
  · exact ⟨⟨by rw [e]; decide, by rw [e]; decide⟩, ⟨p1, h6'⟩, fun z => absurd z (by rw [e]; decide), fun z => absurd z (by rw [e]; decide), fun z => absurd z (by rw [e]; decide), fun z => absurd z (by rw [e]; decide), fun z => absurd z (by rw [e]; decide), fun z => absurd z (by rw [e]; decide), fun z => absurd z (by rw [e]; decide), fun _ => ⟨cA (by rw [e]; exact finK14) ((fitK14 e).mp hf).1, cB (by rw [e]; exact sinK14) ((fitK14 e).mp hf).2.1, cC (by rw [e]; decide) ((fitK14 e).mp hf).2.2⟩, fun z => absurd z (by rw [e]; decide)⟩
  · exact ⟨⟨by rw [e]; decide, by rw [e]; decide⟩, ⟨p1, h6'⟩, fun z => absurd z (by rw [e]; decide), fun z => absurd z (by rw [e]; decide), fun z => absurd z (by rw [e]; decide), fun z => absurd z (by rw [e]; decide), fun z => absurd z (by rw [e]; decide), fun z => absurd z (by rw [e]; decide), fun z => absurd z (by rw [e]; decide), fun z => absurd z (by rw [e]; decide), fun _ => ⟨cA (by rw [e]; exact finK15) ((fitK15 e).mp hf).1, cB (by rw [e]; exact sinK15) ((fitK15 e).mp hf).2.1, cC (by rw [e]; decide) ((fitK15 e).mp hf).2.2⟩⟩
theorem sh64 : ∀ j, j < 64 → ((nI j).toInt64 &&& 63).toBitVec.smod 64 = BitVec.ofNat 64 j := by decide +kernel
theorem bit_iff {w : Int64} {j : Nat} (hj : j < 64) : bit w j ↔ w.toBitVec.getLsbD j = true := by
  have e1 : (w >>> ((nI j).toInt64 &&& 63)).toBitVec = w.toBitVec.sshiftRight j := by
    show BitVec.sshiftRight' w.toBitVec (((nI j).toInt64 &&& 63).toBitVec.smod 64) = _
    rw [sh64 j hj]
    simp only [BitVec.sshiftRight', BitVec.toNat_ofNat]
    rw [Nat.mod_eq_of_lt (by omega)]
  have e2 : ((w >>> ((nI j).toInt64 &&& 63)) &&& 1).toBitVec = w.toBitVec.sshiftRight j &&& 1#64 := by
    rw [Int64.toBitVec_and, e1]; rfl
  have e3 : (w.toBitVec.sshiftRight j).getLsbD 0 = w.toBitVec.getLsbD j := by
    rw [BitVec.getLsbD_sshiftRight]
    simp only [Nat.add_zero]
    have : decide (64 ≤ 0) = false := by decide
    simp [hj]
  unfold bit
  constructor
  · intro h
    have h1 := congrArg (fun z : Int64 => z.toBitVec.getLsbD 0) h
    try dsimp only at h1
    rw [e2, BitVec.getLsbD_and, e3] at h1
    have h2 : (1#64).getLsbD 0 = true := by decide
    have h3 : (1 : Int64).toBitVec.getLsbD 0 = true := by decide
    rw [h2, h3, Bool.and_true] at h1
    exact h1
  · intro h
    apply Int64.toBitVec_inj.mp
    rw [e2]
    apply BitVec.eq_of_getLsbD_eq
    intro i hi
    rw [BitVec.getLsbD_and]
    by_cases h0 : i = 0
    · subst h0
      rw [e3, h]
      decide
    · have h1 : (1#64).getLsbD i = false := by
        rw [BitVec.getLsbD_one]
        simp [h0]
      have h2 : (1 : Int64).toBitVec.getLsbD i = false := h1
      rw [h1, h2, Bool.and_false]
theorem bit_or {u v : Int64} {j : Nat} (hj : j < 64) : bit (u ||| v) j ↔ bit u j ∨ bit v j := by
  rw [bit_iff hj, bit_iff hj, bit_iff hj, Int64.toBitVec_or, BitVec.getLsbD_or, Bool.or_eq_true]
theorem bit_0 {j : Nat} (hj : j < 64) : ¬ bit 0 j := by
  rw [bit_iff hj]
  show ¬ (0#64).getLsbD j = true
  rw [BitVec.getLsbD_zero]
  decide
theorem bit_one {n j : Nat} (hn : n < 64) (hj : j < 64) : bit ((1 : Int64) <<< ((nI n).toInt64 &&& 63)) j ↔ j = n := by
  rw [bit_iff hj]
  have e1 : ((1 : Int64) <<< ((nI n).toInt64 &&& 63)).toBitVec = BitVec.twoPow 64 n := by
    show BitVec.shiftLeft (1 : Int64).toBitVec (((nI n).toInt64 &&& 63).toBitVec.smod 64).toNat = _
    rw [sh64 n hn, BitVec.toNat_ofNat, Nat.mod_eq_of_lt (by omega)]
    rfl
  rw [e1, BitVec.getLsbD_twoPow]
  simp only [Bool.and_eq_true, decide_eq_true_eq]
  omega
/-- what the reference notes of a new node: itself and what lies below it -/
noncomputable def bel (B : Nat → Int64) (n : Nat) (kd a b : Int32) : Int64 := ((1 : Int64) <<< ((nI n).toInt64 &&& 63) ||| cif (finK kd) (B (ix a)) 0) ||| cif (sinK kd) (B (ix b)) 0
theorem kid_up {t : Tbl} {n : Nat} {kd a b c h : Int32} {i : Nat} (hi : ¬ i = n) {y : Int32} : kid (upT t n kd a b c h) i y ↔ kid t i y := by
  unfold kid; rw [upT_ne hi, upT_ne hi, upT_ne hi]
theorem BL_up {t : Tbl} {n : Nat} {B B' : Nat → Int64} {kd a b c h : Int32} (hw : WF t n) (hn : n < 60) (hf : fitK t n kd a b c) (hB : ∀ k, k < n → t 0 k ≤ 10 → BLk t B k) (h1 : ∀ k, ¬ k = n → B' k = B k) (h2 : B' n = bel B n kd a b) :
    ∀ k, k < n + 1 → upT t n kd a b c h 0 k ≤ 10 → BLk (upT t n kd a b c h) B' k := by
  intro k hk hk10
  by_cases hkn : k = n
  rotate_left
  · rw [upT_ne hkn] at hk10
    obtain ⟨q1, q2⟩ := hB k (by omega) hk10
    refine ⟨by rw [h1 k hkn]; exact q1, fun i hi hb => ?_⟩
    rw [h1 k hkn] at hb ⊢
    obtain ⟨q0, q3, q4⟩ := q2 i hi hb
    rw [upT_ne (by omega)]
    exact ⟨q0, q3, fun y hy => q4 y ((kid_up (by omega)).mp hy)⟩
  subst hkn
  have hk10' : kd ≤ 10 := by
    have : upT t k kd a b c h 0 k = kd := by unfold upT; rw [if_pos rfl]; rfl
    rw [this] at hk10; exact hk10
  have e0 : upT t k kd a b c h 0 k = kd := by unfold upT; rw [if_pos rfl]; rfl
  have e1 : upT t k kd a b c h 1 k = a := by unfold upT; rw [if_pos rfl]; rfl
  have e2 : upT t k kd a b c h 2 k = b := by unfold upT; rw [if_pos rfl]; rfl
  unfold BLk
  rw [h2]
  unfold bel
  have B10 : ∀ x, vp_in x k → (t 0 (ix x) ≤ 10) → BLk t B (ix x) := fun x hx hle => hB _ (vp_lt hx) hle
  have fa10 : finK kd → t 0 (ix a) ≤ 10 := by
    intro hfin
    rcases fitK_cases hf with e | e | e | e | e | e | e | e | e | e | e | e | e | e | e | e
    · rw [e] at hfin; exact absurd hfin finK0
    · rw [e] at hfin; exact absurd hfin finK1
    · exact Int32.le_trans ((fitK2 e).mp hf).1.2.2 (by decide)
    · exact Int32.le_trans ((fitK3 e).mp hf).1.2.2 (by decide)
    · rw [e] at hfin; exact absurd hfin finK4
    · exact Int32.le_trans ((fitK5 e).mp hf).1.2.2 (by decide)
    · exact Int32.le_trans ((fitK6 e).mp hf).1.2.2 (by decide)
    · rw [e] at hfin; exact absurd hfin finK7
    · exact Int32.le_trans ((fitK8 e).mp hf).2.2 (by decide)
    · exact Int32.le_trans ((fitK9 e).mp hf).1.2.2 (by decide)
    · exact Int32.le_trans ((fitK10 e).mp hf).1.2.2 (by decide)
    · rw [e] at hk10'; exact absurd hk10' (by decide)
    · rw [e] at hk10'; exact absurd hk10' (by decide)
    · rw [e] at hk10'; exact absurd hk10' (by decide)
    · rw [e] at hk10'; exact absurd hk10' (by decide)
    · rw [e] at hk10'; exact absurd hk10' (by decide)
  have fb10 : sinK kd → t 0 (ix b) ≤ 10 := by
    intro hfin
    rcases fitK_cases hf with e | e | e | e | e | e | e | e | e | e | e | e | e | e | e | e
    · rw [e] at hfin; exact absurd hfin sinK0
    · rw [e] at hfin; exact absurd hfin sinK1
    · exact Int32.le_trans ((fitK2 e).mp hf).2.2.2 (by decide)
    · exact Int32.le_trans ((fitK3 e).mp hf).2.2.2 (by decide)
    · exact Int32.le_trans ((fitK4 e).mp hf).2.2.2 (by decide)
    · exact Int32.le_trans ((fitK5 e).mp hf).2.2.2 (by decide)
    · exact Int32.le_trans ((fitK6 e).mp hf).2.2.2 (by decide)
    · exact Int32.le_trans ((fitK7 e).mp hf).2.2.2 (by decide)
    · rw [e] at hfin; exact absurd hfin sinK8
    · exact Int32.le_trans ((fitK9 e).mp hf).2.2.2 (by decide)
    · exact Int32.le_trans ((fitK10 e).mp hf).2.2.2 (by decide)
    · rw [e] at hk10'; exact absurd hk10' (by decide)
    · rw [e] at hk10'; exact absurd hk10' (by decide)
    · rw [e] at hk10'; exact absurd hk10' (by decide)
    · rw [e] at hk10'; exact absurd hk10' (by decide)
    · rw [e] at hk10'; exact absurd hk10' (by decide)
  have cb : ∀ {P : Prop} {w : Int64} {i : Nat}, i < 64 → bit (cif P w 0) i → P ∧ bit w i := by
    intro P w i hi hb
    by_cases hP : P
    · rw [cif_t hP] at hb; exact ⟨hP, hb⟩
    · rw [cif_f hP] at hb; exact absurd hb (bit_0 hi)
  refine ⟨by rw [bit_or (by omega), bit_or (by omega)]; exact Or.inl (Or.inl ((bit_one (by omega) (by omega)).mpr rfl)), fun i hi hb => ?_⟩
  rw [bit_or (by omega), bit_or (by omega), bit_one (by omega) (by omega)] at hb
  rcases hb with (hb | hb) | hb
  · subst hb
    refine ⟨Nat.le_refl _, by rw [e0]; exact hk10', fun y hy => ?_⟩
    unfold kid at hy
    rw [e0, e1, e2] at hy
    rcases hy with ⟨hfin, rfl⟩ | ⟨hsin, rfl⟩
    · have hv := fit_a hf hfin
      have hl := vp_lt hv
      rw [bit_or (by omega), bit_or (by omega), cif_t hfin]
      exact Or.inl (Or.inr (B10 _ hv (fa10 hfin)).1)
    · have hv := fit_b hf hsin
      have hl := vp_lt hv
      rw [bit_or (by omega), bit_or (by omega), cif_t hsin]
      exact Or.inr (B10 _ hv (fb10 hsin)).1
  · obtain ⟨hfin, hb⟩ := cb (by omega) hb
    have hv := fit_a hf hfin
    have hl := vp_lt hv
    have hBa := B10 _ hv (fa10 hfin)
    obtain ⟨hia, q3, q4⟩ := hBa.2 i hi hb
    rw [upT_ne (by omega)]
    refine ⟨by omega, q3, fun y hy => ?_⟩
    have hy := (kid_up (by omega)).mp hy
    have hky := kid_chk (hw.2 i (by omega)) q3 hy
    have hyl := vp_lt hky.1
    rw [bit_or (by omega), bit_or (by omega), cif_t hfin]
    exact Or.inl (Or.inr (q4 y hy))
  · obtain ⟨hsin, hb⟩ := cb (by omega) hb
    have hv := fit_b hf hsin
    have hl := vp_lt hv
    have hBa := B10 _ hv (fb10 hsin)
    obtain ⟨hia, q3, q4⟩ := hBa.2 i hi hb
    rw [upT_ne (by omega)]
    refine ⟨by omega, q3, fun y hy => ?_⟩
    have hy := (kid_up (by omega)).mp hy
    have hky := kid_chk (hw.2 i (by omega)) q3 hy
    have hyl := vp_lt hky.1
    rw [bit_or (by omega), bit_or (by omega), cif_t hsin]
    exact Or.inr (q4 y hy)
