/-! WHAT THE STATEMENT GIVES OF THE START -/
set_option maxRecDepth 100000 in
theorem ls_0 : Cond.laysStatic "PromiseDesk" "WORD_A" "[I" ∈ lw_tbl := List.mem_of_getElem? (i := 178) rfl
set_option maxRecDepth 100000 in
theorem ls_1 : Cond.laysStatic "PromiseDesk" "WORD_B" "[I" ∈ lw_tbl := List.mem_of_getElem? (i := 191) rfl
set_option maxRecDepth 100000 in
theorem ls_2 : Cond.laysStatic "PromiseDesk" "WORD_C" "[I" ∈ lw_tbl := List.mem_of_getElem? (i := 193) rfl
set_option maxRecDepth 100000 in
theorem in_pd : Cond.initialized "PromiseDesk" ∈ lw_tbl := List.mem_of_getElem? (i := 30) rfl
set_option maxRecDepth 100000 in
theorem in_tn : Cond.initialized Bundle.tN ∈ lw_tbl := List.mem_of_getElem? (i := 36) rfl
set_option maxRecDepth 100000 in
theorem ls_u : Cond.laysStatic Bundle.tN "UNASSIGNED_STACK" Bundle.steD ∈ lw_tbl := List.mem_of_getElem? (i := 221) rfl
set_option maxRecDepth 100000 in
theorem ls_s : Cond.laysStatic Bundle.tN "SUPPRESSED_SENTINEL" Bundle.listD ∈ lw_tbl := List.mem_of_getElem? (i := 223) rfl
set_option maxRecDepth 100000 in
theorem tab_0 {args : Array Value} {s : State} (hts : ∀ w ∈ lw_tbl, w.before args s = true) (h : (Jvm.Cond.and given_1 narrow_1).before args s = true) : ∃ t : Nat, va_Z "PromiseDesk" (wnm 0) "[I" (.ref t) (fun q => s.heap.size ≤ q) s s.heap ∧ va_T .int t 16 (fun i => .int (wtf 0 i)) (fun q => s.heap.size ≤ q) s s.heap := by
  have hs := flat_of_before _ h
  have hA : ∀ a : Nat, a < s.heap.size → ¬ s.heap.size ≤ a := fun a ha => Nat.not_le.mpr ha
  have harr : (Cond.arrayOf (.static "PromiseDesk" "WORD_A" "[I") .int).before args s = true := hs _ (by decide +kernel)
  have hlen : (Cond.eq (.length (.static "PromiseDesk" "WORD_A" "[I")) (.int 16)).before args s = true := hs _ (by decide +kernel)
  have hel : ∀ i : Nat, i < 16 → (Cond.eq (.elem (.static "PromiseDesk" "WORD_A" "[I") (.int (Int32.ofNat i))) (.int (wtf 0 i))).before args s = true := by
    intro i hi
    match i, hi with
    | 0, _ => exact hs _ (by decide +kernel)
    | 1, _ => exact hs _ (by decide +kernel)
    | 2, _ => exact hs _ (by decide +kernel)
    | 3, _ => exact hs _ (by decide +kernel)
    | 4, _ => exact hs _ (by decide +kernel)
    | 5, _ => exact hs _ (by decide +kernel)
    | 6, _ => exact hs _ (by decide +kernel)
    | 7, _ => exact hs _ (by decide +kernel)
    | 8, _ => exact hs _ (by decide +kernel)
    | 9, _ => exact hs _ (by decide +kernel)
    | 10, _ => exact hs _ (by decide +kernel)
    | 11, _ => exact hs _ (by decide +kernel)
    | 12, _ => exact hs _ (by decide +kernel)
    | 13, _ => exact hs _ (by decide +kernel)
    | 14, _ => exact hs _ (by decide +kernel)
    | 15, _ => exact hs _ (by decide +kernel)
    | i + 16, hi => exact absurd hi (by omega)
  obtain ⟨t, ht, hT⟩ := va_Tof (f := fun i => .int (wtf 0 i)) (A := fun q => s.heap.size ≤ q) (N := 16) (by decide) harr (va_eqt hlen) (fun i hi => va_eqt (hel i hi)) hA
  exact ⟨t, va_Zof (hts _ ls_0) (hts _ in_pd) ht hA, hT⟩
set_option maxRecDepth 100000 in
theorem tab_1 {args : Array Value} {s : State} (hts : ∀ w ∈ lw_tbl, w.before args s = true) (h : (Jvm.Cond.and given_1 narrow_1).before args s = true) : ∃ t : Nat, va_Z "PromiseDesk" (wnm 1) "[I" (.ref t) (fun q => s.heap.size ≤ q) s s.heap ∧ va_T .int t 16 (fun i => .int (wtf 1 i)) (fun q => s.heap.size ≤ q) s s.heap := by
  have hs := flat_of_before _ h
  have hA : ∀ a : Nat, a < s.heap.size → ¬ s.heap.size ≤ a := fun a ha => Nat.not_le.mpr ha
  have harr : (Cond.arrayOf (.static "PromiseDesk" "WORD_B" "[I") .int).before args s = true := hs _ (by decide +kernel)
  have hlen : (Cond.eq (.length (.static "PromiseDesk" "WORD_B" "[I")) (.int 16)).before args s = true := hs _ (by decide +kernel)
  have hel : ∀ i : Nat, i < 16 → (Cond.eq (.elem (.static "PromiseDesk" "WORD_B" "[I") (.int (Int32.ofNat i))) (.int (wtf 1 i))).before args s = true := by
    intro i hi
    match i, hi with
    | 0, _ => exact hs _ (by decide +kernel)
    | 1, _ => exact hs _ (by decide +kernel)
    | 2, _ => exact hs _ (by decide +kernel)
    | 3, _ => exact hs _ (by decide +kernel)
    | 4, _ => exact hs _ (by decide +kernel)
    | 5, _ => exact hs _ (by decide +kernel)
    | 6, _ => exact hs _ (by decide +kernel)
    | 7, _ => exact hs _ (by decide +kernel)
    | 8, _ => exact hs _ (by decide +kernel)
    | 9, _ => exact hs _ (by decide +kernel)
    | 10, _ => exact hs _ (by decide +kernel)
    | 11, _ => exact hs _ (by decide +kernel)
    | 12, _ => exact hs _ (by decide +kernel)
    | 13, _ => exact hs _ (by decide +kernel)
    | 14, _ => exact hs _ (by decide +kernel)
    | 15, _ => exact hs _ (by decide +kernel)
    | i + 16, hi => exact absurd hi (by omega)
  obtain ⟨t, ht, hT⟩ := va_Tof (f := fun i => .int (wtf 1 i)) (A := fun q => s.heap.size ≤ q) (N := 16) (by decide) harr (va_eqt hlen) (fun i hi => va_eqt (hel i hi)) hA
  exact ⟨t, va_Zof (hts _ ls_1) (hts _ in_pd) ht hA, hT⟩
set_option maxRecDepth 100000 in
theorem tab_2 {args : Array Value} {s : State} (hts : ∀ w ∈ lw_tbl, w.before args s = true) (h : (Jvm.Cond.and given_1 narrow_1).before args s = true) : ∃ t : Nat, va_Z "PromiseDesk" (wnm 2) "[I" (.ref t) (fun q => s.heap.size ≤ q) s s.heap ∧ va_T .int t 16 (fun i => .int (wtf 2 i)) (fun q => s.heap.size ≤ q) s s.heap := by
  have hs := flat_of_before _ h
  have hA : ∀ a : Nat, a < s.heap.size → ¬ s.heap.size ≤ a := fun a ha => Nat.not_le.mpr ha
  have harr : (Cond.arrayOf (.static "PromiseDesk" "WORD_C" "[I") .int).before args s = true := hs _ (by decide +kernel)
  have hlen : (Cond.eq (.length (.static "PromiseDesk" "WORD_C" "[I")) (.int 16)).before args s = true := hs _ (by decide +kernel)
  have hel : ∀ i : Nat, i < 16 → (Cond.eq (.elem (.static "PromiseDesk" "WORD_C" "[I") (.int (Int32.ofNat i))) (.int (wtf 2 i))).before args s = true := by
    intro i hi
    match i, hi with
    | 0, _ => exact hs _ (by decide +kernel)
    | 1, _ => exact hs _ (by decide +kernel)
    | 2, _ => exact hs _ (by decide +kernel)
    | 3, _ => exact hs _ (by decide +kernel)
    | 4, _ => exact hs _ (by decide +kernel)
    | 5, _ => exact hs _ (by decide +kernel)
    | 6, _ => exact hs _ (by decide +kernel)
    | 7, _ => exact hs _ (by decide +kernel)
    | 8, _ => exact hs _ (by decide +kernel)
    | 9, _ => exact hs _ (by decide +kernel)
    | 10, _ => exact hs _ (by decide +kernel)
    | 11, _ => exact hs _ (by decide +kernel)
    | 12, _ => exact hs _ (by decide +kernel)
    | 13, _ => exact hs _ (by decide +kernel)
    | 14, _ => exact hs _ (by decide +kernel)
    | 15, _ => exact hs _ (by decide +kernel)
    | i + 16, hi => exact absurd hi (by omega)
  obtain ⟨t, ht, hT⟩ := va_Tof (f := fun i => .int (wtf 2 i)) (A := fun q => s.heap.size ≤ q) (N := 16) (by decide) harr (va_eqt hlen) (fun i hi => va_eqt (hel i hi)) hA
  exact ⟨t, va_Zof (hts _ ls_2) (hts _ in_pd) ht hA, hT⟩
set_option maxRecDepth 100000 in
theorem Bx_of {args : Array Value} {s : State} {l : Launch} (hst : l.stackTraces = false) (hts : ∀ w ∈ lw_tbl, w.before args s = true) (h : (Jvm.Cond.and given_1 narrow_1).before args s = true) : (∃ ad1 : Nat → Nat → Nat, Bx l s ad1) ∧ va_Nc "java/lang/IllegalStateException" "java/lang/IllegalArgumentException" s := by
  have hs := flat_of_before _ h
  have hA : ∀ a : Nat, a < s.heap.size → ¬ s.heap.size ≤ a := fun a ha => Nat.not_le.mpr ha
  obtain ⟨t0, z0, T0⟩ := tab_0 hts h
  obtain ⟨t1, z1, T1⟩ := tab_1 hts h
  obtain ⟨t2, z2, T2⟩ := tab_2 hts h
  refine ⟨⟨fun g _ => if g = 40 then t0 else if g = 41 then t1 else t2, hst, fun j hj => ?_, ?_, ?_⟩, va_Nc.of (args := args) (hs _ (by decide +kernel))⟩
  · match j, hj with
    | 0, _ => exact ⟨z0, T0⟩
    | 1, _ => exact ⟨z1, T1⟩
    | 2, _ => exact ⟨z2, T2⟩
  · exact vx_Zqof (args := args) (hts _ ls_u) (hts _ in_tn) (hs _ (by decide +kernel)) hA
  · exact vx_Zqof (args := args) (hts _ ls_s) (hts _ in_tn) (hs _ (by decide +kernel)) hA
