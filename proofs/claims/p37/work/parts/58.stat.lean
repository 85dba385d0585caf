/-! THE START: statics -/
theorem st_eqi {args : Array Value} {s : State} {a : Term} {x : Int32} (h : (Cond.eq a (.int x)).before args s = true) : a.eval args s none [] s = some (.int x) := by
  simp only [Cond.before, Cond.holds, Cond.value] at h
  cases e : a.eval args s none [] s with
  | none => simp [e] at h
  | some v =>
    rw [e] at h
    cases v with
    | int y =>
      simp [Term.eval] at h
      rw [h]
    | _ => simp [Term.eval] at h
theorem st_exact {args : Array Value} {s : State} {a : Term} {C : String} (h : (Cond.exactly a C).before args s = true) : ∃ t : Nat, a.eval args s none [] s = some (.ref t) := by
  obtain ⟨t, _, _, _, h1, -⟩ := Cond.exactly_spec h
  exact ⟨t, h1⟩
theorem st_exc {args : Array Value} {s : State} (hts : ∀ w ∈ lw_tbl, w.before args s = true) (h : (Jvm.Cond.and given_1 narrow_1).before args s = true) : vx_Zq Bundle.tN "UNASSIGNED_STACK" Bundle.steD (fun q => s.heap.size ≤ q) s s.heap ∧ vx_Zq Bundle.tN "SUPPRESSED_SENTINEL" Bundle.listD (fun q => s.heap.size ≤ q) s s.heap :=
  ⟨vx_Zqof (args := args) (st_w hts 348 (by decide +kernel)) (st_w hts 15 (by decide +kernel)) (flat_of_before _ h _ (by decide +kernel)) (fun _ h => Nat.not_le.mpr h), vx_Zqof (args := args) (st_w hts 350 (by decide +kernel)) (st_w hts 15 (by decide +kernel)) (flat_of_before _ h _ (by decide +kernel)) (fun _ h => Nat.not_le.mpr h)⟩
theorem st_sioobe {args : Array Value} {s : State} (hts : ∀ w ∈ lw_tbl, w.before args s = true) (h : (Jvm.Cond.and given_1 narrow_1).before args s = true) : vx_Zq "jdk/internal/util/Preconditions" "SIOOBE_FORMATTER" "Ljava/util/function/BiFunction;" (fun q => s.heap.size ≤ q) s s.heap :=
  vx_Zqof (args := args) (st_w hts 1060 (by decide +kernel)) (st_w hts 26 (by decide +kernel)) (flat_of_before _ h _ (by decide +kernel)) (fun _ h => Nat.not_le.mpr h)
theorem st_compact {args : Array Value} {s : State} (hts : ∀ w ∈ lw_tbl, w.before args s = true) (h : (Jvm.Cond.and given_1 narrow_1).before args s = true) : va_Z "java/lang/String" "COMPACT_STRINGS" "Z" (.int 1) (fun q => s.heap.size ≤ q) s s.heap :=
  va_Zof (args := args) (st_w hts 985 (by decide +kernel)) (st_w hts 30 (by decide +kernel)) (st_eqi (flat_of_before _ h (Cond.eq (.static "java/lang/String" "COMPACT_STRINGS" "Z") (.int 1)) (by decide +kernel))) (fun _ h => Nat.not_le.mpr h)
set_option maxRecDepth 100000 in
theorem st_empty {args : Array Value} {s : State} (hts : ∀ w ∈ lw_tbl, w.before args s = true) (h : (Jvm.Cond.and given_1 narrow_1).before args s = true) : ∃ t : Nat, va_Z "java/util/ArrayList" "DEFAULTCAPACITY_EMPTY_ELEMENTDATA" "[Ljava/lang/Object;" (.ref t) (fun q => s.heap.size ≤ q) s s.heap ∧ va_T (.object "java/lang/Object") t 0 (fun _ => .null) (fun q => s.heap.size ≤ q) s s.heap := by
  have hq := flat_of_before _ h
  obtain ⟨t, e, hT⟩ := va_Tof (args := args) (s := s) (tm := .static "java/util/ArrayList" "DEFAULTCAPACITY_EMPTY_ELEMENTDATA" "[Ljava/lang/Object;") (ty := .object "java/lang/Object") (N := 0) (f := fun _ => .null) (A := fun q => s.heap.size ≤ q) (by decide) (hq _ (by decide +kernel)) (st_eqi (hq (Cond.eq (.length (.static "java/util/ArrayList" "DEFAULTCAPACITY_EMPTY_ELEMENTDATA" "[Ljava/lang/Object;")) (.int 0)) (by decide +kernel))) (fun j hj => absurd hj (Nat.not_lt_zero j)) (fun _ h => Nat.not_le.mpr h)
  exact ⟨t, va_Zof (args := args) (st_w hts 67 (by decide +kernel)) (hts (.initialized "java/util/ArrayList") (by decide +kernel)) e (fun _ h => Nat.not_le.mpr h), hT⟩
theorem st_onesL : ((flatC (Jvm.Cond.and given_1 narrow_1)).drop 18).take 100 = (List.range 100).map (fun j => Cond.eq (.elem (.static "java/lang/Integer" "DigitOnes" "[B") (.int (Int32.ofNat j))) (.int (nI (48 + j % 10)))) := by decide +kernel
theorem st_tensL : ((flatC (Jvm.Cond.and given_1 narrow_1)).drop 121).take 100 = (List.range 100).map (fun j => Cond.eq (.elem (.static "java/lang/Integer" "DigitTens" "[B") (.int (Int32.ofNat j))) (.int (nI (48 + j / 10)))) := by decide +kernel
theorem st_onesW (j : Nat) (hj : j < 100) : Cond.eq (.elem (.static "java/lang/Integer" "DigitOnes" "[B") (.int (Int32.ofNat j))) (.int (nI (48 + j % 10))) ∈ flatC (Jvm.Cond.and given_1 narrow_1) := by
  refine List.mem_of_mem_drop (i := 18) (List.mem_of_mem_take (i := 100) ?_)
  rw [st_onesL]
  exact List.mem_map.mpr ⟨j, List.mem_range.mpr hj, rfl⟩
theorem st_tensW (j : Nat) (hj : j < 100) : Cond.eq (.elem (.static "java/lang/Integer" "DigitTens" "[B") (.int (Int32.ofNat j))) (.int (nI (48 + j / 10))) ∈ flatC (Jvm.Cond.and given_1 narrow_1) := by
  refine List.mem_of_mem_drop (i := 121) (List.mem_of_mem_take (i := 100) ?_)
  rw [st_tensL]
  exact List.mem_map.mpr ⟨j, List.mem_range.mpr hj, rfl⟩
theorem st_ones {args : Array Value} {s : State} (hts : ∀ w ∈ lw_tbl, w.before args s = true) (h : (Jvm.Cond.and given_1 narrow_1).before args s = true) : ∃ t : Nat, va_Z "java/lang/Integer" "DigitOnes" "[B" (.ref t) (fun q => s.heap.size ≤ q) s s.heap ∧ va_T .byte t 100 (fun j => .int (nI (48 + j % 10))) (fun q => s.heap.size ≤ q) s s.heap := by
  have hq := flat_of_before _ h
  obtain ⟨t, e, hT⟩ := va_Tof (args := args) (s := s) (tm := .static "java/lang/Integer" "DigitOnes" "[B") (ty := .byte) (N := 100) (f := fun j => .int (nI (48 + j % 10))) (A := fun q => s.heap.size ≤ q) (by decide) (hq _ (by decide +kernel)) (st_eqi (hq (Cond.eq (.length (.static "java/lang/Integer" "DigitOnes" "[B")) (.int 100)) (by decide +kernel))) (fun j hj => st_eqi (hq _ (st_onesW j hj))) (fun _ h => Nat.not_le.mpr h)
  exact ⟨t, va_Zof (args := args) (st_w hts 1097 (by decide +kernel)) (st_w hts 34 (by decide +kernel)) e (fun _ h => Nat.not_le.mpr h), hT⟩
theorem st_tens {args : Array Value} {s : State} (hts : ∀ w ∈ lw_tbl, w.before args s = true) (h : (Jvm.Cond.and given_1 narrow_1).before args s = true) : ∃ t : Nat, va_Z "java/lang/Integer" "DigitTens" "[B" (.ref t) (fun q => s.heap.size ≤ q) s s.heap ∧ va_T .byte t 100 (fun j => .int (nI (48 + j / 10))) (fun q => s.heap.size ≤ q) s s.heap := by
  have hq := flat_of_before _ h
  obtain ⟨t, e, hT⟩ := va_Tof (args := args) (s := s) (tm := .static "java/lang/Integer" "DigitTens" "[B") (ty := .byte) (N := 100) (f := fun j => .int (nI (48 + j / 10))) (A := fun q => s.heap.size ≤ q) (by decide) (hq _ (by decide +kernel)) (st_eqi (hq (Cond.eq (.length (.static "java/lang/Integer" "DigitTens" "[B")) (.int 100)) (by decide +kernel))) (fun j hj => st_eqi (hq _ (st_tensW j hj))) (fun _ h => Nat.not_le.mpr h)
  exact ⟨t, va_Zof (args := args) (st_w hts 1099 (by decide +kernel)) (st_w hts 34 (by decide +kernel)) e (fun _ h => Nat.not_le.mpr h), hT⟩
theorem st_strW : ∀ q ∈ zstrs, Cond.exactly (.string "MeshBiller" q.1) "java/lang/String" ∈ flatC (Jvm.Cond.and given_1 narrow_1) ∧ Cond.stringRef "MeshBiller" q.1 q.2 ∈ lw_tbl := by decide +kernel
theorem st_str {args : Array Value} {s : State} (hts : ∀ w ∈ lw_tbl, w.before args s = true) (h : (Jvm.Cond.and given_1 narrow_1).before args s = true) : ∀ q ∈ zstrs, ∃ a, vk_R "MeshBiller" q.1 q.2 a s := by
  intro q hq
  obtain ⟨a, e⟩ := st_exact (flat_of_before _ h _ (st_strW q hq).1)
  exact ⟨a, vk_R.of (A := args) (hts _ (st_strW q hq).2) e⟩
