/-! THE START: rows -/
theorem st_w {args : Array Value} {s : State} (hts : ∀ w ∈ lw_tbl, w.before args s = true) {w : Cond} (i : Nat) (h : tables_1[i]? = some w) : w.before args s = true := hts w (List.mem_append_right _ (List.mem_of_getElem? h))
theorem st_prim {args : Array Value} {s : State} {ty : FieldType} (h : (Cond.arrayClass ty).before args s = true) (hp : ∀ U cA, va_RA U cA ty = (U.vm.findClass ("[" ++ ty.toString) = some cA)) : ∃ cA, ArrOfT s cA ty ∧ va_RA s cA ty := by
  obtain ⟨cA, k, comp, h1, h2, h3⟩ := Cond.arrayClass_spec h
  exact ⟨cA, fun n z => ⟨fun k h => (by cases h), k, h2, comp, h3⟩, by rw [hp]; exact h1⟩
theorem st_obj {args : Array Value} {s : State} {C : String} (h : (Cond.arrayOver (.object C)).before args s = true) : ∃ cA, ArrOfT s cA (.object C) ∧ va_RA s cA (.object C) := by
  obtain ⟨comp, cA, k, h1, -, h2, h3, h4⟩ := Cond.arrayOver_spec h
  exact ⟨cA, fun n z => ⟨fun k h => (by cases h), k, h2, comp, h3⟩, k, comp, h2, h3, h1, h4⟩
theorem st_arr {args : Array Value} {s : State} (hts : ∀ w ∈ lw_tbl, w.before args s = true) : ∃ a0 a1 a2 a3 a4 a5 a6 a7 : ClassId, ∀ dA : Nat → ClassId, dA 0 = a0 → dA 1 = a1 → dA 2 = a2 → dA 3 = a3 → dA 4 = a4 → dA 5 = a5 → dA 6 = a6 → dA 7 = a7 → ∀ (k : Nat) (q : ClassId × FieldType), (ztys dA)[k]? = some q → ArrOfT s q.1 q.2 ∧ va_RA s q.1 q.2 := by
  obtain ⟨a0, h0⟩ := st_prim (ty := .int) (st_w hts 388 (by decide +kernel)) (fun _ _ => rfl)
  obtain ⟨a1, h1⟩ := st_obj (C := "MeshBiller$Zone") (st_w hts 47 (by decide +kernel))
  obtain ⟨a2, h2⟩ := st_obj (C := "MeshBiller$Cell") (st_w hts 49 (by decide +kernel))
  obtain ⟨a3, h3⟩ := st_obj (C := "MeshBiller$Wallet") (st_w hts 51 (by decide +kernel))
  obtain ⟨a4, h4⟩ := st_obj (C := "MeshBiller$Phone") (st_w hts 53 (by decide +kernel))
  obtain ⟨a5, h5⟩ := st_obj (C := "java/lang/Object") (st_w hts 162 (by decide +kernel))
  obtain ⟨a6, h6⟩ := st_prim (ty := .byte) (st_w hts 389 (by decide +kernel)) (fun _ _ => rfl)
  obtain ⟨a7, h7⟩ := st_prim (ty := .int) (st_w hts 388 (by decide +kernel)) (fun _ _ => rfl)
  refine ⟨a0, a1, a2, a3, a4, a5, a6, a7, fun dA e0 e1 e2 e3 e4 e5 e6 e7 k q hq => ?_⟩
  match k, hq with
  | 0, hq => cases hq; rw [e0]; exact h0
  | 1, hq => cases hq; rw [e1]; exact h1
  | 2, hq => cases hq; rw [e2]; exact h2
  | 3, hq => cases hq; rw [e3]; exact h3
  | 4, hq => cases hq; rw [e4]; exact h4
  | 5, hq => cases hq; rw [e5]; exact h5
  | 6, hq => cases hq; rw [e6]; exact h6
  | 7, hq => cases hq; rw [e7]; exact h7
  | k + 8, hq => simp [ztys] at hq
theorem st_over {args : Array Value} {s : State} (hts : ∀ w ∈ lw_tbl, w.before args s = true) : ∀ C ∈ zarrs, va_AO C s := by
  have key : ∀ C ∈ zarrs, Cond.arrayOver (.object C) ∈ lw_tbl := by decide +kernel
  intro C hC
  have h := hts _ (key C hC)
  exact h
theorem st_gF {args : Array Value} {s : State} (hts : ∀ w ∈ lw_tbl, w.before args s = true) : ∀ w ∈ gF, w.before #[] s = true := by
  intro w hw
  have h := List.mem_filter.mp hw
  have h2 := h.2
  simp only [Bool.and_eq_true] at h2
  exact va_tabs h2.1 rfl (hts w h.1)
