/-! THE START: all of zK, zSt -/
theorem st_mi {args : Array Value} {s : State} (h : (Jvm.Cond.and given_1 narrow_1).before args s = true) : ∃ mi : Nat, va_Mi "[Ljava/lang/Object;" mi s := by
  have hq := flat_of_before _ h (Cond.isRef (.mirror "[Ljava/lang/Object;")) (by decide +kernel)
  exact va_Mi.of hq
theorem st_nest {args : Array Value} {s : State} (hts : ∀ w ∈ lw_tbl, w.before args s = true) : va_Nw (.methodLinkNest "MeshBiller$Leg" 11 ⟨"MeshBiller$Slice", "<init>", "()V"⟩ "MeshBiller") s := by
  have h := st_w hts (w := .methodLinkNest "MeshBiller$Leg" 11 ⟨"MeshBiller$Slice", "<init>", "()V"⟩ "MeshBiller") 479 (by decide +kernel)
  exact h
theorem st_all {args : Array Value} {s : State} (hts : ∀ w ∈ lw_tbl, w.before args s = true) (h : (Jvm.Cond.and given_1 narrow_1).before args s = true) : ∃ (D : va_G) (dA : Nat → ClassId), zK D dA s ∧ zSt dA (fun q => s.heap.size ≤ q) s s.heap ∧ zNc s := by
  obtain ⟨D, hD⟩ := st_cls hts
  obtain ⟨a0, a1, a2, a3, a4, a5, a6, a7, hA⟩ := st_arr hts
  obtain ⟨t9, z9, T9⟩ := st_empty hts h
  obtain ⟨t7, z7, T7⟩ := st_ones hts h
  obtain ⟨t6, z6, T6⟩ := st_tens hts h
  obtain ⟨mi, hmi⟩ := st_mi h
  obtain ⟨dA, e0, e1, e2, e3, e4, e5, e6, e7, e96, e97, e98, e99⟩ : ∃ dA : Nat → ClassId, dA 0 = a0 ∧ dA 1 = a1 ∧ dA 2 = a2 ∧ dA 3 = a3 ∧ dA 4 = a4 ∧ dA 5 = a5 ∧ dA 6 = a6 ∧ dA 7 = a7 ∧ dA 96 = t6 ∧ dA 97 = t7 ∧ dA 98 = mi ∧ dA 99 = t9 := ⟨fun k => if k = 96 then t6 else if k = 97 then t7 else if k = 98 then mi else if k = 99 then t9 else [a0, a1, a2, a3, a4, a5, a6, a7].getD k 0, rfl, rfl, rfl, rfl, rfl, rfl, rfl, rfl, rfl, rfl, rfl, rfl⟩
  have he := st_exc hts h
  refine ⟨D, dA, ⟨hD, hA dA e0 e1 e2 e3 e4 e5 e6 e7⟩, ⟨he.1, he.2, st_str hts h, ?_, st_gF hts, st_nest hts, ?_, ⟨st_compact hts h, st_sioobe hts h⟩, ?_, ?_, ?_, ?_, st_over hts⟩, st_nc h⟩
  · rw [e99]; exact ⟨z9, T9⟩
  · rw [e98]; exact hmi
  · rw [e97]; exact z7
  · rw [e97]; exact T7
  · rw [e96]; exact z6
  · rw [e96]; exact T6
