/-! THE START: classes, and what is not castable -/
theorem st_ws1 : ∀ w ∈ u_ws RJ4 TJ4 4, w ∈ lw_tbl := by decide +kernel
theorem st_cls {args : Array Value} {s : State} (hts : ∀ w ∈ lw_tbl, w.before args s = true) : ∃ D : va_G, ∀ (k : Nat) (q : vw_C), vwCl[k]? = some q → u_Kn s q.1 q.2.1 q.2.2 (D.1 k) (D.2 k) := by
  have hg : ∀ w ∈ gT, w.before args s = true := fun w h => hts w (List.mem_filter.mp h).1
  obtain ⟨c0, i0, h0⟩ := u_known (C := RJ4) (T := TJ4) (N := 4) (n := 4) hts st_ws1 (hts (.instantiable RJ4 4) (List.mem_append_right _ (List.mem_of_getElem? (show tables_1[976]? = some (Cond.instantiable RJ4 4) by decide +kernel))))
  obtain ⟨c1, i1, h1⟩ := u_known (C := RJ4) (T := TJ4) (N := 4) (n := 4) hts st_ws1 (hts (.instantiable RJ4 4) (List.mem_append_right _ (List.mem_of_getElem? (show tables_1[976]? = some (Cond.instantiable RJ4 4) by decide +kernel))))
  obtain ⟨c2, i2, h2⟩ := u_known (C := RJx4a65c) (T := TJx4a65c) (N := 3) (n := 3) hg rj_ws (hts (.instantiable RJx4a65c 3) (List.mem_append_right _ (List.mem_of_getElem? (show tables_1[55]? = some (Cond.instantiable RJx4a65c 3) by decide +kernel))))
  obtain ⟨c3, i3, h3⟩ := u_known (C := RX0) (T := TX0) (N := 4) (n := 4) hg rx0_ws (hts (.instantiable RX0 4) (List.mem_append_right _ (List.mem_of_getElem? (show tables_1[820]? = some (Cond.instantiable RX0 4) by decide +kernel))))
  obtain ⟨c4, i4, h4⟩ := u_known (C := RX1) (T := TX1) (N := 3) (n := 3) hg rx1_ws (hts (.instantiable RX1 3) (List.mem_append_right _ (List.mem_of_getElem? (show tables_1[446]? = some (Cond.instantiable RX1 3) by decide +kernel))))
  obtain ⟨c5, i5, h5⟩ := u_known (C := RX2) (T := TX2) (N := 4) (n := 4) hg rx2_ws (hts (.instantiable RX2 4) (List.mem_append_right _ (List.mem_of_getElem? (show tables_1[192]? = some (Cond.instantiable RX2 4) by decide +kernel))))
  obtain ⟨c6, i6, h6⟩ := u_known (C := RX3) (T := TX3) (N := 3) (n := 3) hg rx3_ws (hts (.instantiable RX3 3) (List.mem_append_right _ (List.mem_of_getElem? (show tables_1[555]? = some (Cond.instantiable RX3 3) by decide +kernel))))
  obtain ⟨c7, i7, h7⟩ := u_known (C := RX4) (T := TX4) (N := 12) (n := 12) hg rx4_ws (hts (.instantiable RX4 12) (List.mem_append_right _ (List.mem_of_getElem? (show tables_1[472]? = some (Cond.instantiable RX4 12) by decide +kernel))))
  obtain ⟨c8, i8, h8⟩ := u_known (C := RX5) (T := TX5) (N := 7) (n := 7) hg rx5_ws (hts (.instantiable RX5 7) (List.mem_append_right _ (List.mem_of_getElem? (show tables_1[239]? = some (Cond.instantiable RX5 7) by decide +kernel))))
  obtain ⟨c9, i9, h9⟩ := u_known (C := RX6) (T := TX6) (N := 2) (n := 2) hg rx6_ws (hts (.instantiable RX6 2) (List.mem_append_right _ (List.mem_of_getElem? (show tables_1[86]? = some (Cond.instantiable RX6 2) by decide +kernel))))
  obtain ⟨c10, i10, h10⟩ := u_known (C := RX7) (T := TX7) (N := 2) (n := 2) hg rx7_ws (hts (.instantiable RX7 2) (List.mem_append_right _ (List.mem_of_getElem? (show tables_1[94]? = some (Cond.instantiable RX7 2) by decide +kernel))))
  obtain ⟨c11, i11, h11⟩ := u_known (C := RX8) (T := TX8) (N := 3) (n := 3) hg rx8_ws (hts (.instantiable RX8 3) (List.mem_append_right _ (List.mem_of_getElem? (show tables_1[478]? = some (Cond.instantiable RX8 3) by decide +kernel))))
  obtain ⟨c12, i12, h12⟩ := u_known (C := RX9) (T := TX9) (N := 4) (n := 4) hg rx9_ws (hts (.instantiable RX9 4) (List.mem_append_right _ (List.mem_of_getElem? (show tables_1[215]? = some (Cond.instantiable RX9 4) by decide +kernel))))
  obtain ⟨c13, i13, h13⟩ := u_known (C := RX10) (T := TX10) (N := 3) (n := 3) hg rx10_ws (hts (.instantiable RX10 3) (List.mem_append_right _ (List.mem_of_getElem? (show tables_1[80]? = some (Cond.instantiable RX10 3) by decide +kernel))))
  obtain ⟨c14, i14, h14⟩ := u_known (C := RX11) (T := TX11) (N := 9) (n := 9) hg rx11_ws (hts (.instantiable RX11 9) (List.mem_append_right _ (List.mem_of_getElem? (show tables_1[39]? = some (Cond.instantiable RX11 9) by decide +kernel))))
  refine ⟨(fun k => [c0, c1, c2, c3, c4, c5, c6, c7, c8, c9, c10, c11, c12, c13, c14].getD k 0, fun k => [i0, i1, i2, i3, i4, i5, i6, i7, i8, i9, i10, i11, i12, i13, i14].getD k (fun _ => 0)), fun k q hq => ?_⟩
  match k, hq with
  | 0, hq => cases hq; exact h0
  | 1, hq => cases hq; exact h1
  | 2, hq => cases hq; exact h2
  | 3, hq => cases hq; exact h3
  | 4, hq => cases hq; exact h4
  | 5, hq => cases hq; exact h5
  | 6, hq => cases hq; exact h6
  | 7, hq => cases hq; exact h7
  | 8, hq => cases hq; exact h8
  | 9, hq => cases hq; exact h9
  | 10, hq => cases hq; exact h10
  | 11, hq => cases hq; exact h11
  | 12, hq => cases hq; exact h12
  | 13, hq => cases hq; exact h13
  | 14, hq => cases hq; exact h14
  | k + 15, hq => simp at hq
theorem st_nc {args : Array Value} {s : State} (h : (Jvm.Cond.and given_1 narrow_1).before args s = true) : zNc s := by
  have hq := flat_of_before _ h
  intro a b h1 h2 h3 h4 hab
  rcases (show a = 1 ∨ a = 2 ∨ a = 3 by omega) with rfl | rfl | rfl <;> rcases (show b = 2 ∨ b = 3 by omega) with rfl | rfl
  · exact va_Nc.of (hq (Cond.not (.castable (exn 1) (exn 2))) (by decide +kernel))
  · exact va_Nc.of (hq (Cond.not (.castable (exn 1) (exn 3))) (by decide +kernel))
  · exact absurd rfl hab
  · exact va_Nc.of (hq (Cond.not (.castable (exn 2) (exn 3))) (by decide +kernel))
  · exact va_Nc.of (hq (Cond.not (.castable (exn 3) (exn 2))) (by decide +kernel))
  · exact absurd rfl hab
