/-! STRINGBUILDER: its own members, and beside the tables of the class -/
theorem g_1269 : Cond.methodLink RJ4 50 yJ5_append_3fe6f ∈ gT := gT_t 1009 (by decide +kernel) rfl
theorem g_1270 : Cond.instanceMethod yJ5_append_3fe6f ∈ gT := gT_t 1010 (by decide +kernel) rfl
theorem g_1271 : Cond.code yJ5_append_3fe6f cJ5_append_3fe6f 2 (some (.object "java/lang/AbstractStringBuilder")) ∈ gT := gT_t 1011 (by decide +kernel) rfl
theorem g_1282 : Cond.static yJ0_checkIndex_df160 ∈ gT := gT_t 1080 (by decide +kernel) rfl
theorem g_1283 : Cond.code yJ0_checkIndex_df160 cJ0_checkIndex_df160 2 none ∈ gT := gT_t 1081 (by decide +kernel) rfl
theorem g_1294 : Cond.methodLink RJ4 329 yJ5_charAt_5068e ∈ gT := gT_t 1131 (by decide +kernel) rfl
theorem g_1295 : Cond.instanceMethod yJ5_charAt_5068e ∈ gT := gT_t 1132 (by decide +kernel) rfl
theorem g_1296 : Cond.code yJ5_charAt_5068e cJ5_charAt_5068e 5 (some .char) ∈ gT := gT_t 1133 (by decide +kernel) rfl
theorem g_1297 : Cond.methodLink RJ5 138 Lib.Math.min.name ∈ gT := gT_t 1134 (by decide +kernel) rfl
theorem g_1298 : Cond.methodLink RJ5 144 yJ0_checkIndex_df160 ∈ gT := gT_t 1135 (by decide +kernel) rfl
theorem g_27 : Cond.initialized RJ0 ∈ gT := gT_t 30 (by decide +kernel) rfl
theorem g_590 : Cond.methodLink RJ4 1 yJ5_init_d00df ∈ gT := gT_t 980 (by decide +kernel) rfl
theorem g_591 : Cond.instanceMethod yJ5_init_d00df ∈ gT := gT_t 981 (by decide +kernel) rfl
theorem g_592 : Cond.code yJ5_init_d00df cJ5_init_d00df 2 none ∈ gT := gT_t 982 (by decide +kernel) rfl
theorem g_593 : Cond.methodLink RJ5 3 Lib.objectInit ∈ gT := gT_t 983 (by decide +kernel) rfl
theorem g_726 : Cond.methodLink RJ4 53 yJ5_append_c97b9 ∈ gT := gT_t 1087 (by decide +kernel) rfl
theorem g_727 : Cond.instanceMethod yJ5_append_c97b9 ∈ gT := gT_t 1088 (by decide +kernel) rfl
theorem g_728 : Cond.code yJ5_append_c97b9 cJ5_append_c97b9 4 (some (.object "java/lang/AbstractStringBuilder")) ∈ gT := gT_t 1089 (by decide +kernel) rfl
theorem g_767 : Cond.instanceMethod yJ5_length_8abf5 ∈ gT := gT_t 1125 (by decide +kernel) rfl
theorem g_772 : Cond.methodLink RJ4 343 yJ5_length_8abf5 ∈ gT := gT_t 1124 (by decide +kernel) rfl
theorem g_773 : Cond.code yJ5_length_8abf5 cJ5_length_8abf5 1 (some .int) ∈ gT := gT_t 1126 (by decide +kernel) rfl
theorem hd_yJ0_checkIndex_df160 : yJ0_checkIndex_df160.cls = RJ0 ∧ yJ0_checkIndex_df160.cls ≠ "java/lang/invoke/MethodHandle" ∧ yJ0_checkIndex_df160.cls ≠ "java/lang/invoke/VarHandle" ∧ (parseMethodDescriptor yJ0_checkIndex_df160.desc).map (fun d => d.parameters.length) = some 2 := by decide +kernel
theorem hd_yJ5_append_3fe6f : yJ5_append_3fe6f.cls = RJ5 ∧ yJ5_append_3fe6f.cls ≠ "java/lang/invoke/MethodHandle" ∧ yJ5_append_3fe6f.cls ≠ "java/lang/invoke/VarHandle" ∧ (parseMethodDescriptor yJ5_append_3fe6f.desc).map (fun d => d.parameters.length) = some 1 := by decide +kernel
theorem hd_yJ5_append_c97b9 : yJ5_append_c97b9.cls = RJ5 ∧ yJ5_append_c97b9.cls ≠ "java/lang/invoke/MethodHandle" ∧ yJ5_append_c97b9.cls ≠ "java/lang/invoke/VarHandle" ∧ (parseMethodDescriptor yJ5_append_c97b9.desc).map (fun d => d.parameters.length) = some 1 := by decide +kernel
theorem hd_yJ5_charAt_5068e : yJ5_charAt_5068e.cls = RJ5 ∧ yJ5_charAt_5068e.cls ≠ "java/lang/invoke/MethodHandle" ∧ yJ5_charAt_5068e.cls ≠ "java/lang/invoke/VarHandle" ∧ (parseMethodDescriptor yJ5_charAt_5068e.desc).map (fun d => d.parameters.length) = some 1 := by decide +kernel
theorem hd_yJ5_init_d00df : yJ5_init_d00df.name = "<init>" ∧ yJ5_init_d00df.cls ≠ "java/lang/invoke/MethodHandle" ∧ yJ5_init_d00df.cls ≠ "java/lang/invoke/VarHandle" ∧ (parseMethodDescriptor yJ5_init_d00df.desc).map (fun d => d.parameters.length) = some 1 := by decide +kernel
theorem hd_yJ5_length_8abf5 : yJ5_length_8abf5.cls = RJ5 ∧ yJ5_length_8abf5.cls ≠ "java/lang/invoke/MethodHandle" ∧ yJ5_length_8abf5.cls ≠ "java/lang/invoke/VarHandle" ∧ (parseMethodDescriptor yJ5_length_8abf5.desc).map (fun d => d.parameters.length) = some 0 := by decide +kernel
theorem hat_u1 : [Cond.sameMethod yJ5_append_3fe6f.cls yJ5_append_3fe6f.cls yJ5_append_3fe6f.name yJ5_append_3fe6f.desc, Cond.superclass RJ4 yJ5_append_3fe6f.cls].all (fun w => decide (w ∈ lw_tbl) && (goodWord w || (w.onTables && w.faceAtom))) = true := by decide +kernel
theorem hat_u2 : [Cond.sameMethod yJ5_append_c97b9.cls yJ5_append_c97b9.cls yJ5_append_c97b9.name yJ5_append_c97b9.desc, Cond.superclass RJ4 yJ5_append_c97b9.cls].all (fun w => decide (w ∈ lw_tbl) && (goodWord w || (w.onTables && w.faceAtom))) = true := by decide +kernel
theorem hat_u3 : [Cond.sameMethod yJ5_length_8abf5.cls yJ5_length_8abf5.cls yJ5_length_8abf5.name yJ5_length_8abf5.desc, Cond.superclass RJ4 yJ5_length_8abf5.cls].all (fun w => decide (w ∈ lw_tbl) && (goodWord w || (w.onTables && w.faceAtom))) = true := by decide +kernel
theorem hat_u4 : [Cond.sameMethod yJ5_charAt_5068e.cls yJ5_charAt_5068e.cls yJ5_charAt_5068e.name yJ5_charAt_5068e.desc, Cond.superclass RJ4 yJ5_charAt_5068e.cls].all (fun w => decide (w ∈ lw_tbl) && (goodWord w || (w.onTables && w.faceAtom))) = true := by decide +kernel
theorem sb_toN {x : Int32} {n : Nat} (h0 : ¬ x < 0) (hn : n < 2 ^ 31) : (nI n ≤ x ↔ n ≤ x.toNatClampNeg) := by
  obtain ⟨j, hj, rfl⟩ := nI_of h0
  rw [nI_clamp hj]
  exact nI_leI hn hj
theorem z_callTv {p : Program} {l : Launch} {e : Env} {R : Room} {s : State} {m : MethodId} {args : Array Value} {below : List Frame} {meth : Method} {c : Code} {A : Nat → Prop} {G : Heap → Prop} {cells slots : Nat} {Q : State → Prop} {cc : ByteArray} {own : String} {D : va_G} {dA : Nat → ClassId} {pc : Nat} {lo : List (Nat × Value)} {ll : List (Nat × Int64)} {rest : List Value} (X : zc p l s m args meth c cc own D dA A) {y : MethodName} {b : ByteArray} {maxL idx nA mc ms : Nat} {ret : Option FieldType} {rm : Room} {As st : List Value} {S : Type} {pu : S → Prop} {G1 : S → Heap → Prop} (hM : Met l y (.code y b maxL ret :: gT) rm (va_Pc As (zB D dA A s.heap.size G)) (va_Qv pu (fun u t => G1 u t.heap) A) mc ms A) (h1 : Cond.methodLink own idx y ∈ gT) (h2 : Cond.static y ∈ gT) (h4 : Cond.initialized y.cls ∈ gT) (h5 : Cond.code y b maxL ret ∈ gT) (hd : y.cls ≠ "java/lang/invoke/MethodHandle" ∧ y.cls ≠ "java/lang/invoke/VarHandle" ∧ (parseMethodDescriptor y.desc).map (fun d => d.parameters.length) = some nA) (hrm : rm.cells = mc ∧ rm.slots = ms ∧ rm.frames + 1 ≤ R.frames ∧ 8 + (maxL + 11) + rm.locals ≤ R.locals) (hn : As.length = nA) (hst : st = As.reverse ++ rest) (hcat : (rest.map fun v => v.category).sum ≤ 8) (hdg : decode cc pc = .ok (.invokestatic idx, 3)) (hf : cells + mc ≤ R.cells ∧ slots + ms ≤ R.slots)
    (k : ∀ u, pu u → zz p l e R s m args below meth c A (G1 u) (cells + mc) (slots + ms) Q (pc + 3) lo ll rest) : zz p l e R s m args below meth c A G cells slots Q pc lo ll st := by
  subst hst
  intro H locs ls hG hS hl hc
  exact va_callv (va_runS (As := As) (rest := rest) ⟨X.1, X.2.1, rfl, X.2.2.1, X.2.2.2.1⟩ hM (va_cwS nA X.2.2.2.1 (z_gT h1 h2 h4 h5) rfl hrm.1 hrm.2.1 hd hrm.2.2) ⟨zB_blind, fun U hU hW => ⟨rfl, zB_at X hG hS U hU hW⟩⟩ rfl hn hl.1 rfl (lv_room hcat) hdg hf) hS (fun _ _ h => h) (fun _ h => h) (fun u t H1 locs1 ht _ hp hB _ _ hS1 => k u hp H1 locs1 ls (by rw [← ht]; exact hB) hS1 hl hc)
section SP
variable {l : Launch} {D : va_G} {dA : Nat → ClassId} {A : Nat → Prop} {n : Nat}
theorem sb_apC4 (hst : l.stackTraces = false) (hA : ∀ q, n ≤ q → A q) {b m : Nat} {f : Nat → Int32} {q x : Nat} {t : List Nat} (ht : sbt t m f) (hl : t.length + 1 ≤ 34) (hx : x < 128) : Met l yJ4_append_cf468 (.code yJ4_append_cf468 cJ4_append_cf468 2 (some (.object "java/lang/StringBuilder")) :: gT) ({ frames := 10, cells := 1, slots := 34, locals := 420 } : Room) (va_Pc [.ref q, .int (nI x)] (zB D dA A n (zw D A (sbz dA b m f q t.length) sbK))) (va_Qq (fun r (u : Nat × Nat × (Nat → Int32)) => r = some q ∧ sbt (t ++ [x]) u.2.1 u.2.2) (fun u s9 => zw D A (sbz dA u.1 u.2.1 u.2.2 q (t ++ [x]).length) sbK s9.heap) A) 1 34 A :=
  z_met (by decide) hA hst (Nat.le_of_ble_eq_true rfl) rfl rfl (fun p e s m9 below meth c X hml hr _ => by
    rw [List.length_append, List.length_singleton]
    refine z_aload_n X dJ4_append_cf468_0 rfl rfl ?_
    refine z_iload_n X dJ4_append_cf468_1 rfl rfl ?_
    refine z_callUq (As := [.int (nI x)]) (rest := []) (nA := 1) (mc := 1) (ms := 34) (rm := ({ frames := 9, cells := 1, slots := 34, locals := 378 } : Room)) (ro := fun _ => some q) (pu := fun (u : Nat × Nat × (Nat → Int32)) => sbt (t ++ [x]) u.2.1 u.2.2) (G1 := fun u => zw D A (sbz dA u.1 u.2.1 u.2.2 q (t.length + 1)) sbK) X (sb_apC5 X.2.2.2.2.2.2.2.2 X.2.2.2.2.2.2.1 ht hl hx) (z_cS X g_1269 g_1270 (z_hat hat_u1 X _ List.mem_cons_self) (z_hat hat_u1 X _ (List.mem_cons_of_mem _ List.mem_cons_self)) g_25 g_1271 (by decide) hd_yJ5_append_3fe6f.2 ⟨rfl, rfl, Nat.le_of_ble_eq_true rfl, Nat.le_of_ble_eq_true rfl⟩) rfl (sb_recv X) rfl (Nat.le_of_ble_eq_true rfl) dJ4_append_cf468_2 ⟨Nat.le_refl _, Nat.le_refl _⟩ (fun u hu => ?_)
    refine z_pop X dJ4_append_cf468_5 rfl ?_
    refine z_aload_n X dJ4_append_cf468_6 rfl rfl ?_
    exact z_aret (o := some q) X hr (Or.inl ⟨_, rfl⟩) (fun s9 hG hF _ => ⟨⟨_, u, rfl, ⟨rfl, hu⟩, hG⟩, hF⟩) dJ4_append_cf468_7)
theorem sb_apI4 (hst : l.stackTraces = false) (hA : ∀ q, n ≤ q → A q) {b m : Nat} {f : Nat → Int32} {q v : Nat} {t : List Nat} (ht : sbt t m f) (hl : t.length + sb_dg v ≤ 34) (hv : v ≤ 50000001) : Met l yJ4_append_bf812 (.code yJ4_append_bf812 cJ4_append_bf812 2 (some (.object "java/lang/StringBuilder")) :: gT) ({ frames := 10, cells := 1, slots := 34, locals := 420 } : Room) (va_Pc [.ref q, .int (nI v)] (zB D dA A n (zw D A (sbz dA b m f q t.length) sbK))) (va_Qq (fun r (u : Nat × Nat × (Nat → Int32)) => r = some q ∧ sbt (t ++ dgs v) u.2.1 u.2.2) (fun u s9 => zw D A (sbz dA u.1 u.2.1 u.2.2 q (t ++ dgs v).length) sbK s9.heap) A) 1 34 A :=
  z_met (by decide) hA hst (Nat.le_of_ble_eq_true rfl) rfl rfl (fun p e s m9 below meth c X hml hr _ => by
    rw [List.length_append, dgs_len]
    refine z_aload_n X dJ4_append_bf812_0 rfl rfl ?_
    refine z_iload_n X dJ4_append_bf812_1 rfl rfl ?_
    refine z_callUq (As := [.int (nI v)]) (rest := []) (nA := 1) (mc := 1) (ms := 34) (rm := ({ frames := 9, cells := 1, slots := 34, locals := 378 } : Room)) (ro := fun _ => some q) (pu := fun (u : Nat × Nat × (Nat → Int32)) => sbt (t ++ dgs v) u.2.1 u.2.2) (G1 := fun u => zw D A (sbz dA u.1 u.2.1 u.2.2 q (t.length + sb_dg v)) sbK) X (sb_apI5 X.2.2.2.2.2.2.2.2 X.2.2.2.2.2.2.1 ht hl hv) (z_cS X g_726 g_727 (z_hat hat_u2 X _ List.mem_cons_self) (z_hat hat_u2 X _ (List.mem_cons_of_mem _ List.mem_cons_self)) g_25 g_728 (by decide) hd_yJ5_append_c97b9.2 ⟨rfl, rfl, Nat.le_of_ble_eq_true rfl, Nat.le_of_ble_eq_true rfl⟩) rfl (sb_recv X) rfl (Nat.le_of_ble_eq_true rfl) dJ4_append_bf812_2 ⟨Nat.le_refl _, Nat.le_refl _⟩ (fun u hu => ?_)
    refine z_pop X dJ4_append_bf812_5 rfl ?_
    refine z_aload_n X dJ4_append_bf812_6 rfl rfl ?_
    exact z_aret (o := some q) X hr (Or.inl ⟨_, rfl⟩) (fun s9 hG hF _ => ⟨⟨_, u, rfl, ⟨rfl, hu⟩, hG⟩, hF⟩) dJ4_append_bf812_7)
theorem sb_len5 (hst : l.stackTraces = false) (hA : ∀ q, n ≤ q → A q) {b m : Nat} {f : Nat → Int32} {q k : Nat} : Met l yJ5_length_8abf5 (.code yJ5_length_8abf5 cJ5_length_8abf5 1 (some .int) :: gT) ({ frames := 1, cells := 0, slots := 0, locals := 42 } : Room) (va_Pc [.ref q] (zB D dA A n (zw D A (sbz dA b m f q k) sbK))) (va_Qi (fun r (_ : Unit) => r = nI k ∧ True) (fun (_ : Unit) t => zw D A (sbz dA b m f q k) sbK t.heap) A) 0 0 A :=
  z_met (by decide) hA hst (Nat.le_of_ble_eq_true rfl) rfl rfl (fun p e s m9 below meth c X hml hr _ => by
    refine z_aload_n X dJ5_length_8abf5_0 rfl rfl ?_
    refine w_get X 1 3 rj4_ws rfl rfl rfl g_606 (Or.inl rfl) rfl dJ5_length_8abf5_1 ?_
    exact z_iret X hr rfl (fun t hG hF _ => ⟨⟨_, (), rfl, ⟨rfl, trivial⟩, hG⟩, hF⟩) dJ5_length_8abf5_4)
theorem sb_len4 (hst : l.stackTraces = false) (hA : ∀ q, n ≤ q → A q) {b m : Nat} {f : Nat → Int32} {q k : Nat} : Met l yJ4_length_8abf5 (.code yJ4_length_8abf5 cJ4_length_8abf5 1 (some .int) :: gT) ({ frames := 2, cells := 0, slots := 0, locals := 84 } : Room) (va_Pc [.ref q] (zB D dA A n (zw D A (sbz dA b m f q k) sbK))) (va_Qi (fun r (_ : Unit) => r = nI k ∧ True) (fun (_ : Unit) t => zw D A (sbz dA b m f q k) sbK t.heap) A) 0 0 A :=
  z_met (by decide) hA hst (Nat.le_of_ble_eq_true rfl) rfl rfl (fun p e s m9 below meth c X hml hr _ => by
    refine z_aload_n X dJ4_length_8abf5_0 rfl rfl ?_
    refine z_callUi (As := []) (rest := []) (nA := 0) (mc := 0) (ms := 0) (rm := ({ frames := 1, cells := 0, slots := 0, locals := 42 } : Room)) (r0 := nI k) (pu := (fun (_ : Unit) => True)) (G1 := (fun _ => zw D A (sbz dA b m f q k) sbK)) X (sb_len5 X.2.2.2.2.2.2.2.2 X.2.2.2.2.2.2.1) (z_cS X g_772 g_767 (z_hat hat_u3 X _ List.mem_cons_self) (z_hat hat_u3 X _ (List.mem_cons_of_mem _ List.mem_cons_self)) g_25 g_773 (by decide) hd_yJ5_length_8abf5.2 ⟨rfl, rfl, Nat.le_of_ble_eq_true rfl, Nat.le_of_ble_eq_true rfl⟩) rfl (sb_recv X) rfl (Nat.le_of_ble_eq_true rfl) dJ4_length_8abf5_1 ⟨Nat.le_refl _, Nat.le_refl _⟩ (fun _ _ => ?_)
    exact z_iret X hr rfl (fun t hG hF _ => ⟨⟨_, (), rfl, ⟨rfl, trivial⟩, hG⟩, hF⟩) dJ4_length_8abf5_4)
theorem sb_chr5 (hst : l.stackTraces = false) (hA : ∀ q, n ≤ q → A q) {b m : Nat} {f : Nat → Int32} {q i : Nat} {t : List Nat} (ht : sbt t m f) (hi : i < t.length) : Met l yJ5_charAt_5068e (.code yJ5_charAt_5068e cJ5_charAt_5068e 5 (some .char) :: gT) ({ frames := 8, cells := 0, slots := 0, locals := 336 } : Room) (va_Pc [.ref q, .int (nI i)] (zB D dA A n (zw D A (sbz dA b m f q t.length) sbK))) (va_Qi (fun r (_ : Unit) => r = nI (t.getD i 0) ∧ True) (fun (_ : Unit) s9 => zw D A (sbz dA b m f q t.length) sbK s9.heap) A) 0 0 A :=
  z_met (by decide) hA hst (Nat.le_of_ble_eq_true rfl) rfl rfl (fun p e s m9 below meth c X hml hr _ => by
    obtain ⟨h1, h2, h3, h4, h5⟩ := ht
    have hc : t.getD i 0 < 128 := by
      rw [List.getD_eq_getElem?_getD, List.getElem?_eq_getElem hi]
      exact h4 _ (List.getElem_mem hi)
    obtain ⟨n1, n2, n3, n4, n5, n6⟩ := sb_nar _ hc
    refine z_aload_n X dJ5_charAt_5068e_0 rfl rfl ?_
    refine w_get X 1 1 rj4_ws rfl rfl rfl g_604 (Or.inl rfl) rfl dJ5_charAt_5068e_1 ?_
    refine z_istore_n (lo' := [(2, .int 0), (0, .ref q), (1, .int (nI i))]) X dJ5_charAt_5068e_4 rfl (by rw [hml]; decide) rfl rfl ?_
    refine z_aload_n X dJ5_charAt_5068e_5 rfl rfl ?_
    refine w_get X 1 0 rj4_ws rfl rfl rfl g_603 (Or.inl rfl) rfl dJ5_charAt_5068e_6 ?_
    refine z_astore_n (lo' := [(3, .ref b), (2, .int 0), (0, .ref q), (1, .int (nI i))]) X dJ5_charAt_5068e_9 rfl (by rw [hml]; decide) rfl rfl ?_
    refine z_aload_n X dJ5_charAt_5068e_10 rfl rfl ?_
    refine w_get X 1 3 rj4_ws rfl rfl rfl g_606 (Or.inl rfl) rfl dJ5_charAt_5068e_11 ?_
    refine z_aload_n X dJ5_charAt_5068e_14 rfl rfl ?_
    refine w_alenB X 0 rfl rfl dJ5_charAt_5068e_15 ?_
    refine z_iload_n X dJ5_charAt_5068e_16 rfl rfl ?_
    refine z_ishr X dJ5_charAt_5068e_17 ?_
    rw [sb_shr0]
    refine z_min X g_1297 g_165 g_9 g_166 (Nat.le_of_ble_eq_true rfl) (Nat.le_of_ble_eq_true rfl) ⟨Nat.le_refl _, Nat.le_refl _⟩ dJ5_charAt_5068e_18 ?_
    rw [if_neg (nI_nlt h2 (by omega))]
    refine z_istore (lo' := [(4, .int (nI t.length)), (3, .ref b), (2, .int 0), (0, .ref q), (1, .int (nI i))]) X dJ5_charAt_5068e_21 (by rw [hml]; decide) rfl rfl ?_
    refine z_iload_n X dJ5_charAt_5068e_23 rfl rfl ?_
    refine z_iload X dJ5_charAt_5068e_24 rfl ?_
    refine z_callTv (As := [.int (nI i), .int (nI t.length)]) (rest := []) (nA := 2) (mc := 0) (ms := 0) (rm := ({ frames := 7, cells := 0, slots := 0, locals := 294 } : Room)) (pu := (fun (_ : Unit) => True)) (G1 := (fun _ => zw D A (sbz dA b m f q t.length) sbK)) X (sb_chk X.2.2.2.2.2.2.2.2 X.2.2.2.2.2.2.1 (nI_pos (by omega)) (nI_lt hi (by omega))) g_1298 g_1282 g_27 g_1283 hd_yJ0_checkIndex_df160.2 ⟨rfl, rfl, Nat.le_of_ble_eq_true rfl, Nat.le_of_ble_eq_true rfl⟩ rfl rfl (Nat.le_of_ble_eq_true rfl) dJ5_charAt_5068e_26 ⟨Nat.le_refl _, Nat.le_refl _⟩ (fun _ _ => ?_)
    refine z_iload_n X dJ5_charAt_5068e_29 rfl rfl ?_
    refine z_if_ne (tgt := 42) X dJ5_charAt_5068e_30 (by decide) (fun _ => ?_) (fun q => absurd rfl q)
    refine z_aload_n X dJ5_charAt_5068e_33 rfl rfl ?_
    refine z_iload_n X dJ5_charAt_5068e_34 rfl rfl ?_
    refine w_bald X 0 (o := nI (t.getD i 0)) rfl (vp_in_nI (by omega) (by omega)) (by rw [nI_clamp (by omega)]; exact h5 i hi) dJ5_charAt_5068e_35 ?_
    refine z_sipush (v := 255) X dJ5_charAt_5068e_36 (by decide) ?_
    refine z_iand X dJ5_charAt_5068e_39 ?_
    rw [n4]
    refine z_i2c X n5 dJ5_charAt_5068e_40 ?_
    exact z_iret X hr (by show Value.int ((nI (t.getD i 0)).toUInt32 % 65536).toInt32 = _; rw [n5]) (fun t hG hF _ => ⟨⟨_, (), rfl, ⟨rfl, trivial⟩, hG⟩, hF⟩) dJ5_charAt_5068e_41)
theorem sb_chr4 (hst : l.stackTraces = false) (hA : ∀ q, n ≤ q → A q) {b m : Nat} {f : Nat → Int32} {q i : Nat} {t : List Nat} (ht : sbt t m f) (hi : i < t.length) : Met l yJ4_charAt_5068e (.code yJ4_charAt_5068e cJ4_charAt_5068e 2 (some .char) :: gT) ({ frames := 9, cells := 0, slots := 0, locals := 378 } : Room) (va_Pc [.ref q, .int (nI i)] (zB D dA A n (zw D A (sbz dA b m f q t.length) sbK))) (va_Qi (fun r (_ : Unit) => r = nI (t.getD i 0) ∧ True) (fun (_ : Unit) s9 => zw D A (sbz dA b m f q t.length) sbK s9.heap) A) 0 0 A :=
  z_met (by decide) hA hst (Nat.le_of_ble_eq_true rfl) rfl rfl (fun p e s m9 below meth c X hml hr _ => by
    have hc : t.getD i 0 < 128 := by
      rw [List.getD_eq_getElem?_getD, List.getElem?_eq_getElem hi]
      exact ht.2.2.2.1 _ (List.getElem_mem hi)
    obtain ⟨n1, n2, n3, n4, n5, n6⟩ := sb_nar _ hc
    refine z_aload_n X dJ4_charAt_5068e_0 rfl rfl ?_
    refine z_iload_n X dJ4_charAt_5068e_1 rfl rfl ?_
    refine z_callUi (As := [.int (nI i)]) (rest := []) (nA := 1) (mc := 0) (ms := 0) (rm := ({ frames := 8, cells := 0, slots := 0, locals := 336 } : Room)) (r0 := nI (t.getD i 0)) (pu := (fun (_ : Unit) => True)) (G1 := (fun _ => zw D A (sbz dA b m f q t.length) sbK)) X (sb_chr5 X.2.2.2.2.2.2.2.2 X.2.2.2.2.2.2.1 ht hi) (z_cS X g_1294 g_1295 (z_hat hat_u4 X _ List.mem_cons_self) (z_hat hat_u4 X _ (List.mem_cons_of_mem _ List.mem_cons_self)) g_25 g_1296 (by decide) hd_yJ5_charAt_5068e.2 ⟨rfl, rfl, Nat.le_of_ble_eq_true rfl, Nat.le_of_ble_eq_true rfl⟩) rfl (sb_recv X) rfl (Nat.le_of_ble_eq_true rfl) dJ4_charAt_5068e_2 ⟨Nat.le_refl _, Nat.le_refl _⟩ (fun _ _ => ?_)
    exact z_iret X hr (by show Value.int ((nI (t.getD i 0)).toUInt32 % 65536).toInt32 = _; rw [n5]) (fun t hG hF _ => ⟨⟨_, (), rfl, ⟨rfl, trivial⟩, hG⟩, hF⟩) dJ4_charAt_5068e_5)
theorem sb_init5 (hst : l.stackTraces = false) (hA : ∀ q, n ≤ q → A q) {q : Nat} : Met l yJ5_init_d00df (.code yJ5_init_d00df cJ5_init_d00df 2 none :: gT) ({ frames := 1, cells := 1, slots := 16, locals := 42 } : Room) (va_Pc [.ref q, .int 16] (zB D dA A n (zw D A [(q, .inr (1, [.null, .int 0, .int 0, .int 0]))] sbK))) (va_Qv (fun (_ : Nat) => True) (fun (u : Nat) s9 => zw D A (sbz dA u 16 (fun _ => 0) q 0) sbK s9.heap) A) 1 16 A :=
  z_met (by decide) hA hst (Nat.le_of_ble_eq_true rfl) rfl rfl (fun p e s m9 below meth c X hml hr _ => by
    refine z_aload_n X dJ5_init_d00df_0 rfl rfl ?_
    refine z_objInit X g_593 g_42 g_43 ⟨Nat.le_of_ble_eq_true rfl, Nat.le_of_ble_eq_true rfl⟩ dJ5_init_d00df_1 ?_
    refine z_compact X g_594 dJ5_init_d00df_4 ?_
    refine z_if_eq (tgt := 25) X dJ5_init_d00df_7 (by decide) (fun q => absurd q (by decide)) (fun _ => ?_)
    refine z_aload_n X dJ5_init_d00df_10 rfl rfl ?_
    refine z_iload_n X dJ5_init_d00df_11 rfl rfl ?_
    refine w_newB kf_sbK X (N' := 16) (by decide) (by decide) (by decide) ⟨Nat.le_refl _, Nat.le_refl _⟩ dJ5_init_d00df_12 (fun u => ?_)
    refine w_put kf_sbK X 0 0 (v := .ref u) (zs' := [(q, .inr (1, [.ref u, .int 0, .int 0, .int 0])), (u, .inl (dA 6, 16, .inl (fun _ => 0)))]) (ty := .array .byte) rj4_ws rfl rfl tyJ4_ok nmJ4 rfl rfl g_603 (Or.inl rfl) rfl rfl rfl rfl rfl dJ5_init_d00df_14 ?_
    refine z_aload_n X dJ5_init_d00df_17 rfl rfl ?_
    refine z_iconst (v := 0) X dJ5_init_d00df_18 (by decide) ?_
    refine w_put kf_sbK X 0 1 (v := .int 0) (zs' := [(q, .inr (1, [.ref u, .int 0, .int 0, .int 0])), (u, .inl (dA 6, 16, .inl (fun _ => 0)))]) (ty := .byte) rj4_ws rfl rfl tyJ4_ok nmJ4 rfl rfl g_604 (Or.inl rfl) rfl rfl rfl rfl rfl dJ5_init_d00df_19 ?_
    refine z_goto (tgt := 38) X dJ5_init_d00df_22 (by decide) ?_
    refine zz.conseq (G' := zw D A (sbz dA u 16 (fun _ => 0) q 0) sbK) (zw_drop [1, 0] rfl rfl rfl) ?_
    exact z_vret X hr (fun t hG hF _ => ⟨⟨u, rfl, trivial, hG⟩, hF⟩) dJ5_init_d00df_38)
theorem sb_init4 (hst : l.stackTraces = false) (hA : ∀ q, n ≤ q → A q) {q : Nat} : Met l yJ4_init_da8c8 (.code yJ4_init_da8c8 cJ4_init_da8c8 1 none :: gT) ({ frames := 2, cells := 1, slots := 16, locals := 84 } : Room) (va_Pc [.ref q] (zB D dA A n (zw D A [(q, .inr (1, [.null, .int 0, .int 0, .int 0]))] sbK))) (va_Qv (fun (_ : Nat) => True) (fun (u : Nat) s9 => zw D A (sbz dA u 16 (fun _ => 0) q 0) sbK s9.heap) A) 1 16 A :=
  z_met (by decide) hA hst (Nat.le_of_ble_eq_true rfl) rfl rfl (fun p e s m9 below meth c X hml hr _ => by
    refine z_aload_n X dJ4_init_da8c8_0 rfl rfl ?_
    refine z_bipush (v := 16) X dJ4_init_da8c8_1 (by decide) ?_
    refine z_callI (As := [.int 16]) (rest := []) (nA := 1) (mc := 1) (ms := 16) (rm := ({ frames := 1, cells := 1, slots := 16, locals := 42 } : Room)) (pu := fun (_ : Nat) => True) (G1 := fun u => zw D A (sbz dA u 16 (fun _ => 0) q 0) sbK) X (sb_init5 X.2.2.2.2.2.2.2.2 X.2.2.2.2.2.2.1) g_590 g_591 g_25 g_592 hd_yJ5_init_d00df ⟨rfl, rfl, Nat.le_of_ble_eq_true rfl, Nat.le_of_ble_eq_true rfl⟩ rfl rfl (Nat.le_of_ble_eq_true rfl) dJ4_init_da8c8_3 ⟨Nat.le_refl _, Nat.le_refl _⟩ (fun u _ => ?_)
    exact z_vret X hr (fun t hG hF _ => ⟨⟨u, rfl, trivial, hG⟩, hF⟩) dJ4_init_da8c8_6)
end SP
section SX
variable {D : va_G} {dA : Nat → ClassId} {A : Nat → Prop} {V : Rho} {L : Lst} {N : Cnt} {ad : Adr} {xs : va_W}
theorem cx_open2 {b m : Nat} {f : Nat → Int32} {q k : Nat} {H : Heap} (hG : cx D dA A V L N ad (sbz dA b m f q k ++ xs) H) : zw D (fun r => r = b ∨ r = q ∨ H.size ≤ r) (sbz dA b m f q k) sbK H := by
  have hx := hG.2.2.2.2.2.2.2.2.2
  exact ⟨wP2 (hx.1 0 _ rfl) (hx.1 1 _ rfl), wD2 (Or.inl rfl) (Or.inr (Or.inl rfl)) (fun z => absurd (hx.2.1.1 0 1 _ _ rfl rfl z) (by decide)), trivial⟩
/-- two cells ahead of the others, changed, the first perhaps another one -/
theorem cx_close {b m : Nat} {f : Nat → Int32} {q k b' m' : Nat} {f' : Nat → Int32} {k' : Nat} {H H' : Heap} (hG : cx D dA A V L N ad (sbz dA b m f q k ++ xs) H) (hA : ∀ r, H.size ≤ r → A r) (hz : zw D (fun r => r = b ∨ r = q ∨ H.size ≤ r) (sbz dA b' m' f' q k') sbK H') (hfr : ∀ r, r < H.size → ¬ (r = b ∨ r = q ∨ H.size ≤ r) → H'[r]? = H[r]?) : cx D dA A V L N ad (sbz dA b' m' f' q k' ++ xs) H' := by
  have hx := hG.2.2.2.2.2.2.2.2.2
  have hlt : ∀ k i, live L N k i → ad k i < H.size := fun k i h => hG.lt h
  have hnb : ∀ k i, live L N k i → ad k i ≠ b := fun k i h => hx.2.2 0 _ rfl k i h
  have hnq : ∀ k i, live L N k i → ad k i ≠ q := fun k i h => hx.2.2 1 _ rfl k i h
  have hbq : b' ≠ q := fun z => absurd (hz.2.1.1 0 1 _ _ rfl rfl z) (by decide)
  have hb' : b' = b ∨ H.size ≤ b' := by
    rcases hz.2.1.2 0 _ rfl with z | z | z
    · exact Or.inl z
    · exact absurd z hbq
    · exact Or.inr z
  have hqs : q < H.size := (hx.1 1 _ rfl).lt
  have hxs : ∀ (j : Nat) (r : Nat × va_E), xs[j]? = some r → r.1 < H.size ∧ r.1 ≠ b ∧ r.1 ≠ q := fun j r hj => ⟨(hx.1 (j + 2) r hj).lt, fun z => absurd (hx.2.1.1 (j + 2) 0 _ _ hj rfl z) (by omega), fun z => absurd (hx.2.1.1 (j + 2) 1 _ _ hj rfl z) (by omega)⟩
  have hP : va_P D vwCl xs H' := (show va_P D vwCl xs H from fun j r hj => hx.1 (j + 2) r hj).kept (fun j r hj => by
    obtain ⟨a1, a2, a3⟩ := hxs j r hj
    exact hfr _ a1 (fun z => z.elim a2 (fun z => z.elim a3 (fun z => by omega))))
  have hb2 : ∀ r, r < H.size → r ≠ b → r ≠ b' := fun r h1 h2 z => by
    rcases hb' with y | y
    · exact h2 (z.trans y)
    · omega
  refine hG.kept hG.2.2.2.2.1 (fun k i h => hfr _ (hlt k i h) (fun z => z.elim (hnb k i h) (fun z => z.elim (hnq k i h) (fun z => by have := hlt k i h; omega)))) ⟨fun j r hj => ?_, ⟨fun i j p r hi hj e => ?_, fun j r hj => ?_⟩, fun j r hj k i h => ?_⟩
  · match j, hj with
    | 0, hj => exact hz.1 0 r hj
    | 1, hj => exact hz.1 1 r hj
    | j + 2, hj => exact hP j r hj
  · match i, j, hi, hj with
    | 0, 0, _, _ => rfl
    | 1, 1, _, _ => rfl
    | 0, 1, hi, hj => cases hi; cases hj; exact absurd e hbq
    | 1, 0, hi, hj => cases hi; cases hj; exact absurd e.symm hbq
    | 0, j + 2, hi, hj =>
      cases hi
      obtain ⟨a1, a2, a3⟩ := hxs j r hj
      exact absurd e.symm (hb2 _ a1 a2)
    | 1, j + 2, hi, hj =>
      cases hi
      exact absurd e.symm (hxs j r hj).2.2
    | i + 2, 0, hi, hj =>
      cases hj
      obtain ⟨a1, a2, a3⟩ := hxs i p hi
      exact absurd e (hb2 _ a1 a2)
    | i + 2, 1, hi, hj =>
      cases hj
      exact absurd e (hxs i p hi).2.2
    | i + 2, j + 2, hi, hj => exact hx.2.1.1 (i + 2) (j + 2) p r hi hj e
  · match j, hj with
    | 0, hj =>
      cases hj
      rcases hb' with y | y
      · show A b'
        rw [y]; exact hx.2.1.2 0 _ rfl
      · exact hA _ y
    | 1, hj =>
      cases hj
      have h9 := hx.2.1.2 1 _ rfl
      exact h9
    | j + 2, hj => exact hx.2.1.2 (j + 2) r hj
  · match j, hj with
    | 0, hj => cases hj; exact hb2 _ (hlt k i h) (hnb k i h)
    | 1, hj => cases hj; exact hnq k i h
    | j + 2, hj => exact hx.2.2 (j + 2) r hj k i h
theorem cx_tail2 {x y : Nat × va_E} {H : Heap} (hG : cx D dA A V L N ad (x :: y :: xs) H) : cx D dA A V L N ad xs H := by
  have hx := hG.2.2.2.2.2.2.2.2.2
  exact ⟨hG.1, hG.2.1, hG.2.2.1, hG.2.2.2.1, hG.2.2.2.2.1, hG.2.2.2.2.2.1, hG.2.2.2.2.2.2.1, hG.2.2.2.2.2.2.2.1, hG.2.2.2.2.2.2.2.2.1, fun j q hj => hx.1 (j + 2) q hj, ⟨fun i j p q hi hj e => by have := hx.2.1.1 (i + 2) (j + 2) p q hi hj e; omega, fun j q hj => hx.2.1.2 (j + 2) q hj⟩, fun j q hj => hx.2.2 (j + 2) q hj⟩
theorem sb_convq {l : Launch} {y : MethodName} {ws : List Cond} {rm : Room} {av : List Value} {mc ms n : Nat} (hA : ∀ r, n ≤ r → A r) {b m : Nat} {f : Nat → Int32} {q k : Nat} {S : Type} {post : Option Nat → S → Prop} {W : S → Nat × Nat × (Nat → Int32)} {k' : Nat}
    (hM : ∀ (A1 : Nat → Prop) (n1 : Nat), (∀ r, n1 ≤ r → A1 r) → Met l y ws rm (va_Pc av (zB D dA A1 n1 (zw D A1 (sbz dA b m f q k) sbK))) (va_Qq post (fun u t => zw D A1 (sbz dA (W u).1 (W u).2.1 (W u).2.2 q k') sbK t.heap) A1) mc ms A1) : Met l y ws rm (va_Pc av (zB D dA A n (cx D dA A V L N ad (sbz dA b m f q k ++ xs)))) (va_Qq post (fun u t => cx D dA A V L N ad (sbz dA (W u).1 (W u).2.1 (W u).2.2 q k' ++ xs) t.heap) A) mc ms A := by
  have hAA : ∀ H, cx D dA A V L N ad (sbz dA b m f q k ++ xs) H → n ≤ H.size → ∀ r, (r = b ∨ r = q ∨ H.size ≤ r) → A r := fun H hG hn r h => by
    have hx := hG.2.2.2.2.2.2.2.2.2
    rcases h with rfl | rfl | h
    · exact hx.2.1.2 0 _ rfl
    · exact hx.2.1.2 1 _ rfl
    · exact hA r (Nat.le_trans hn h)
  refine met_open (fun H r => r = b ∨ r = q ∨ H.size ≤ r) hAA (fun H hG hn => ⟨_, _, cx_open2 hG, hM _ H.size (fun r h => Or.inr (Or.inr h)), fun a st t o e h => ?_⟩)
  subst e
  obtain ⟨⟨r, u, ho, hp, hz⟩, hF⟩ := h
  exact ⟨⟨r, u, ho, hp, cx_close hG (fun r h => hA r (Nat.le_trans hn h)) hz hF.2⟩, hF.1, fun r h1 h2 => hF.2 r h1 (fun z => h2 (hAA _ hG hn r z))⟩
theorem sb_convi {l : Launch} {y : MethodName} {ws : List Cond} {rm : Room} {av : List Value} {mc ms n : Nat} (hA : ∀ r, n ≤ r → A r) {b m : Nat} {f : Nat → Int32} {q k : Nat} {post : Int32 → Unit → Prop}
    (hM : ∀ (A1 : Nat → Prop) (n1 : Nat), (∀ r, n1 ≤ r → A1 r) → Met l y ws rm (va_Pc av (zB D dA A1 n1 (zw D A1 (sbz dA b m f q k) sbK))) (va_Qi post (fun _ t => zw D A1 (sbz dA b m f q k) sbK t.heap) A1) mc ms A1) : Met l y ws rm (va_Pc av (zB D dA A n (cx D dA A V L N ad (sbz dA b m f q k ++ xs)))) (va_Qi post (fun _ t => cx D dA A V L N ad (sbz dA b m f q k ++ xs) t.heap) A) mc ms A := by
  have hAA : ∀ H, cx D dA A V L N ad (sbz dA b m f q k ++ xs) H → n ≤ H.size → ∀ r, (r = b ∨ r = q ∨ H.size ≤ r) → A r := fun H hG hn r h => by
    have hx := hG.2.2.2.2.2.2.2.2.2
    rcases h with rfl | rfl | h
    · exact hx.2.1.2 0 _ rfl
    · exact hx.2.1.2 1 _ rfl
    · exact hA r (Nat.le_trans hn h)
  refine met_open (fun H r => r = b ∨ r = q ∨ H.size ≤ r) hAA (fun H hG hn => ⟨_, _, cx_open2 hG, hM _ H.size (fun r h => Or.inr (Or.inr h)), fun a st t o e h => ?_⟩)
  subst e
  obtain ⟨⟨r, u, ho, hp, hz⟩, hF⟩ := h
  exact ⟨⟨r, u, ho, hp, cx_close hG (fun r h => hA r (Nat.le_trans hn h)) hz hF.2⟩, hF.1, fun r h1 h2 => hF.2 r h1 (fun z => h2 (hAA _ hG hn r z))⟩
theorem sb_initX {l : Launch} {n : Nat} (hst : l.stackTraces = false) (hA : ∀ r, n ≤ r → A r) {q : Nat} : Met l yJ4_init_da8c8 (.code yJ4_init_da8c8 cJ4_init_da8c8 1 none :: gT) ({ frames := 2, cells := 1, slots := 16, locals := 84 } : Room) (va_Pc [.ref q] (zB D dA A n (cx D dA A V L N ad ((q, .inr (1, [.null, .int 0, .int 0, .int 0])) :: xs)))) (va_Qv (fun (_ : Nat) => True) (fun (u : Nat) t => cx D dA A V L N ad (sbz dA u 16 (fun _ => 0) q 0 ++ xs) t.heap) A) 1 16 A := by
  have hAA : ∀ H, cx D dA A V L N ad ((q, .inr (1, [.null, .int 0, .int 0, .int 0])) :: xs) H → n ≤ H.size → ∀ r, (r = q ∨ H.size ≤ r) → A r := fun H hG hn r h => by
    rcases h with rfl | h
    · exact hG.2.2.2.2.2.2.2.2.2.2.1.2 0 _ rfl
    · exact hA r (Nat.le_trans hn h)
  refine met_open (fun H r => r = q ∨ H.size ≤ r) hAA (fun H hG hn => ⟨_, _, ⟨zone1 (hG.2.2.2.2.2.2.2.2.2.1 0 _ rfl), wD1 (Or.inl rfl), trivial⟩, sb_init4 hst (fun r h => Or.inr h), fun a st t o e h => ?_⟩)
  subst e
  obtain ⟨⟨u, ho, hp, hz⟩, hF⟩ := h
  have hx := hG.2.2.2.2.2.2.2.2.2
  have hqs : q < st.heap.size := (hx.1 0 _ rfl).lt
  have huq : u ≠ q := fun z => absurd (hz.2.1.1 0 1 _ _ rfl rfl z) (by decide)
  have hus : st.heap.size ≤ u := (hz.2.1.2 0 _ rfl).resolve_left huq
  have hlt : ∀ k i, live L N k i → ad k i < st.heap.size := fun k i h => hG.lt h
  have hxs : ∀ (j : Nat) (r : Nat × va_E), xs[j]? = some r → r.1 < st.heap.size ∧ r.1 ≠ q := fun j r hj => ⟨(hx.1 (j + 1) r hj).lt, fun z => absurd (hx.2.1.1 (j + 1) 0 _ _ hj rfl z) (by omega)⟩
  have hP : va_P D vwCl xs t.heap := (show va_P D vwCl xs st.heap from fun j r hj => hx.1 (j + 1) r hj).kept (fun j r hj => by
    obtain ⟨a1, a2⟩ := hxs j r hj
    exact hF.2 _ a1 (fun z => z.elim a2 (fun z => by omega)))
  refine ⟨⟨u, ho, hp, ?_⟩, hF.1, fun r h1 h2 => hF.2 r h1 (fun z => h2 (hAA _ hG hn r z))⟩
  refine hG.kept hG.2.2.2.2.1 (fun k i h => hF.2 _ (hlt k i h) (fun z => z.elim (hx.2.2 0 _ rfl k i h) (fun z => by have := hlt k i h; omega))) ⟨fun j r hj => ?_, ⟨fun i j p r hi hj e => ?_, fun j r hj => ?_⟩, fun j r hj k i h => ?_⟩
  · match j, hj with
    | 0, hj => exact hz.1 0 r hj
    | 1, hj => exact hz.1 1 r hj
    | j + 2, hj => exact hP j r hj
  · match i, j, hi, hj with
    | 0, 0, _, _ => rfl
    | 1, 1, _, _ => rfl
    | 0, 1, hi, hj => cases hi; cases hj; exact absurd e huq
    | 1, 0, hi, hj => cases hi; cases hj; exact absurd e.symm huq
    | 0, j + 2, hi, hj =>
      cases hi
      have := (hxs j r hj).1
      have e : u = r.1 := e
      omega
    | 1, j + 2, hi, hj =>
      cases hi
      exact absurd e.symm (hxs j r hj).2
    | i + 2, 0, hi, hj =>
      cases hj
      have := (hxs i p hi).1
      have e : p.1 = u := e
      omega
    | i + 2, 1, hi, hj =>
      cases hj
      exact absurd e (hxs i p hi).2
    | i + 2, j + 2, hi, hj =>
      have := hx.2.1.1 (i + 1) (j + 1) p r hi hj e
      omega
  · match j, hj with
    | 0, hj => cases hj; exact hA _ (Nat.le_trans hn hus)
    | 1, hj =>
      cases hj
      have h9 := hx.2.1.2 0 _ rfl
      exact h9
    | j + 2, hj => exact hx.2.1.2 (j + 1) r hj
  · match j, hj with
    | 0, hj =>
      cases hj
      intro z
      have := hlt k i h
      have z : ad k i = u := z
      omega
    | 1, hj => cases hj; exact hx.2.2 0 _ rfl k i h
    | j + 2, hj => exact hx.2.2 (j + 1) r hj k i h
end SX
