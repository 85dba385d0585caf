theorem g_10 : Cond.initialized RJ7 ∈ gT := gT_t 10 (by decide +kernel) rfl
theorem g_11 : Cond.initialized "java/lang/System" ∈ gT := gT_t 11 (by decide +kernel) rfl
theorem g_110 : Cond.methodLink RJx4a65c 131 yJx4a65c_add_72be8 ∈ gT := gT_t 112 (by decide +kernel) rfl
theorem g_112 : Cond.instanceMethod yJx4a65c_add_72be8 ∈ gT := gT_t 114 (by decide +kernel) rfl
theorem g_113 : Cond.code yJx4a65c_add_72be8 cJx4a65c_add_72be8 4 none ∈ gT := gT_t 115 (by decide +kernel) rfl
theorem g_114 : Cond.methodLink RJx4a65c 129 yJx4a65c_grow_d5877 ∈ gT := gT_t 116 (by decide +kernel) rfl
theorem g_116 : Cond.instanceMethod yJx4a65c_grow_d5877 ∈ gT := gT_t 118 (by decide +kernel) rfl
theorem g_117 : Cond.code yJx4a65c_grow_d5877 cJx4a65c_grow_d5877 1 (some (.array (.object "java/lang/Object"))) ∈ gT := gT_t 119 (by decide +kernel) rfl
theorem g_118 : Cond.methodLink RJx4a65c 69 yJx4a65c_grow_92f84 ∈ gT := gT_t 120 (by decide +kernel) rfl
theorem g_120 : Cond.instanceMethod yJx4a65c_grow_92f84 ∈ gT := gT_t 122 (by decide +kernel) rfl
theorem g_121 : Cond.code yJx4a65c_grow_92f84 cJx4a65c_grow_92f84 4 (some (.array (.object "java/lang/Object"))) ∈ gT := gT_t 123 (by decide +kernel) rfl
theorem g_122 : Cond.methodLink RJx4a65c 73 yJ8_newLength_cabcc ∈ gT := gT_t 124 (by decide +kernel) rfl
theorem g_123 : Cond.static yJ8_newLength_cabcc ∈ gT := gT_t 125 (by decide +kernel) rfl
theorem g_124 : Cond.code yJ8_newLength_cabcc cJ8_newLength_cabcc 4 (some .int) ∈ gT := gT_t 126 (by decide +kernel) rfl
theorem g_125 : Cond.methodLink RJ8 194 Lib.Math.max.name ∈ gT := gT_t 127 (by decide +kernel) rfl
theorem g_128 : Jvm.Cond.constant RJ8 200 2147483639 ∈ gT := gT_t 130 (by decide +kernel) rfl
theorem g_132 : Cond.methodLink RJx4a65c 66 yJ7_copyOf_1904c ∈ gT := gT_t 134 (by decide +kernel) rfl
theorem g_133 : Cond.static yJ7_copyOf_1904c ∈ gT := gT_t 135 (by decide +kernel) rfl
theorem g_134 : Cond.code yJ7_copyOf_1904c cJ7_copyOf_1904c 2 (some (.array (.object "java/lang/Object"))) ∈ gT := gT_t 136 (by decide +kernel) rfl
theorem g_135 : Cond.methodLink RJ7 86 ⟨"java/lang/Object", "getClass", "()Ljava/lang/Class;"⟩ ∈ gT := gT_t 137 (by decide +kernel) rfl
theorem g_136 : Cond.instanceMethod ⟨"java/lang/Object", "getClass", "()Ljava/lang/Class;"⟩ ∈ gT := gT_t 138 (by decide +kernel) rfl
theorem g_157 : Cond.native ⟨"java/lang/Object", "getClass", "()Ljava/lang/Class;"⟩ ∈ gT := gT_t 157 (by decide +kernel) rfl
theorem g_158 : Cond.methodLink RJ7 300 yJ7_copyOf_6403c ∈ gT := gT_t 158 (by decide +kernel) rfl
theorem g_159 : Cond.static yJ7_copyOf_6403c ∈ gT := gT_t 159 (by decide +kernel) rfl
theorem g_160 : Cond.code yJ7_copyOf_6403c cJ7_copyOf_6403c 4 (some (.array (.object "java/lang/Object"))) ∈ gT := gT_t 160 (by decide +kernel) rfl
theorem g_161 : Cond.classLink RJ7 110 "[Ljava/lang/Object;" ∈ gT := gT_t 161 (by decide +kernel) rfl
theorem g_163 : Cond.classLink RJ7 2 "java/lang/Object" ∈ gT := gT_t 163 (by decide +kernel) rfl
theorem g_164 : Cond.methodLink RJ7 304 Lib.Math.min.name ∈ gT := gT_t 164 (by decide +kernel) rfl
theorem g_167 : Cond.methodLink RJ7 150 arraycopyName ∈ gT := gT_t 167 (by decide +kernel) rfl
theorem g_168 : Cond.static arraycopyName ∈ gT := gT_t 168 (by decide +kernel) rfl
theorem g_169 : Cond.native arraycopyName ∈ gT := gT_t 169 (by decide +kernel) rfl
theorem g_170 : Cond.methodLink RJx4a65c 79 Lib.Math.max.name ∈ gT := gT_t 170 (by decide +kernel) rfl
theorem g_171 : Cond.classLink RJx4a65c 7 "java/lang/Object" ∈ gT := gT_t 171 (by decide +kernel) rfl
theorem g_1731 : Cond.castable RX7 "java/lang/Object" ∈ gF := List.mem_filter.mpr ⟨List.mem_append_right _ (List.mem_of_getElem? (show tables_1[1157]? = some (Cond.castable RX7 "java/lang/Object") by decide +kernel)), by decide +kernel⟩
theorem g_1736 : Cond.castable RX0 "java/lang/Object" ∈ gF := List.mem_filter.mpr ⟨List.mem_append_right _ (List.mem_of_getElem? (show tables_1[1165]? = some (Cond.castable RX0 "java/lang/Object") by decide +kernel)), by decide +kernel⟩
theorem g_1739 : Cond.castable RX1 "java/lang/Object" ∈ gF := List.mem_filter.mpr ⟨List.mem_append_right _ (List.mem_of_getElem? (show tables_1[1161]? = some (Cond.castable RX1 "java/lang/Object") by decide +kernel)), by decide +kernel⟩
theorem g_1740 : Cond.castable RX4 "java/lang/Object" ∈ gF := List.mem_filter.mpr ⟨List.mem_append_right _ (List.mem_of_getElem? (show tables_1[1162]? = some (Cond.castable RX4 "java/lang/Object") by decide +kernel)), by decide +kernel⟩
theorem g_1742 : Cond.castable RX3 "java/lang/Object" ∈ gF := List.mem_filter.mpr ⟨List.mem_append_right _ (List.mem_of_getElem? (show tables_1[1164]? = some (Cond.castable RX3 "java/lang/Object") by decide +kernel)), by decide +kernel⟩
theorem g_1745 : Cond.selects "[Ljava/lang/Object;" ⟨"java/lang/Object", "getClass", "()Ljava/lang/Class;"⟩ ⟨"java/lang/Object", "getClass", "()Ljava/lang/Class;"⟩ ∈ gT := gT_t 1170 (by decide +kernel) rfl
theorem g_23 : Cond.initialized RJ15 ∈ gT := gT_t 25 (by decide +kernel) rfl
theorem g_24 : Cond.initialized RJ3 ∈ gT := gT_t 26 (by decide +kernel) rfl
theorem g_557 : Cond.methodLink RJx4a65c 118 yJ15_checkIndex_7cf53 ∈ gT := gT_t 597 (by decide +kernel) rfl
theorem g_558 : Cond.static yJ15_checkIndex_7cf53 ∈ gT := gT_t 598 (by decide +kernel) rfl
theorem g_559 : Cond.code yJ15_checkIndex_7cf53 cJ15_checkIndex_7cf53 2 (some .int) ∈ gT := gT_t 599 (by decide +kernel) rfl
theorem g_560 : Cond.methodLink RJ15 105 yJ3_checkIndex_8e157 ∈ gT := gT_t 600 (by decide +kernel) rfl
theorem g_561 : Cond.static yJ3_checkIndex_8e157 ∈ gT := gT_t 601 (by decide +kernel) rfl
theorem g_562 : Cond.code yJ3_checkIndex_8e157 cJ3_checkIndex_8e157 3 (some .int) ∈ gT := gT_t 602 (by decide +kernel) rfl
theorem g_563 : Cond.methodLink RJx4a65c 123 yJx4a65c_elementData_915e3 ∈ gT := gT_t 603 (by decide +kernel) rfl
theorem g_564 : Cond.instanceMethod yJx4a65c_elementData_915e3 ∈ gT := gT_t 604 (by decide +kernel) rfl
theorem g_565 : Cond.selects RJx4a65c yJx4a65c_elementData_915e3 yJx4a65c_elementData_915e3 ∈ gT := gT_t 605 (by decide +kernel) rfl
theorem g_566 : Cond.code yJx4a65c_elementData_915e3 cJx4a65c_elementData_915e3 2 (some (.object "java/lang/Object")) ∈ gT := gT_t 606 (by decide +kernel) rfl
theorem g_67 : Cond.fieldLink RJx4a65c 48 "java/util/ArrayList" "size" "I" ∈ gT := gT_t 69 (by decide +kernel) rfl
theorem g_69 : Cond.fieldLink RJx4a65c 63 "java/util/ArrayList" "modCount" "I" ∈ gT := gT_t 71 (by decide +kernel) rfl
theorem g_70 : Cond.sameField "java/util/ArrayList" "java/util/AbstractList" "modCount" "I" ∈ gT := gT_t 72 (by decide +kernel) rfl
theorem g_8 : Cond.initialized RJ8 ∈ gT := gT_t 8 (by decide +kernel) rfl
theorem gs_0 : Cond.selects RJx4a65c yJx4a65c_add_72be8 yJx4a65c_add_72be8 ∈ gT := gT_s 0 (by decide +kernel) rfl
theorem gs_1 : Cond.selects RJx4a65c yJx4a65c_grow_d5877 yJx4a65c_grow_d5877 ∈ gT := gT_s 1 (by decide +kernel) rfl
theorem gs_2 : Cond.selects RJx4a65c yJx4a65c_grow_92f84 yJx4a65c_grow_92f84 ∈ gT := gT_s 2 (by decide +kernel) rfl
theorem hd_yJ3_checkIndex_8e157 : yJ3_checkIndex_8e157.cls = RJ3 ∧ yJ3_checkIndex_8e157.cls ≠ "java/lang/invoke/MethodHandle" ∧ yJ3_checkIndex_8e157.cls ≠ "java/lang/invoke/VarHandle" ∧ (parseMethodDescriptor yJ3_checkIndex_8e157.desc).map (fun d => d.parameters.length) = some 3 := by decide +kernel
theorem hd_yJ15_checkIndex_7cf53 : yJ15_checkIndex_7cf53.cls = RJ15 ∧ yJ15_checkIndex_7cf53.cls ≠ "java/lang/invoke/MethodHandle" ∧ yJ15_checkIndex_7cf53.cls ≠ "java/lang/invoke/VarHandle" ∧ (parseMethodDescriptor yJ15_checkIndex_7cf53.desc).map (fun d => d.parameters.length) = some 2 := by decide +kernel
theorem hd_yJx4a65c_elementData_915e3 : yJx4a65c_elementData_915e3.cls = RJx4a65c ∧ yJx4a65c_elementData_915e3.cls ≠ "java/lang/invoke/MethodHandle" ∧ yJx4a65c_elementData_915e3.cls ≠ "java/lang/invoke/VarHandle" ∧ (parseMethodDescriptor yJx4a65c_elementData_915e3.desc).map (fun d => d.parameters.length) = some 1 := by decide +kernel
theorem hd_yJ7_copyOf_6403c : yJ7_copyOf_6403c.cls = RJ7 ∧ yJ7_copyOf_6403c.cls ≠ "java/lang/invoke/MethodHandle" ∧ yJ7_copyOf_6403c.cls ≠ "java/lang/invoke/VarHandle" ∧ (parseMethodDescriptor yJ7_copyOf_6403c.desc).map (fun d => d.parameters.length) = some 3 := by decide +kernel
theorem hd_yJ8_newLength_cabcc : yJ8_newLength_cabcc.cls = RJ8 ∧ yJ8_newLength_cabcc.cls ≠ "java/lang/invoke/MethodHandle" ∧ yJ8_newLength_cabcc.cls ≠ "java/lang/invoke/VarHandle" ∧ (parseMethodDescriptor yJ8_newLength_cabcc.desc).map (fun d => d.parameters.length) = some 3 := by decide +kernel
theorem hd_yJ7_copyOf_1904c : yJ7_copyOf_1904c.cls = RJ7 ∧ yJ7_copyOf_1904c.cls ≠ "java/lang/invoke/MethodHandle" ∧ yJ7_copyOf_1904c.cls ≠ "java/lang/invoke/VarHandle" ∧ (parseMethodDescriptor yJ7_copyOf_1904c.desc).map (fun d => d.parameters.length) = some 2 := by decide +kernel
theorem hd_yJx4a65c_grow_92f84 : yJx4a65c_grow_92f84.cls = RJx4a65c ∧ yJx4a65c_grow_92f84.cls ≠ "java/lang/invoke/MethodHandle" ∧ yJx4a65c_grow_92f84.cls ≠ "java/lang/invoke/VarHandle" ∧ (parseMethodDescriptor yJx4a65c_grow_92f84.desc).map (fun d => d.parameters.length) = some 1 := by decide +kernel
theorem hd_yJx4a65c_grow_d5877 : yJx4a65c_grow_d5877.cls = RJx4a65c ∧ yJx4a65c_grow_d5877.cls ≠ "java/lang/invoke/MethodHandle" ∧ yJx4a65c_grow_d5877.cls ≠ "java/lang/invoke/VarHandle" ∧ (parseMethodDescriptor yJx4a65c_grow_d5877.desc).map (fun d => d.parameters.length) = some 0 := by decide +kernel
theorem hd_yJx4a65c_add_72be8 : yJx4a65c_add_72be8.cls = RJx4a65c ∧ yJx4a65c_add_72be8.cls ≠ "java/lang/invoke/MethodHandle" ∧ yJx4a65c_add_72be8.cls ≠ "java/lang/invoke/VarHandle" ∧ (parseMethodDescriptor yJx4a65c_add_72be8.desc).map (fun d => d.parameters.length) = some 3 := by decide +kernel
/-! OPEN WORLDS: some cells alone -/
def zw (D : va_G) (A : Nat → Prop) (zs : va_W) (K : Heap → Prop) (H : Heap) : Prop := va_P D vwCl zs H ∧ va_D A zs ∧ K H
/-- what rests on cells outside A alone -/
def kf (A : Nat → Prop) (K : Heap → Prop) : Prop := ∀ H H1 : Heap, (∀ q, ¬ A q → H1[q]? = H[q]?) → K H → K H1
section ZW
variable {p : Program} {l : Launch} {e : Env} {R : Room} {s : State} {m : MethodId} {args : Array Value} {below : List Frame} {meth : Method} {c : Code} {A : Nat → Prop} {G : Heap → Prop} {cells slots : Nat} {Q : State → Prop}
variable {cc : ByteArray} {own : String} {D : va_G} {dA : Nat → ClassId} {pc : Nat} {lo : List (Nat × Value)} {ll : List (Nat × Int64)} {rest : List Value} {zs : va_W} {C : String} {T : u_T} {K : Heap → Prop}
theorem kf.go (hf : kf A K) (X : zc p l s m args meth c cc own D dA A) {H H1 : Heap} {locs locs1 : List Loc} (h : va_S A s.heap H locs) (h1 : va_S A s.heap H1 locs1) (hK : K H) : K H1 :=
  hf H H1 (fun q hq => by
    have hlt : q < s.heap.size := Nat.not_le.mp fun z => hq (X.2.2.2.2.2.2.1 q z)
    exact (h1.2.1 q hlt hq).trans (h.2.1 q hlt hq).symm) hK
theorem w_get (X : zc p l s m args meth c cc own D dA A) (q0 k : Nat) {a ci idx n : Nat} {fs : List Value} {v : Value} {ref : String} (hin : ∀ w ∈ u_ws C T n, w ∈ gT) (hx : zs[q0]? = some (a, .inr (ci, fs))) (hcl : vwCl[ci]? = some (C, T, n)) (hk : Nat.ble (k + 1) n = true) (hw : Cond.fieldLink own idx ref (T k).2.1 (T k).2.2.1 ∈ gT) (hsame : ref = (T k).1 ∨ Cond.sameField ref (T k).1 (T k).2.1 (T k).2.2.1 ∈ gT) (hv : fs[k]? = some v) (hdg : decode cc pc = .ok (.getfield idx, 3))
    (kk : zz p l e R s m args below meth c A (zw D A zs K) cells slots Q (pc + 3) lo ll (v :: rest)) : zz p l e R s m args below meth c A (zw D A zs K) cells slots Q pc lo ll (.ref a :: rest) :=
  fun H locs ls hG hS hl hc => va_get X.1 X.2.1 X.2.2.2.1 hin X.2.2.1 X.2.2.2.2.2.1 hG.1 q0 hx hcl k (Nat.le_of_ble_eq_true hk) (X.2.2.2.1 _ hw) (fun x h => by rcases hsame with rfl | h2; exact h; exact u_same (X.2.2.2.1 _ h2) x h) hv hdg (kk H locs ls hG hS hl hc)
theorem w_put (hf : kf A K) (X : zc p l s m args meth c cc own D dA A) (q0 k : Nat) {a ci idx n : Nat} {fs : List Value} {v : Value} {ref : String} {zs' : va_W} {ty0 : Nat → FieldType} {ty : FieldType} (hin : ∀ w ∈ u_ws C T n, w ∈ gT) (hx : zs[q0]? = some (a, .inr (ci, fs))) (hcl : vwCl[ci]? = some (C, T, n)) (hty : ∀ j, j < n → parseFieldDescriptor (T j).2.2.1 = some (ty0 j)) (hnm : ∀ a, a < n → ∀ b, b < n → a ≠ b → (T a).2.1 ≠ (T b).2.1) (hk : Nat.ble (k + 1) n = true) (hfl : Nat.ble (k + 1) fs.length = true) (hw : Cond.fieldLink own idx ref (T k).2.1 (T k).2.2.1 ∈ gT) (hsame : ref = (T k).1 ∨ Cond.sameField ref (T k).1 (T k).2.1 (T k).2.2.1 ∈ gT) (hfin : (T k).2.2.2 = false) (hd : ty0 k = ty) (hn : narrow ty v = v) (hfit : fits ty v = true) (he : zs.set q0 (a, .inr (ci, fs.set k v)) = zs') (hdg : decode cc pc = .ok (.putfield idx, 3))
    (kk : zz p l e R s m args below meth c A (zw D A zs' K) cells slots Q (pc + 3) lo ll rest) : zz p l e R s m args below meth c A (zw D A zs K) cells slots Q pc lo ll (v :: .ref a :: rest) := by
  subst he
  intro H locs ls hG hS hl hc
  exact va_put X.1 X.2.1 X.2.2.2.1 hin ty0 hty hnm X.2.2.1 X.2.2.2.2.2.1 hG.1 hG.2.1 hS q0 hx hcl k (Nat.le_of_ble_eq_true hk) (X.2.2.2.1 _ hw) (fun x h => by rcases hsame with rfl | h2; exact h; exact u_same (X.2.2.2.1 _ h2) x h) hfin (by rw [hty k (Nat.le_of_ble_eq_true hk), hd]) hn hfit (Nat.le_of_ble_eq_true hfl) hdg (fun H1 locs1 h1 h2 h3 => kk H1 locs1 ls ⟨h1, h2, hf.go X hS h3 hG.2.2⟩ h3 hl hc)
theorem w_alen (X : zc p l s m args meth c cc own D dA A) (q0 : Nat) {a n : Nat} {f : Nat → Option Nat} {v : Int32} (hx : zs[q0]? = some (a, .inl (dA 5, n, .inr (.inr (.inr (.inr f)))))) (hn : nI n = v) (hdg : decode cc pc = .ok (.arraylength, 1))
    (kk : zz p l e R s m args below meth c A (zw D A zs K) cells slots Q (pc + 1) lo ll (.int v :: rest)) : zz p l e R s m args below meth c A (zw D A zs K) cells slots Q pc lo ll (.ref a :: rest) :=
  fun H locs ls hG hS hl hc => va_alen X.1 X.2.1 X.2.2.2.2.2.1 hG.1 q0 5 hx rfl hn hdg (kk H locs ls hG hS hl hc)
theorem w_aald (X : zc p l s m args meth c cc own D dA A) (q0 : Nat) {a n : Nat} {f : Nat → Option Nat} {i : Int32} {o : Option Nat} (hx : zs[q0]? = some (a, .inl (dA 5, n, .inr (.inr (.inr (.inr f)))))) (hi : vp_in i n) (ho : f i.toNatClampNeg = o) (hdg : decode cc pc = .ok (.aaload, 1))
    (kk : zz p l e R s m args below meth c A (zw D A zs K) cells slots Q (pc + 1) lo ll (va_rf o :: rest)) : zz p l e R s m args below meth c A (zw D A zs K) cells slots Q pc lo ll (.int i :: .ref a :: rest) := by
  subst ho
  exact fun H locs ls hG hS hl hc => va_aldq X.1 X.2.1 X.2.2.2.2.2.1 hG.1 q0 5 hx rfl hi hdg (kk H locs ls hG hS hl hc)
theorem z_asg (X : zc p l s m args meth c cc own D dA A) {E : String} (hca : Cond.castable C E ∈ gF) (comp c0 : ClassId) (h1 : s.vm.findClass E = some comp) (h2 : s.vm.findClass C = some c0) : s.vm.assignable c0 comp = true := by
  obtain ⟨x, t1, f1, f2, f3⟩ := Cond.castable_spec (X.2.2.2.2.2.2.2.1.2.2.2.2.1 _ hca)
  cases h2.symm.trans f1
  cases h1.symm.trans f2
  exact f3
theorem w_aast (hf : kf A K) (X : zc p l s m args meth c cc own D dA A) (q0 : Nat) {a v n ci : Nat} {f : Nat → Option Nat} {vs : List Value} {i : Int32} {zs' : va_W} {r : vw_C} (hx : zs[q0]? = some (a, .inl (dA 5, n, .inr (.inr (.inr (.inr f)))))) (hv : ∀ H, K H → va_at D vwCl (v, .inr (ci, vs)) H) (hcl : vwCl[ci]? = some r) (hca : Cond.castable r.1 "java/lang/Object" ∈ gF) (hi : vp_in i n) (he : zs.set q0 (a, .inl (dA 5, n, .inr (.inr (.inr (.inr (va_up f i.toNatClampNeg (some v))))))) = zs') (hdg : decode cc pc = .ok (.aastore, 1))
    (kk : zz p l e R s m args below meth c A (zw D A zs' K) cells slots Q (pc + 1) lo ll rest) : zz p l e R s m args below meth c A (zw D A zs K) cells slots Q pc lo ll (.ref v :: .int i :: .ref a :: rest) := by
  subst he
  intro H locs ls hG hS hl hc
  exact vb_astq X.1 X.2.1 X.2.2.2.2.2.1 hG.1 hG.2.1 hS q0 5 hx rfl (va_recv (q0 := 0) X.2.2.2.2.2.1 (zone1 (hv H hG.2.2)) hcl rfl) (z_asg X hca) hi hdg (fun H1 locs1 h1 h2 h3 => kk H1 locs1 ls ⟨h1, h2, hf.go X hS h3 hG.2.2⟩ h3 hl hc)
theorem w_newq (hf : kf A K) (X : zc p l s m args meth c cc own D dA A) {idx N' : Nat} {n : Int32} (hw : Cond.classLink own idx "java/lang/Object" ∈ gT)  (hn : ¬ n < 0) (hN : n.toNatClampNeg = N') (hb : N' * 4 ≤ 536870912) (hcs : cells + 1 ≤ R.cells ∧ slots + N' ≤ R.slots) (hdg : decode cc pc = .ok (.anewarray idx, 3))
    (kk : ∀ q : Nat, zz p l e R s m args below meth c A (zw D A (zs ++ [(q, .inl (dA 5, N', .inr (.inr (.inr (.inr (fun _ => none))))))]) K) (cells + 1) (slots + N') Q (pc + 3) lo ll (.ref q :: rest)) : zz p l e R s m args below meth c A (zw D A zs K) cells slots Q pc lo ll (.int n :: rest) := by
  intro H locs ls hG hS hl hc
  refine va_newq X.1 X.2.1 X.2.2.1 (X.2.2.2.1 _ hw) (X.2.2.2.2.2.2.2.1.2.2.2.2.2.2.2.2.2.2.2.2 _ (List.mem_cons_self)) X.2.2.2.2.2.1 hG.1 hG.2.1 hS X.2.2.2.2.2.2.1 hn hN hb hcs.1 hcs.2 hdg fun q cA H1 hK h1 h2 h3 => ?_
  have e1 := (hK.2 8 (cA, .object "java/lang/Object") rfl).2
  have e2 := (X.2.2.2.2.2.1.2 5 (dA 5, .object "java/lang/Object") rfl).2
  obtain ⟨-, -, -, -, -, f1⟩ := e1
  obtain ⟨-, -, -, -, -, f2⟩ := e2
  cases f1.symm.trans f2
  exact kk q H1 locs ls ⟨h1, h2, hf.go X hS h3 hG.2.2⟩ h3 hl hc
theorem w_copy (hf : kf A K) (X : zc p l s m args meth c cc own D dA A) (q0 q1 : Nat) {a0 a n0 n1 idx : Nat} {f g : Nat → Option Nat} {sp dp n : Int32} {zs' : va_W} (h1 : Cond.methodLink own idx arraycopyName ∈ gT) (h2 : Cond.native arraycopyName ∈ gT) (h3 : Cond.static arraycopyName ∈ gT) (h4 : Cond.initialized "java/lang/System" ∈ gT) (hx : zs[q0]? = some (a0, .inl (dA 5, n0, .inr (.inr (.inr (.inr f)))))) (hy : zs[q1]? = some (a, .inl (dA 5, n1, .inr (.inr (.inr (.inr g)))))) (i1 : ¬ sp < 0) (i2 : ¬ dp < 0) (i3 : ¬ n < 0) (i4 : sp.toNatClampNeg + n.toNatClampNeg ≤ n0) (i5 : dp.toNatClampNeg + n.toNatClampNeg ≤ n1) (hel : ∀ H, zw D A zs K H → ∀ i : Nat, i < n.toNatClampNeg → ∀ y : Nat, f (sp.toNatClampNeg + i) = some y → va_Any "java/lang/Object" s H y) (hfr : 1 ≤ R.frames) (hlo : (rest.map fun v => v.category).sum + (nativeFrameWords "java/lang/System" "arraycopy" 5 + 11) ≤ R.locals) (he : zs.set q1 (a, .inl (dA 5, n1, .inr (.inr (.inr (.inr (va_cpy f g sp.toNatClampNeg dp.toNatClampNeg n.toNatClampNeg)))))) = zs') (hdg : decode cc pc = .ok (.invokestatic idx, 3))
    (kk : zz p l e R s m args below meth c A (zw D A zs' K) cells slots Q (pc + 3) lo ll rest) : zz p l e R s m args below meth c A (zw D A zs K) cells slots Q pc lo ll (.int n :: .int dp :: .ref a :: .int sp :: .ref a0 :: rest) := by
  subst he
  intro H locs ls hG hS hl hc
  exact va_copyM X.1 X.2.1 hl.1.symm X.2.2.1 (X.2.2.2.1 _ h1) (X.2.2.2.1 _ h2) (X.2.2.2.1 _ h3) (X.2.2.2.1 _ h4) X.2.2.2.2.2.1 hG.1 hG.2.1 hS q0 q1 5 5 hx hy rfl rfl i1 i2 i3 i4 i5 (hel H hG) hfr hlo hdg (fun H1 locs1 h1 h2 h3 => kk H1 locs1 ls ⟨h1, h2, hf.go X hS h3 hG.2.2⟩ h3 hl hc)
theorem z_gT {own : String} {idx : Nat} {y : MethodName} {b : ByteArray} {n : Nat} {ret : Option FieldType} (h1 : Cond.methodLink own idx y ∈ gT) (h2 : Cond.static y ∈ gT) (h4 : Cond.initialized y.cls ∈ gT) (h5 : Cond.code y b n ret ∈ gT) : GoodIn gT (va_wsS own idx y (.code y b n ret :: gT)) := by
  have key : ∀ w ∈ gT, w ∈ gT ∧ ((w.onTables && w.keeps) = true ∨ ∃ ty, w = .arrayClass ty) := fun w h => ⟨h, gT_good h⟩
  intro w hw
  rcases List.mem_append.mp hw with hw | hw
  · simp only [List.mem_cons, List.not_mem_nil, or_false] at hw
    rcases hw with rfl | rfl | rfl
    · exact key _ h1
    · exact key _ h2
    · exact key _ h4
  · rcases List.mem_cons.mp hw with rfl | hw
    · exact key _ h5
    · exact key _ hw
theorem z_callTi (X : zc p l s m args meth c cc own D dA A) {y : MethodName} {b : ByteArray} {maxL idx nA mc ms : Nat} {ret : Option FieldType} {rm : Room} {As st : List Value} {S : Type} {r0 : Int32} {pu : S → Prop} {G1 : S → Heap → Prop} (hM : Met l y (.code y b maxL ret :: gT) rm (va_Pc As (zB D dA A s.heap.size G)) (va_Qi (fun r u => r = r0 ∧ pu u) (fun u t => G1 u t.heap) A) mc ms A) (h1 : Cond.methodLink own idx y ∈ gT) (h2 : Cond.static y ∈ gT) (h4 : Cond.initialized y.cls ∈ gT) (h5 : Cond.code y b maxL ret ∈ gT) (hd : y.cls ≠ "java/lang/invoke/MethodHandle" ∧ y.cls ≠ "java/lang/invoke/VarHandle" ∧ (parseMethodDescriptor y.desc).map (fun d => d.parameters.length) = some nA) (hrm : rm.cells = mc ∧ rm.slots = ms ∧ rm.frames + 1 ≤ R.frames ∧ 8 + (maxL + 11) + rm.locals ≤ R.locals) (hn : As.length = nA)  (hst : st = As.reverse ++ rest) (hcat : (rest.map fun v => v.category).sum ≤ 8) (hdg : decode cc pc = .ok (.invokestatic idx, 3)) (hf : cells + mc ≤ R.cells ∧ slots + ms ≤ R.slots)
    (k : ∀ u, pu u → zz p l e R s m args below meth c A (G1 u) (cells + mc) (slots + ms) Q (pc + 3) lo ll (.int r0 :: rest)) : zz p l e R s m args below meth c A G cells slots Q pc lo ll st := by
  subst hst
  intro H locs ls hG hS hl hc
  exact va_calli (va_runS (As := As) (rest := rest) ⟨X.1, X.2.1, rfl, X.2.2.1, X.2.2.2.1⟩ hM (va_cwS nA X.2.2.2.1 (z_gT h1 h2 h4 h5) rfl hrm.1 hrm.2.1 hd hrm.2.2) ⟨zB_blind, fun U hU hW => ⟨rfl, zB_at X hG hS U hU hW⟩⟩ rfl hn hl.1 rfl (lv_room hcat) hdg hf) hS (fun _ _ h => h) (fun _ h => h) (fun r u t H1 locs1 ht _ hp hB _ _ hS1 => by obtain ⟨rfl, hp⟩ := hp; exact k u hp H1 locs1 ls (by rw [← ht]; exact hB) hS1 hl hc)
theorem z_callTq (X : zc p l s m args meth c cc own D dA A) {y : MethodName} {b : ByteArray} {maxL idx nA mc ms : Nat} {ret : Option FieldType} {rm : Room} {As st : List Value} {S : Type} {ro : S → Option Nat} {pu : S → Prop} {G1 : S → Heap → Prop} (hM : Met l y (.code y b maxL ret :: gT) rm (va_Pc As (zB D dA A s.heap.size G)) (va_Qq (fun r u => r = ro u ∧ pu u) (fun u t => G1 u t.heap) A) mc ms A) (h1 : Cond.methodLink own idx y ∈ gT) (h2 : Cond.static y ∈ gT) (h4 : Cond.initialized y.cls ∈ gT) (h5 : Cond.code y b maxL ret ∈ gT) (hd : y.cls ≠ "java/lang/invoke/MethodHandle" ∧ y.cls ≠ "java/lang/invoke/VarHandle" ∧ (parseMethodDescriptor y.desc).map (fun d => d.parameters.length) = some nA) (hrm : rm.cells = mc ∧ rm.slots = ms ∧ rm.frames + 1 ≤ R.frames ∧ 8 + (maxL + 11) + rm.locals ≤ R.locals) (hn : As.length = nA)  (hst : st = As.reverse ++ rest) (hcat : (rest.map fun v => v.category).sum ≤ 8) (hdg : decode cc pc = .ok (.invokestatic idx, 3)) (hf : cells + mc ≤ R.cells ∧ slots + ms ≤ R.slots)
    (k : ∀ u, pu u → zz p l e R s m args below meth c A (G1 u) (cells + mc) (slots + ms) Q (pc + 3) lo ll (va_rf (ro u) :: rest)) : zz p l e R s m args below meth c A G cells slots Q pc lo ll st := by
  subst hst
  intro H locs ls hG hS hl hc
  exact va_callq (va_runS (As := As) (rest := rest) ⟨X.1, X.2.1, rfl, X.2.2.1, X.2.2.2.1⟩ hM (va_cwS nA X.2.2.2.1 (z_gT h1 h2 h4 h5) rfl hrm.1 hrm.2.1 hd hrm.2.2) ⟨zB_blind, fun U hU hW => ⟨rfl, zB_at X hG hS U hU hW⟩⟩ rfl hn hl.1 rfl (lv_room hcat) hdg hf) hS (fun _ _ h => h) (fun _ h => h) (fun r u t H1 locs1 ht _ hp hB _ _ hS1 => by obtain ⟨rfl, hp⟩ := hp; exact k u hp H1 locs1 ls (by rw [← ht]; exact hB) hS1 hl hc)
end ZW
/-- statics that lie outside A lie outside less -/
theorem zSt.less {dA : Nat → ClassId} {A A1 : Nat → Prop} {U : State} {H : Heap} (hA : ∀ q, A1 q → A q) (h : zSt dA A U H) : zSt dA A1 U H := by
  have hZ : ∀ {C n d : String} {v : Value}, va_Z C n d v A U H → va_Z C n d v A1 U H := fun ⟨a, b, c, d, e, f, g1, g2, g3, g4, g5, g6, g7, g8⟩ => ⟨a, b, c, d, e, f, g1, g2, g3, g4, g5, g6, g7, fun q => g8 (hA _ q)⟩
  have hT : ∀ {ty : FieldType} {t N : Nat} {f : Nat → Value}, va_T ty t N f A U H → va_T ty t N f A1 U H := fun ⟨a, g1, g2, g3, g4, g5, g6, g7⟩ => ⟨a, g1, g2, g3, g4, g5, g6, fun q => g7 (hA _ q)⟩
  have hq : ∀ {C n d : String}, vx_Zq C n d A U H → vx_Zq C n d A1 U H := fun ⟨h1, h2⟩ => ⟨h1.elim (fun z => Or.inl (hZ z)) (fun ⟨t, z⟩ => Or.inr ⟨t, hZ z⟩), by obtain ⟨a, b, c, d, e, f, g1, g2, g3, g4, g5, g6, g7, g8, g9, g10⟩ := h2; exact ⟨a, b, c, d, e, f, g1, g2, g3, g4, g5, g6, g7, g8, g9, fun q => g10 (hA _ q)⟩⟩
  exact ⟨hq h.1, hq h.2.1, h.2.2.1, ⟨hZ h.2.2.2.1.1, hT h.2.2.2.1.2⟩, h.2.2.2.2.1, h.2.2.2.2.2.1, h.2.2.2.2.2.2.1, ⟨hZ h.2.2.2.2.2.2.2.1.1, hq h.2.2.2.2.2.2.2.1.2⟩, hZ h.2.2.2.2.2.2.2.2.1, hT h.2.2.2.2.2.2.2.2.2.1, hZ h.2.2.2.2.2.2.2.2.2.2.1, hT h.2.2.2.2.2.2.2.2.2.2.2.1, h.2.2.2.2.2.2.2.2.2.2.2.2⟩
/-- a contract that holds from each heap of a world, over a narrower choice of cells, holds over the world -/
theorem met_open {l : Launch} {y : MethodName} {ws : List Cond} {rm : Room} {av : List Value} {D : va_G} {dA : Nat → ClassId} {A : Nat → Prop} {n mc ms : Nat} {G : Heap → Prop} {Qc : Array Value → State → Outcome → State → Prop} (A1 : Heap → Nat → Prop) (hA : ∀ H, G H → n ≤ H.size → ∀ q, A1 H q → A q)
    (hM : ∀ H, G H → n ≤ H.size → ∃ (G1 : Heap → Prop) (Q1 : Array Value → State → Outcome → State → Prop), G1 H ∧ Met l y ws rm (va_Pc av (zB D dA (A1 H) H.size G1)) Q1 mc ms (A1 H) ∧ ∀ (a : Array Value) (st t : State) (o : Outcome), st.heap = H → Q1 a st o t → Qc a st o t) : Met l y ws rm (va_Pc av (zB D dA A n G)) Qc mc ms A := by
  intro p e h1 h2 h3 s m args below h4 h5 h6 h7
  obtain ⟨rfl, hn, hK, hS, hG⟩ := h6
  obtain ⟨G1, Q1, hg, hM, hQ⟩ := hM s.heap hG hn
  obtain ⟨k, o, b1, b2, b3, b4, L, b5, b6⟩ := hM p e h1 h2 h3 s m av.toArray below h4 h5 ⟨rfl, Nat.le_refl _, hK, hS.less (hA _ hG hn), hg⟩ h7
  exact ⟨k, o, b1, b2, b3, hQ _ _ _ _ rfl b4, L, b5, fun q hq => hA _ hG hn _ (b6 q hq)⟩
theorem jl_size {l : Launch} {D : va_G} {dA : Nat → ClassId} {A : Nat → Prop} {n : Nat} (hst : l.stackTraces = false) (hA : ∀ q, n ≤ q → A q) {zs : va_W} {K : Heap → Prop} (q0 : Nat) {a da : Nat} {mo sz : Int32} (hx : zs[q0]? = some (a, .inr (2, [.int mo, .ref da, .int sz]))) : Met l yJx4a65c_size_8abf5 (.code yJx4a65c_size_8abf5 cJx4a65c_size_8abf5 1 (some .int) :: gT) ({ frames := 8, cells := 0, slots := 0, locals := 336 } : Room) (va_Pc [.ref a] (zB D dA A n (zw D A zs K))) (va_Qi (fun r (_ : Unit) => r = sz ∧ True) (fun (_ : Unit) t => zw D A zs K t.heap) A) 0 0 A :=
  z_met (by decide) hA hst (Nat.le_of_ble_eq_true rfl) rfl rfl (fun p e s m below meth c X hml hr _ => by
    refine z_aload_n X dJx4a65c_size_8abf5_0 rfl rfl ?_
    refine w_get X q0 2 rj_ws hx rfl rfl g_67 (Or.inl rfl) rfl dJx4a65c_size_8abf5_1 ?_
    exact z_iret X hr rfl (fun t hG hF _ => ⟨⟨_, (), rfl, ⟨rfl, trivial⟩, hG⟩, hF⟩) dJx4a65c_size_8abf5_4)
theorem jl_isEmpty {l : Launch} {D : va_G} {dA : Nat → ClassId} {A : Nat → Prop} {n : Nat} (hst : l.stackTraces = false) (hA : ∀ q, n ≤ q → A q) {zs : va_W} {K : Heap → Prop} (q0 : Nat) {a da : Nat} {mo sz : Int32} (hx : zs[q0]? = some (a, .inr (2, [.int mo, .ref da, .int sz]))) : Met l yJx4a65c_isEmpty_aae02 (.code yJx4a65c_isEmpty_aae02 cJx4a65c_isEmpty_aae02 1 (some .boolean) :: gT) ({ frames := 8, cells := 0, slots := 0, locals := 336 } : Room) (va_Pc [.ref a] (zB D dA A n (zw D A zs K))) (va_Qi (fun r (_ : Unit) => r = (if sz = 0 then (1 : Int32) else 0) ∧ True) (fun (_ : Unit) t => zw D A zs K t.heap) A) 0 0 A :=
  z_met (by decide) hA hst (Nat.le_of_ble_eq_true rfl) rfl rfl (fun p e s m below meth c X hml hr _ => by
    refine z_aload_n X dJx4a65c_isEmpty_aae02_0 rfl rfl ?_
    refine w_get X q0 2 rj_ws hx rfl rfl g_67 (Or.inl rfl) rfl dJx4a65c_isEmpty_aae02_1 ?_
    refine z_if_ne (tgt := 11) X dJx4a65c_isEmpty_aae02_4 (by decide) (fun q => ?_) (fun q => ?_)
    · refine z_iconst (v := 1) X dJx4a65c_isEmpty_aae02_7 (by decide) ?_
      refine z_goto (tgt := 12) X dJx4a65c_isEmpty_aae02_8 (by decide) ?_
      exact z_iret X hr rfl (fun t hG hF _ => ⟨⟨_, (), rfl, ⟨(if_pos q).symm, trivial⟩, hG⟩, hF⟩) dJx4a65c_isEmpty_aae02_12
    · refine z_iconst (v := 0) X dJx4a65c_isEmpty_aae02_11 (by decide) ?_
      exact z_iret X hr rfl (fun t hG hF _ => ⟨⟨_, (), rfl, ⟨(if_neg q).symm, trivial⟩, hG⟩, hF⟩) dJx4a65c_isEmpty_aae02_12)
theorem jl_chk2 {l : Launch} {D : va_G} {dA : Nat → ClassId} {A : Nat → Prop} {n : Nat} (hst : l.stackTraces = false) (hA : ∀ q, n ≤ q → A q) {G : Heap → Prop} {x y : Int32} (q1 : ¬ x < 0) (q2 : x < y) : Met l yJ3_checkIndex_8e157 (.code yJ3_checkIndex_8e157 cJ3_checkIndex_8e157 3 (some .int) :: gT) ({ frames := 6, cells := 0, slots := 0, locals := 252 } : Room) (va_Pc [.int x, .int y, .null] (zB D dA A n G)) (va_Qi (fun r (_ : Unit) => r = x ∧ True) (fun (_ : Unit) t => G t.heap) A) 0 0 A :=
  z_met (by decide) hA hst (Nat.le_of_ble_eq_true rfl) rfl rfl (fun p e s m below meth c X hml hr _ => by
    refine z_iload_n X dJ3_checkIndex_8e157_0 rfl rfl ?_
    refine z_if_lt (tgt := 9) X dJ3_checkIndex_8e157_1 (by decide) (fun q => absurd q q1) (fun q => ?_)
    refine z_iload_n X dJ3_checkIndex_8e157_4 rfl rfl ?_
    refine z_iload_n X dJ3_checkIndex_8e157_5 rfl rfl ?_
    refine z_icmp_lt (tgt := 16) X dJ3_checkIndex_8e157_6 (by decide) (fun q => ?_) (fun q => absurd q2 q)
    refine z_iload_n X dJ3_checkIndex_8e157_16 rfl rfl ?_
    exact z_iret X hr rfl (fun t hG hF _ => ⟨⟨_, (), rfl, ⟨rfl, trivial⟩, hG⟩, hF⟩) dJ3_checkIndex_8e157_17)
theorem jl_chk1 {l : Launch} {D : va_G} {dA : Nat → ClassId} {A : Nat → Prop} {n : Nat} (hst : l.stackTraces = false) (hA : ∀ q, n ≤ q → A q) {G : Heap → Prop} {x y : Int32} (q1 : ¬ x < 0) (q2 : x < y) : Met l yJ15_checkIndex_7cf53 (.code yJ15_checkIndex_7cf53 cJ15_checkIndex_7cf53 2 (some .int) :: gT) ({ frames := 7, cells := 0, slots := 0, locals := 294 } : Room) (va_Pc [.int x, .int y] (zB D dA A n G)) (va_Qi (fun r (_ : Unit) => r = x ∧ True) (fun (_ : Unit) t => G t.heap) A) 0 0 A :=
  z_met (by decide) hA hst (Nat.le_of_ble_eq_true rfl) rfl rfl (fun p e s m below meth c X hml hr _ => by
    refine z_iload_n X dJ15_checkIndex_7cf53_0 rfl rfl ?_
    refine z_iload_n X dJ15_checkIndex_7cf53_1 rfl rfl ?_
    refine z_null X dJ15_checkIndex_7cf53_2 ?_
    refine z_callTi (As := [.int x, .int y, .null]) (rest := []) (nA := 3) (mc := 0) (ms := 0) (rm := ({ frames := 6, cells := 0, slots := 0, locals := 252 } : Room)) (r0 := x) (pu := (fun (_ : Unit) => True)) (G1 := (fun _ => G)) X (jl_chk2 X.2.2.2.2.2.2.2.2 X.2.2.2.2.2.2.1 q1 q2) g_560 g_561 g_24 g_562 hd_yJ3_checkIndex_8e157.2 ⟨rfl, rfl, Nat.le_of_ble_eq_true rfl, Nat.le_of_ble_eq_true rfl⟩ rfl rfl (Nat.le_of_ble_eq_true rfl) dJ15_checkIndex_7cf53_3 ⟨Nat.le_of_ble_eq_true rfl, Nat.le_of_ble_eq_true rfl⟩ (fun _ _ => ?_)
    exact z_iret X hr rfl (fun t hG hF _ => ⟨⟨_, (), rfl, ⟨rfl, trivial⟩, hG⟩, hF⟩) dJ15_checkIndex_7cf53_6)
theorem jl_el {l : Launch} {D : va_G} {dA : Nat → ClassId} {A : Nat → Prop} {n : Nat} (hst : l.stackTraces = false) (hA : ∀ q, n ≤ q → A q) {zs : va_W} {K : Heap → Prop} (q0 q1 : Nat) {a da cap : Nat} {mo sz x : Int32} {f : Nat → Option Nat} {o : Option Nat} (hx : zs[q0]? = some (a, .inr (2, [.int mo, .ref da, .int sz]))) (hy : zs[q1]? = some (da, .inl (dA 5, cap, .inr (.inr (.inr (.inr f)))))) (hi : vp_in x cap) (ho : f x.toNatClampNeg = o) : Met l yJx4a65c_elementData_915e3 (.code yJx4a65c_elementData_915e3 cJx4a65c_elementData_915e3 2 (some (.object "java/lang/Object")) :: gT) ({ frames := 6, cells := 0, slots := 0, locals := 252 } : Room) (va_Pc [.ref a, .int x] (zB D dA A n (zw D A zs K))) (va_Qq (fun r (_ : Unit) => r = o ∧ True) (fun (_ : Unit) t => zw D A zs K t.heap) A) 0 0 A :=
  z_met (by decide) hA hst (Nat.le_of_ble_eq_true rfl) rfl rfl (fun p e s m below meth c X hml hr _ => by
    refine z_aload_n X dJx4a65c_elementData_915e3_0 rfl rfl ?_
    refine w_get X q0 1 rj_ws hx rfl rfl g_66 (Or.inl rfl) rfl dJx4a65c_elementData_915e3_1 ?_
    refine z_iload_n X dJx4a65c_elementData_915e3_4 rfl rfl ?_
    refine w_aald X q1 hy hi ho dJx4a65c_elementData_915e3_5 ?_
    exact z_aret X hr (Or.inl ⟨_, rfl⟩) (fun t hG hF _ => ⟨⟨_, (), rfl, ⟨rfl, trivial⟩, hG⟩, hF⟩) dJx4a65c_elementData_915e3_6)
theorem jl_get {l : Launch} {D : va_G} {dA : Nat → ClassId} {A : Nat → Prop} {n : Nat} (hst : l.stackTraces = false) (hA : ∀ q, n ≤ q → A q) {zs : va_W} {K : Heap → Prop} (q0 q1 : Nat) {a da cap : Nat} {mo sz x : Int32} {f : Nat → Option Nat} {o : Option Nat} (hx : zs[q0]? = some (a, .inr (2, [.int mo, .ref da, .int sz]))) (hy : zs[q1]? = some (da, .inl (dA 5, cap, .inr (.inr (.inr (.inr f)))))) (i1 : ¬ x < 0) (i2 : x < sz) (hi : vp_in x cap) (ho : f x.toNatClampNeg = o) : Met l yJx4a65c_get_915e3 (.code yJx4a65c_get_915e3 cJx4a65c_get_915e3 2 (some (.object "java/lang/Object")) :: gT) ({ frames := 8, cells := 0, slots := 0, locals := 336 } : Room) (va_Pc [.ref a, .int x] (zB D dA A n (zw D A zs K))) (va_Qq (fun r (_ : Unit) => r = o ∧ True) (fun (_ : Unit) t => zw D A zs K t.heap) A) 0 0 A :=
  z_met (by decide) hA hst (Nat.le_of_ble_eq_true rfl) rfl rfl (fun p e s m below meth c X hml hr _ => by
    refine z_iload_n X dJx4a65c_get_915e3_0 rfl rfl ?_
    refine z_aload_n X dJx4a65c_get_915e3_1 rfl rfl ?_
    refine w_get X q0 2 rj_ws hx rfl rfl g_67 (Or.inl rfl) rfl dJx4a65c_get_915e3_2 ?_
    refine z_callTi (As := [.int x, .int sz]) (rest := []) (nA := 2) (mc := 0) (ms := 0) (rm := ({ frames := 7, cells := 0, slots := 0, locals := 294 } : Room)) (r0 := x) (pu := (fun (_ : Unit) => True)) (G1 := (fun _ => zw D A zs K)) X (jl_chk1 X.2.2.2.2.2.2.2.2 X.2.2.2.2.2.2.1 i1 i2) g_557 g_558 g_23 g_559 hd_yJ15_checkIndex_7cf53.2 ⟨rfl, rfl, Nat.le_of_ble_eq_true rfl, Nat.le_of_ble_eq_true rfl⟩ rfl rfl (Nat.le_of_ble_eq_true rfl) dJx4a65c_get_915e3_5 ⟨Nat.le_of_ble_eq_true rfl, Nat.le_of_ble_eq_true rfl⟩ (fun _ _ => ?_)
    refine z_pop X dJx4a65c_get_915e3_8 rfl ?_
    refine z_aload_n X dJx4a65c_get_915e3_9 rfl rfl ?_
    refine z_iload_n X dJx4a65c_get_915e3_10 rfl rfl ?_
    refine z_callVq (As := [.int x]) (rest := []) (nA := 1) (mc := 0) (ms := 0) (rm := ({ frames := 6, cells := 0, slots := 0, locals := 252 } : Room)) (ro := fun _ => o) (pu := (fun (_ : Unit) => True)) (G1 := (fun _ => zw D A zs K)) X (jl_el X.2.2.2.2.2.2.2.2 X.2.2.2.2.2.2.1 q0 q1 hx hy hi ho) g_563 g_564 g_565 g_4 g_566 hd_yJx4a65c_elementData_915e3 ⟨rfl, rfl, Nat.le_of_ble_eq_true rfl, Nat.le_of_ble_eq_true rfl⟩ rfl (fun _ hG => va_recv X.2.2.2.2.2.1 hG.1 (q := (RJx4a65c, TJx4a65c, 3)) rfl hx) rfl (Nat.le_of_ble_eq_true rfl) dJx4a65c_get_915e3_11 ⟨Nat.le_of_ble_eq_true rfl, Nat.le_of_ble_eq_true rfl⟩ (fun _ _ => ?_)
    exact z_aret X hr (Or.inl ⟨_, rfl⟩) (fun t hG hF _ => ⟨⟨_, (), rfl, ⟨rfl, trivial⟩, hG⟩, hF⟩) dJx4a65c_get_915e3_14)
theorem jl_newLen {l : Launch} {D : va_G} {dA : Nat → ClassId} {A : Nat → Prop} {n : Nat} (hst : l.stackTraces = false) (hA : ∀ q, n ≤ q → A q) {G : Heap → Prop} {x y z w : Int32} (hw : x + (if y < z then z else y) = w) (w1 : 0 < w) (w2 : w ≤ 2147483639) : Met l yJ8_newLength_cabcc (.code yJ8_newLength_cabcc cJ8_newLength_cabcc 4 (some .int) :: gT) ({ frames := 4, cells := 0, slots := 0, locals := 168 } : Room) (va_Pc [.int x, .int y, .int z] (zB D dA A n G)) (va_Qi (fun r (_ : Unit) => r = w ∧ True) (fun (_ : Unit) t => G t.heap) A) 0 0 A :=
  z_met (by decide) hA hst (Nat.le_of_ble_eq_true rfl) rfl rfl (fun p e s m below meth c X hml hr _ => by
    refine z_iload_n X dJ8_newLength_cabcc_0 rfl rfl ?_
    refine z_iload_n X dJ8_newLength_cabcc_1 rfl rfl ?_
    refine z_iload_n X dJ8_newLength_cabcc_2 rfl rfl ?_
    refine z_max X g_125 g_126 g_9 g_127 (Nat.le_of_ble_eq_true rfl) (Nat.le_of_ble_eq_true rfl) ⟨Nat.le_refl _, Nat.le_refl _⟩ dJ8_newLength_cabcc_3 ?_
    refine z_iadd X dJ8_newLength_cabcc_6 ?_
    rw [hw]
    refine z_istore_n (lo' := [(3, .int w), (0, .int x), (1, .int y), (2, .int z)]) X dJ8_newLength_cabcc_7 rfl (by rw [hml]; decide) rfl rfl ?_
    refine z_iconst (v := 0) X dJ8_newLength_cabcc_8 (by decide) ?_
    refine z_iload_n X dJ8_newLength_cabcc_9 rfl rfl ?_
    refine z_icmp_ge (tgt := 21) X dJ8_newLength_cabcc_10 (by decide) (fun q => absurd q (Int32.not_le.mpr w1)) (fun q => ?_)
    refine z_iload_n X dJ8_newLength_cabcc_13 rfl rfl ?_
    refine z_ldc X g_128 dJ8_newLength_cabcc_14 ?_
    refine z_icmp_gt (tgt := 21) X dJ8_newLength_cabcc_16 (by decide) (fun q => absurd q (Int32.not_lt.mpr w2)) (fun q => ?_)
    refine z_iload_n X dJ8_newLength_cabcc_19 rfl rfl ?_
    exact z_iret X hr rfl (fun t hG hF _ => ⟨⟨_, (), rfl, ⟨rfl, trivial⟩, hG⟩, hF⟩) dJ8_newLength_cabcc_20)
theorem wa {zs : va_W} {q1 : Nat} {x y : Nat × va_E} (h : zs[q1]? = some x) : (zs ++ [y])[q1]? = some x := by
  rw [List.getElem?_append_left (List.getElem?_eq_some_iff.mp h).1]
  exact h
theorem z_ldcM {p : Program} {l : Launch} {e : Env} {R : Room} {s : State} {m : MethodId} {args : Array Value} {below : List Frame} {meth : Method} {c : Code} {A : Nat → Prop} {G : Heap → Prop} {cells slots idx : Nat} {Q : State → Prop} {cc : ByteArray} {own : String} {D : va_G} {dA : Nat → ClassId} {pc : Nat} {lo : List (Nat × Value)} {ll : List (Nat × Int64)} {rest : List Value} (X : zc p l s m args meth c cc own D dA A) (hw : Cond.classLink own idx "[Ljava/lang/Object;" ∈ gT) (hdg : decode cc pc = .ok (.ldc idx, 2)) (k : zz p l e R s m args below meth c A G cells slots Q (pc + 2) lo ll (.ref (dA 98) :: rest)) : zz p l e R s m args below meth c A G cells slots Q pc lo ll rest :=
  fun H locs ls hG hS hl hc => va_ldcM X.1 X.2.1 X.2.2.1 (X.2.2.2.1 _ hw) X.2.2.2.2.2.2.2.1.2.2.2.2.2.2.1 hdg (k H locs ls hG hS hl hc)
set_option maxRecDepth 100000 in
theorem jl_cp2 {l : Launch} {D : va_G} {dA : Nat → ClassId} {A : Nat → Prop} {n : Nat} (hst : l.stackTraces = false) (hA : ∀ q, n ≤ q → A q) {zs : va_W} {K : Heap → Prop} (hf : kf A K) (q1 : Nat) {b cap n1 : Nat} {f : Nat → Option Nat} (hy : zs[q1]? = some (b, .inl (dA 5, cap, .inr (.inr (.inr (.inr f)))))) (hcap : cap ≤ n1) (hn1 : n1 ≤ 100000) (hK : ∀ H, K H → ∀ (j y : Nat), f j = some y → ∃ (ci : Nat) (fs : List Value) (r : vw_C), vwCl[ci]? = some r ∧ Cond.castable r.1 "java/lang/Object" ∈ gF ∧ va_at D vwCl (y, .inr (ci, fs)) H) : Met l yJ7_copyOf_6403c (.code yJ7_copyOf_6403c cJ7_copyOf_6403c 4 (some (.array (.object "java/lang/Object"))) :: gT) ({ frames := 3, cells := 1, slots := n1, locals := 126 } : Room) (va_Pc [.ref b, .int (nI n1), .ref (dA 98)] (zB D dA A n (zw D A zs K))) (va_Qq (fun r (u : Nat) => r = some u ∧ True) (fun (u : Nat) t => zw D A (zs ++ [(u, .inl (dA 5, n1, .inr (.inr (.inr (.inr (va_cpy f (fun _ => none) 0 0 cap))))))]) K t.heap) A) 1 n1 A :=
  z_met (by decide) hA hst (Nat.le_of_ble_eq_true rfl) rfl rfl (fun p e s m below meth c X hml hr _ => by
    refine z_aload_n X dJ7_copyOf_6403c_0 rfl rfl ?_
    refine z_ldcM X g_161 dJ7_copyOf_6403c_1 ?_
    refine z_acmp_ne (x := some (dA 98)) (y := some (dA 98)) (tgt := 13) X dJ7_copyOf_6403c_3 (by decide) (fun q => ?_) (fun q => absurd rfl q)
    refine z_iload_n X dJ7_copyOf_6403c_6 rfl rfl ?_
    refine w_newq hf X g_163  (nI_pos (by omega)) (nI_clamp (by omega)) (by omega) ⟨Nat.le_refl _, by show 0 + n1 ≤ n1; omega⟩ dJ7_copyOf_6403c_7 (fun u => ?_)
    refine z_goto (tgt := 24) X dJ7_copyOf_6403c_10 (by decide) ?_
    refine z_astore_n (lo' := [(3, .ref u), (0, .ref b), (1, .int (nI n1)), (2, .ref (dA 98))]) X dJ7_copyOf_6403c_24 rfl (by rw [hml]; decide) rfl rfl ?_
    refine z_aload_n X dJ7_copyOf_6403c_25 rfl rfl ?_
    refine z_iconst (v := 0) X dJ7_copyOf_6403c_26 (by decide) ?_
    refine z_aload_n X dJ7_copyOf_6403c_27 rfl rfl ?_
    refine z_iconst (v := 0) X dJ7_copyOf_6403c_28 (by decide) ?_
    refine z_aload_n X dJ7_copyOf_6403c_29 rfl rfl ?_
    refine w_alen X q1 (wa hy) rfl dJ7_copyOf_6403c_30 ?_
    refine z_iload_n X dJ7_copyOf_6403c_31 rfl rfl ?_
    refine z_min X g_164 g_165 g_9 g_166 (Nat.le_of_ble_eq_true rfl) (Nat.le_of_ble_eq_true rfl) ⟨Nat.le_refl _, by show 0 + n1 ≤ n1; omega⟩ dJ7_copyOf_6403c_32 ?_
    rw [if_neg (nI_nlt hcap (by omega))]
    refine w_copy hf X q1 zs.length g_167 g_169 g_168 g_11 (wa hy) xa1 (by decide) (by decide) (nI_pos (by omega)) (by rw [nI_clamp (by omega)]; exact Nat.le_of_eq (Nat.zero_add cap)) (by rw [nI_clamp (by omega)]; exact Nat.le_trans (Nat.le_of_eq (Nat.zero_add cap)) hcap) (fun H hH j _ y hy9 => ?_) (Nat.le_of_ble_eq_true rfl) (Nat.le_of_ble_eq_true rfl) (zs' := zs ++ [(u, .inl (dA 5, n1, .inr (.inr (.inr (.inr (va_cpy f (fun _ => none) 0 0 cap))))))]) (by rw [nI_clamp (by omega)]; exact xe1) dJ7_copyOf_6403c_35 ?_
    · obtain ⟨ci, fs, r, g1, g2, g3⟩ := hK H hH.2.2 _ y hy9
      exact va_rAny X.2.2.2.2.2.1 (zone1 g3) (q0 := 0) rfl g1 (z_asg X g2)
    refine z_aload_n X dJ7_copyOf_6403c_38 rfl rfl ?_
    refine zz.widen (k := 1) (n := n1) (by omega) (by omega) ?_
    exact z_aret (o := some u) X hr (Or.inr ⟨_, rfl⟩) (fun t hG hF _ => ⟨⟨_, u, rfl, ⟨rfl, trivial⟩, hG⟩, hF⟩) dJ7_copyOf_6403c_39)
theorem w_getC {p : Program} {l : Launch} {e : Env} {R : Room} {s : State} {m : MethodId} {args : Array Value} {below : List Frame} {meth : Method} {c : Code} {A : Nat → Prop} {cells slots idx : Nat} {Q : State → Prop} {cc : ByteArray} {own : String} {D : va_G} {dA : Nat → ClassId} {pc : Nat} {lo : List (Nat × Value)} {ll : List (Nat × Int64)} {rest : List Value} {zs : va_W} {K : Heap → Prop} (X : zc p l s m args meth c cc own D dA A) (q1 : Nat) {b cap : Nat} {f : Nat → Option Nat} (hy : zs[q1]? = some (b, .inl (dA 5, cap, .inr (.inr (.inr (.inr f)))))) (h1 : Cond.methodLink own idx ⟨"java/lang/Object", "getClass", "()Ljava/lang/Class;"⟩ ∈ gT) (h2 : [Cond.declares ⟨"java/lang/Object", "getClass", "()Ljava/lang/Class;"⟩].all (fun w => decide (w ∈ lw_tbl) && (goodWord w || (w.onTables && w.faceAtom))) = true) (h3 : Cond.selects "[Ljava/lang/Object;" ⟨"java/lang/Object", "getClass", "()Ljava/lang/Class;"⟩ ⟨"java/lang/Object", "getClass", "()Ljava/lang/Class;"⟩ ∈ gT) (h4 : Cond.instanceMethod ⟨"java/lang/Object", "getClass", "()Ljava/lang/Class;"⟩ ∈ gT) (h5 : Cond.native ⟨"java/lang/Object", "getClass", "()Ljava/lang/Class;"⟩ ∈ gT) (hfr : 1 ≤ R.frames) (hlo : (rest.map fun v => v.category).sum + 14 ≤ R.locals) (hdg : decode cc pc = .ok (.invokevirtual idx, 3))
    (k : zz p l e R s m args below meth c A (zw D A zs K) cells slots Q (pc + 3) lo ll (.ref (dA 98) :: rest)) : zz p l e R s m args below meth c A (zw D A zs K) cells slots Q pc lo ll (.ref b :: rest) :=
  fun H locs ls hG hS hl hc => va_getC X.1 X.2.1 hl.1.symm X.2.2.1 (X.2.2.2.1 _ h1) (z_hat h2 X _ List.mem_cons_self) (X.2.2.2.1 _ h3) (X.2.2.2.1 _ h4) (X.2.2.2.1 _ h5) X.2.2.2.2.2.2.2.1.2.2.2.2.2.2.1 ⟨_, hG.1 q1 _ hy, rfl, va_nmO (X.2.2.2.2.2.1.2 5 (dA 5, .object "java/lang/Object") rfl).2 (by decide +kernel)⟩ hfr hlo hdg (k H locs ls hG hS hl hc)
theorem hat_gc : [Cond.declares ⟨"java/lang/Object", "getClass", "()Ljava/lang/Class;"⟩].all (fun w => decide (w ∈ lw_tbl) && (goodWord w || (w.onTables && w.faceAtom))) = true := by decide +kernel
theorem jl_cp1 {l : Launch} {D : va_G} {dA : Nat → ClassId} {A : Nat → Prop} {n : Nat} (hst : l.stackTraces = false) (hA : ∀ q, n ≤ q → A q) {zs : va_W} {K : Heap → Prop} (hf : kf A K) (q1 : Nat) {b cap n1 : Nat} {f : Nat → Option Nat} (hy : zs[q1]? = some (b, .inl (dA 5, cap, .inr (.inr (.inr (.inr f)))))) (hcap : cap ≤ n1) (hn1 : n1 ≤ 100000) (hK : ∀ H, K H → ∀ (j y : Nat), f j = some y → ∃ (ci : Nat) (fs : List Value) (r : vw_C), vwCl[ci]? = some r ∧ Cond.castable r.1 "java/lang/Object" ∈ gF ∧ va_at D vwCl (y, .inr (ci, fs)) H) : Met l yJ7_copyOf_1904c (.code yJ7_copyOf_1904c cJ7_copyOf_1904c 2 (some (.array (.object "java/lang/Object"))) :: gT) ({ frames := 4, cells := 1, slots := n1, locals := 168 } : Room) (va_Pc [.ref b, .int (nI n1)] (zB D dA A n (zw D A zs K))) (va_Qq (fun r (u : Nat) => r = some u ∧ True) (fun (u : Nat) t => zw D A (zs ++ [(u, .inl (dA 5, n1, .inr (.inr (.inr (.inr (va_cpy f (fun _ => none) 0 0 cap))))))]) K t.heap) A) 1 n1 A :=
  z_met (by decide) hA hst (Nat.le_of_ble_eq_true rfl) rfl rfl (fun p e s m below meth c X hml hr _ => by
    refine z_aload_n X dJ7_copyOf_1904c_0 rfl rfl ?_
    refine z_iload_n X dJ7_copyOf_1904c_1 rfl rfl ?_
    refine z_aload_n X dJ7_copyOf_1904c_2 rfl rfl ?_
    refine w_getC X q1 hy g_135 hat_gc g_1745 g_136 g_157 (Nat.le_of_ble_eq_true rfl) (Nat.le_of_ble_eq_true rfl) dJ7_copyOf_1904c_3 ?_
    refine z_callTq (As := [.ref b, .int (nI n1), .ref (dA 98)]) (rest := []) (nA := 3) (mc := 1) (ms := n1) (rm := ({ frames := 3, cells := 1, slots := n1, locals := 126 } : Room)) (ro := fun (u : Nat) => some u) (pu := (fun _ => True)) (G1 := (fun (u : Nat) => zw D A (zs ++ [(u, .inl (dA 5, n1, .inr (.inr (.inr (.inr (va_cpy f (fun _ => none) 0 0 cap))))))]) K)) X (jl_cp2 X.2.2.2.2.2.2.2.2 X.2.2.2.2.2.2.1 hf q1 hy hcap hn1 hK) g_158 g_159 g_10 g_160 hd_yJ7_copyOf_6403c.2 ⟨rfl, rfl, Nat.le_of_ble_eq_true rfl, Nat.le_of_ble_eq_true rfl⟩ rfl rfl (Nat.le_of_ble_eq_true rfl) dJ7_copyOf_1904c_6 ⟨Nat.le_refl _, by show 0 + n1 ≤ n1; omega⟩ (fun u _ => ?_)
    refine zz.widen (k := 1) (n := n1) (by omega) (by omega) ?_
    exact z_aret (o := some u) X hr (Or.inr ⟨_, rfl⟩) (fun t hG hF _ => ⟨⟨_, u, rfl, ⟨rfl, trivial⟩, hG⟩, hF⟩) dJ7_copyOf_1904c_9)
theorem z_alenE {p : Program} {l : Launch} {e : Env} {R : Room} {s : State} {m : MethodId} {args : Array Value} {below : List Frame} {meth : Method} {c : Code} {A : Nat → Prop} {cells slots : Nat} {Q : State → Prop} {cc : ByteArray} {own : String} {D : va_G} {dA : Nat → ClassId} {pc : Nat} {lo : List (Nat × Value)} {ll : List (Nat × Int64)} {rest : List Value} {G : Heap → Prop} (X : zc p l s m args meth c cc own D dA A) (hdg : decode cc pc = .ok (.arraylength, 1))
    (k : zz p l e R s m args below meth c A G cells slots Q (pc + 1) lo ll (.int 0 :: rest)) : zz p l e R s m args below meth c A G cells slots Q pc lo ll (.ref (dA 99) :: rest) :=
  fun H locs ls hG hS hl hc => va_tlen X.1 X.2.1 X.2.2.2.2.2.2.2.1.2.2.2.1.2 hS rfl hdg (k H locs ls hG hS hl hc)
theorem wset {zs : va_W} {q0 : Nat} {x y z : Nat × va_E} (h : zs[q0]? = some x) : (zs ++ [y]).set q0 z = zs.set q0 z ++ [y] := by
  rw [List.set_append_left _ _ (List.getElem?_eq_some_iff.mp h).1]
def gcap (c : Nat) : Nat := c + max 1 (c / 2)
theorem gcap_ok : ∀ c, c < 1001 → nI c + (if nI (c + 1) - nI c < (nI c >>> ((1 : Int32) &&& 31)) then (nI c >>> ((1 : Int32) &&& 31)) else nI (c + 1) - nI c) = nI (gcap c) := by decide +kernel
set_option maxRecDepth 100000 in
theorem jl_growE2 {l : Launch} {D : va_G} {dA : Nat → ClassId} {A : Nat → Prop} {n : Nat} (hst : l.stackTraces = false) (hA : ∀ q, n ≤ q → A q) {zs : va_W} {K : Heap → Prop} (hf : kf A K) (q0 : Nat) {a : Nat} {mo sz : Int32} (hx : zs[q0]? = some (a, .inr (2, [.int mo, .ref (dA 99), .int sz]))) : Met l yJx4a65c_grow_92f84 (.code yJx4a65c_grow_92f84 cJx4a65c_grow_92f84 4 (some (.array (.object "java/lang/Object"))) :: gT) ({ frames := 5, cells := 1, slots := 10, locals := 210 } : Room) (va_Pc [.ref a, .int 1] (zB D dA A n (zw D A zs K))) (va_Qq (fun r (u : Nat) => r = some u ∧ True) (fun (u : Nat) t => zw D A (zs.set q0 (a, .inr (2, [.int mo, .ref u, .int sz])) ++ [(u, .inl (dA 5, 10, .inr (.inr (.inr (.inr (fun _ => none))))))]) K t.heap) A) 1 10 A :=
  z_met (by decide) hA hst (Nat.le_of_ble_eq_true rfl) rfl rfl (fun p e s m below meth c X hml hr _ => by
    refine z_aload_n X dJx4a65c_grow_92f84_0 rfl rfl ?_
    refine w_get X q0 1 rj_ws hx rfl rfl g_66 (Or.inl rfl) rfl dJx4a65c_grow_92f84_1 ?_
    refine z_alenE X dJx4a65c_grow_92f84_4 ?_
    refine z_istore_n (lo' := [(2, .int 0), (0, .ref a), (1, .int 1)]) X dJx4a65c_grow_92f84_5 rfl (by rw [hml]; decide) rfl rfl ?_
    refine z_iload_n X dJx4a65c_grow_92f84_6 rfl rfl ?_
    refine z_if_gt (tgt := 20) X dJx4a65c_grow_92f84_7 (by decide) (fun q => absurd q (by decide)) (fun q => ?_)
    refine z_aload_n X dJx4a65c_grow_92f84_10 rfl rfl ?_
    refine w_get X q0 1 rj_ws hx rfl rfl g_66 (Or.inl rfl) rfl dJx4a65c_grow_92f84_11 ?_
    refine c_empty X g_64 dJx4a65c_grow_92f84_14 ?_
    refine z_acmp_eq (x := some (dA 99)) (y := some (dA 99)) (tgt := 45) X dJx4a65c_grow_92f84_17 (by decide) (fun q => ?_) (fun q => absurd rfl q)
    refine z_aload_n X dJx4a65c_grow_92f84_45 rfl rfl ?_
    refine z_bipush (v := 10) X dJx4a65c_grow_92f84_46 (by decide) ?_
    refine z_iload_n X dJx4a65c_grow_92f84_48 rfl rfl ?_
    refine z_max X g_170 g_126 g_9 g_127 (Nat.le_of_ble_eq_true rfl) (Nat.le_of_ble_eq_true rfl) ⟨Nat.le_of_ble_eq_true rfl, Nat.le_of_ble_eq_true rfl⟩ dJx4a65c_grow_92f84_49 ?_
    rw [if_neg (show ¬ (10 : Int32) < 1 by decide)]
    refine w_newq hf X (N' := 10) g_171 (by decide) (by decide) (by decide) ⟨Nat.le_of_ble_eq_true rfl, Nat.le_of_ble_eq_true rfl⟩ dJx4a65c_grow_92f84_52 (fun u => ?_)
    refine z_dup_x1 X dJx4a65c_grow_92f84_55 rfl rfl ?_
    refine w_put hf X q0 1 (v := .ref u) (zs' := zs.set q0 (a, .inr (2, [.int mo, .ref u, .int sz])) ++ [(u, .inl (dA 5, 10, .inr (.inr (.inr (.inr (fun _ => none))))))]) (ty := .array (.object "java/lang/Object")) rj_ws (wa hx) rfl tyJx4a65c_ok nmJx4a65c rfl rfl g_66 (Or.inl rfl) rfl rfl rfl rfl (wset hx) dJx4a65c_grow_92f84_56 ?_
    exact z_aret (o := some u) X hr (Or.inr ⟨_, rfl⟩) (fun t hG hF _ => ⟨⟨_, u, rfl, ⟨rfl, trivial⟩, hG⟩, hF⟩) dJx4a65c_grow_92f84_59)
set_option maxRecDepth 100000 in
theorem jl_growN2 {l : Launch} {D : va_G} {dA : Nat → ClassId} {A : Nat → Prop} {n : Nat} (hst : l.stackTraces = false) (hA : ∀ q, n ≤ q → A q) {zs : va_W} {K : Heap → Prop} (hf : kf A K) (q0 q1 : Nat) {a b cap : Nat} {mo sz : Int32} {f : Nat → Option Nat} (hx : zs[q0]? = some (a, .inr (2, [.int mo, .ref b, .int sz]))) (hy : zs[q1]? = some (b, .inl (dA 5, cap, .inr (.inr (.inr (.inr f)))))) (hc0 : 0 < cap) (hc9 : cap ≤ 1000) (hK : ∀ H, K H → ∀ (j y : Nat), f j = some y → ∃ (ci : Nat) (fs : List Value) (r : vw_C), vwCl[ci]? = some r ∧ Cond.castable r.1 "java/lang/Object" ∈ gF ∧ va_at D vwCl (y, .inr (ci, fs)) H) : Met l yJx4a65c_grow_92f84 (.code yJx4a65c_grow_92f84 cJx4a65c_grow_92f84 4 (some (.array (.object "java/lang/Object"))) :: gT) ({ frames := 5, cells := 1, slots := (gcap cap), locals := 210 } : Room) (va_Pc [.ref a, .int (nI (cap + 1))] (zB D dA A n (zw D A zs K))) (va_Qq (fun r (u : Nat) => r = some u ∧ True) (fun (u : Nat) t => zw D A (zs.set q0 (a, .inr (2, [.int mo, .ref u, .int sz])) ++ [(u, .inl (dA 5, gcap cap, .inr (.inr (.inr (.inr (va_cpy f (fun _ => none) 0 0 cap))))))]) K t.heap) A) 1 ((gcap cap)) A :=
  z_met (by decide) hA hst (Nat.le_of_ble_eq_true rfl) rfl rfl (fun p e s m below meth c X hml hr _ => by
    have hgc : gcap cap ≤ 2000 := by unfold gcap; omega
    have hge : cap ≤ gcap cap := by unfold gcap; omega
    refine z_aload_n X dJx4a65c_grow_92f84_0 rfl rfl ?_
    refine w_get X q0 1 rj_ws hx rfl rfl g_66 (Or.inl rfl) rfl dJx4a65c_grow_92f84_1 ?_
    refine w_alen X q1 hy rfl dJx4a65c_grow_92f84_4 ?_
    refine z_istore_n (lo' := [(2, .int (nI cap)), (0, .ref a), (1, .int (nI (cap + 1)))]) X dJx4a65c_grow_92f84_5 rfl (by rw [hml]; decide) rfl rfl ?_
    refine z_iload_n X dJx4a65c_grow_92f84_6 rfl rfl ?_
    refine z_if_gt (tgt := 20) X dJx4a65c_grow_92f84_7 (by decide) (fun q => ?_) (fun q => absurd (nI_lt hc0 (by omega)) q)
    refine z_iload_n X dJx4a65c_grow_92f84_20 rfl rfl ?_
    refine z_iload_n X dJx4a65c_grow_92f84_21 rfl rfl ?_
    refine z_iload_n X dJx4a65c_grow_92f84_22 rfl rfl ?_
    refine z_isub X dJx4a65c_grow_92f84_23 ?_
    refine z_iload_n X dJx4a65c_grow_92f84_24 rfl rfl ?_
    refine z_iconst (v := 1) X dJx4a65c_grow_92f84_25 (by decide) ?_
    refine z_ishr X dJx4a65c_grow_92f84_26 ?_
    refine z_callTi (As := [.int (nI cap), .int (nI (cap + 1) - nI cap), .int (nI cap >>> ((1 : Int32) &&& 31))]) (rest := []) (nA := 3) (mc := 0) (ms := 0) (rm := ({ frames := 4, cells := 0, slots := 0, locals := 168 } : Room)) (r0 := nI (gcap cap)) (pu := (fun (_ : Unit) => True)) (G1 := (fun _ => zw D A zs K)) X (jl_newLen X.2.2.2.2.2.2.2.2 X.2.2.2.2.2.2.1 (gcap_ok cap (by omega)) (nI_lt (a := 0) (by omega) (by omega)) (nI_le (b := 2147483639) (by omega) (by omega))) g_122 g_123 g_8 g_124 hd_yJ8_newLength_cabcc.2 ⟨rfl, rfl, Nat.le_of_ble_eq_true rfl, Nat.le_of_ble_eq_true rfl⟩ rfl rfl (Nat.le_of_ble_eq_true rfl) dJx4a65c_grow_92f84_27 ⟨Nat.le_of_ble_eq_true rfl, by show 0 ≤ _; omega⟩ (fun _ _ => ?_)
    refine z_istore_n (lo' := [(3, .int (nI (gcap cap))), (2, .int (nI cap)), (0, .ref a), (1, .int (nI (cap + 1)))]) X dJx4a65c_grow_92f84_30 rfl (by rw [hml]; decide) rfl rfl ?_
    refine z_aload_n X dJx4a65c_grow_92f84_31 rfl rfl ?_
    refine z_aload_n X dJx4a65c_grow_92f84_32 rfl rfl ?_
    refine w_get X q0 1 rj_ws hx rfl rfl g_66 (Or.inl rfl) rfl dJx4a65c_grow_92f84_33 ?_
    refine z_iload_n X dJx4a65c_grow_92f84_36 rfl rfl ?_
    refine z_callTq (As := [.ref b, .int (nI (gcap cap))]) (rest := [.ref a]) (nA := 2) (mc := 1) (ms := (gcap cap)) (rm := ({ frames := 4, cells := 1, slots := (gcap cap), locals := 168 } : Room)) (ro := fun (u : Nat) => some u) (pu := (fun _ => True)) (G1 := (fun (u : Nat) => zw D A (zs ++ [(u, .inl (dA 5, gcap cap, .inr (.inr (.inr (.inr (va_cpy f (fun _ => none) 0 0 cap))))))]) K)) X (jl_cp1 X.2.2.2.2.2.2.2.2 X.2.2.2.2.2.2.1 hf q1 hy hge (by omega) hK) g_132 g_133 g_10 g_134 hd_yJ7_copyOf_1904c.2 ⟨rfl, rfl, Nat.le_of_ble_eq_true rfl, Nat.le_of_ble_eq_true rfl⟩ rfl rfl (Nat.le_of_ble_eq_true rfl) dJx4a65c_grow_92f84_37 ⟨Nat.le_refl _, by show 0 + 0 + gcap cap ≤ gcap cap; omega⟩ (fun u _ => ?_)
    refine z_dup_x1 X dJx4a65c_grow_92f84_40 rfl rfl ?_
    refine w_put hf X q0 1 (v := .ref u) (zs' := zs.set q0 (a, .inr (2, [.int mo, .ref u, .int sz])) ++ [(u, .inl (dA 5, gcap cap, .inr (.inr (.inr (.inr (va_cpy f (fun _ => none) 0 0 cap))))))]) (ty := .array (.object "java/lang/Object")) rj_ws (wa hx) rfl tyJx4a65c_ok nmJx4a65c rfl rfl g_66 (Or.inl rfl) rfl rfl rfl rfl (wset hx) dJx4a65c_grow_92f84_41 ?_
    refine zz.widen (k := 1) (n := gcap cap) (by omega) (by omega) ?_
    exact z_aret (o := some u) X hr (Or.inr ⟨_, rfl⟩) (fun t hG hF _ => ⟨⟨_, u, rfl, ⟨rfl, trivial⟩, hG⟩, hF⟩) dJx4a65c_grow_92f84_44)
theorem jl_growE1 {l : Launch} {D : va_G} {dA : Nat → ClassId} {A : Nat → Prop} {n : Nat} (hst : l.stackTraces = false) (hA : ∀ q, n ≤ q → A q) {zs : va_W} {K : Heap → Prop} (hf : kf A K) (q0 : Nat) {a : Nat} {mo : Int32} (hx : zs[q0]? = some (a, .inr (2, [.int mo, .ref (dA 99), .int 0]))) : Met l yJx4a65c_grow_d5877 (.code yJx4a65c_grow_d5877 cJx4a65c_grow_d5877 1 (some (.array (.object "java/lang/Object"))) :: gT) ({ frames := 6, cells := 1, slots := 10, locals := 252 } : Room) (va_Pc [.ref a] (zB D dA A n (zw D A zs K))) (va_Qq (fun r (u : Nat) => r = some u ∧ True) (fun (u : Nat) t => zw D A (zs.set q0 (a, .inr (2, [.int mo, .ref u, .int 0])) ++ [(u, .inl (dA 5, 10, .inr (.inr (.inr (.inr (fun _ => none))))))]) K t.heap) A) 1 10 A :=
  z_met (by decide) hA hst (Nat.le_of_ble_eq_true rfl) rfl rfl (fun p e s m below meth c X hml hr _ => by
    refine z_aload_n X dJx4a65c_grow_d5877_0 rfl rfl ?_
    refine z_aload_n X dJx4a65c_grow_d5877_1 rfl rfl ?_
    refine w_get X q0 2 rj_ws hx rfl rfl g_67 (Or.inl rfl) rfl dJx4a65c_grow_d5877_2 ?_
    refine z_iconst (v := 1) X dJx4a65c_grow_d5877_5 (by decide) ?_
    refine z_iadd X dJx4a65c_grow_d5877_6 ?_
    rw [show (0 : Int32) + 1 = 1 by decide]
    refine z_callVq (As := [.int 1]) (rest := []) (nA := 1) (mc := 1) (ms := 10) (rm := ({ frames := 5, cells := 1, slots := 10, locals := 210 } : Room)) (ro := fun (u : Nat) => some u) (pu := (fun _ => True)) (G1 := (fun (u : Nat) => zw D A (zs.set q0 (a, .inr (2, [.int mo, .ref u, .int 0])) ++ [(u, .inl (dA 5, 10, .inr (.inr (.inr (.inr (fun _ => none))))))]) K)) X (jl_growE2 X.2.2.2.2.2.2.2.2 X.2.2.2.2.2.2.1 hf q0 hx) g_118 g_120 gs_2 g_4 g_121 hd_yJx4a65c_grow_92f84 ⟨rfl, rfl, Nat.le_of_ble_eq_true rfl, Nat.le_of_ble_eq_true rfl⟩ rfl (fun _ hG => va_recv X.2.2.2.2.2.1 hG.1 (q := (RJx4a65c, TJx4a65c, 3)) rfl hx) rfl (Nat.le_of_ble_eq_true rfl) dJx4a65c_grow_d5877_7 ⟨Nat.le_of_ble_eq_true rfl, Nat.le_of_ble_eq_true rfl⟩ (fun u _ => ?_)
    exact z_aret (o := some u) X hr (Or.inr ⟨_, rfl⟩) (fun t hG hF _ => ⟨⟨_, u, rfl, ⟨rfl, trivial⟩, hG⟩, hF⟩) dJx4a65c_grow_d5877_10)
theorem jl_growN1 {l : Launch} {D : va_G} {dA : Nat → ClassId} {A : Nat → Prop} {n : Nat} (hst : l.stackTraces = false) (hA : ∀ q, n ≤ q → A q) {zs : va_W} {K : Heap → Prop} (hf : kf A K) (q0 q1 : Nat) {a b cap : Nat} {mo : Int32} {f : Nat → Option Nat} (hx : zs[q0]? = some (a, .inr (2, [.int mo, .ref b, .int (nI cap)]))) (hy : zs[q1]? = some (b, .inl (dA 5, cap, .inr (.inr (.inr (.inr f)))))) (hc0 : 0 < cap) (hc9 : cap ≤ 1000) (hK : ∀ H, K H → ∀ (j y : Nat), f j = some y → ∃ (ci : Nat) (fs : List Value) (r : vw_C), vwCl[ci]? = some r ∧ Cond.castable r.1 "java/lang/Object" ∈ gF ∧ va_at D vwCl (y, .inr (ci, fs)) H) : Met l yJx4a65c_grow_d5877 (.code yJx4a65c_grow_d5877 cJx4a65c_grow_d5877 1 (some (.array (.object "java/lang/Object"))) :: gT) ({ frames := 6, cells := 1, slots := (gcap cap), locals := 252 } : Room) (va_Pc [.ref a] (zB D dA A n (zw D A zs K))) (va_Qq (fun r (u : Nat) => r = some u ∧ True) (fun (u : Nat) t => zw D A (zs.set q0 (a, .inr (2, [.int mo, .ref u, .int (nI cap)])) ++ [(u, .inl (dA 5, gcap cap, .inr (.inr (.inr (.inr (va_cpy f (fun _ => none) 0 0 cap))))))]) K t.heap) A) 1 ((gcap cap)) A :=
  z_met (by decide) hA hst (Nat.le_of_ble_eq_true rfl) rfl rfl (fun p e s m below meth c X hml hr _ => by
    refine z_aload_n X dJx4a65c_grow_d5877_0 rfl rfl ?_
    refine z_aload_n X dJx4a65c_grow_d5877_1 rfl rfl ?_
    refine w_get X q0 2 rj_ws hx rfl rfl g_67 (Or.inl rfl) rfl dJx4a65c_grow_d5877_2 ?_
    refine z_iconst (v := 1) X dJx4a65c_grow_d5877_5 (by decide) ?_
    refine z_iadd X dJx4a65c_grow_d5877_6 ?_
    rw [nI_1]
    refine z_callVq (As := [.int (nI (cap + 1))]) (rest := []) (nA := 1) (mc := 1) (ms := (gcap cap)) (rm := ({ frames := 5, cells := 1, slots := (gcap cap), locals := 210 } : Room)) (ro := fun (u : Nat) => some u) (pu := (fun _ => True)) (G1 := (fun (u : Nat) => zw D A (zs.set q0 (a, .inr (2, [.int mo, .ref u, .int (nI cap)])) ++ [(u, .inl (dA 5, gcap cap, .inr (.inr (.inr (.inr (va_cpy f (fun _ => none) 0 0 cap))))))]) K)) X (jl_growN2 X.2.2.2.2.2.2.2.2 X.2.2.2.2.2.2.1 hf q0 q1 hx hy hc0 hc9 hK) g_118 g_120 gs_2 g_4 g_121 hd_yJx4a65c_grow_92f84 ⟨rfl, rfl, Nat.le_of_ble_eq_true rfl, Nat.le_of_ble_eq_true rfl⟩ rfl (fun _ hG => va_recv X.2.2.2.2.2.1 hG.1 (q := (RJx4a65c, TJx4a65c, 3)) rfl hx) rfl (Nat.le_of_ble_eq_true rfl) dJx4a65c_grow_d5877_7 ⟨Nat.le_refl _, by show 0 + gcap cap ≤ gcap cap; omega⟩ (fun u _ => ?_)
    refine zz.widen (k := 1) (n := gcap cap) (by omega) (by omega) ?_
    exact z_aret (o := some u) X hr (Or.inr ⟨_, rfl⟩) (fun t hG hF _ => ⟨⟨_, u, rfl, ⟨rfl, trivial⟩, hG⟩, hF⟩) dJx4a65c_grow_d5877_10)
theorem wl1 {zs : va_W} {q0 : Nat} {x y : Nat × va_E} : (zs.set q0 y ++ [x])[zs.length]? = some x := by simp
theorem wl2 {zs : va_W} {q0 : Nat} {x y z : Nat × va_E} : (zs.set q0 y ++ [x]).set zs.length z = zs.set q0 y ++ [z] := by simp
theorem wl3 {zs : va_W} {q0 : Nat} {w x y : Nat × va_E} (h : zs[q0]? = some w) : (zs.set q0 y ++ [x])[q0]? = some y := by
  refine wa ?_
  rw [List.getElem?_set_self (List.getElem?_eq_some_iff.mp h).1]
theorem wl4 {zs : va_W} {q0 : Nat} {w x y z : Nat × va_E} (h : zs[q0]? = some w) : (zs.set q0 y ++ [x]).set q0 z = zs.set q0 z ++ [x] := by
  rw [List.set_append_left _ _ (by rw [List.length_set]; exact (List.getElem?_eq_some_iff.mp h).1), List.set_set]
theorem wl5 {zs : va_W} {q0 qk : Nat} {w x y : Nat × va_E} (hne : q0 ≠ qk) (h : zs[qk]? = some w) : (zs.set q0 y ++ [x])[qk]? = some w := by
  refine wa ?_
  rw [List.getElem?_set_ne hne]
  exact h
set_option maxRecDepth 100000 in
theorem jl_add3E {l : Launch} {D : va_G} {dA : Nat → ClassId} {A : Nat → Prop} {n : Nat} (hst : l.stackTraces = false) (hA : ∀ q, n ≤ q → A q) {zs : va_W} {K : Heap → Prop} (hf : kf A K) (q0 : Nat) {a : Nat} {mo : Int32} (hx : zs[q0]? = some (a, .inr (2, [.int mo, .ref (dA 99), .int 0]))) {v ci : Nat} {vs : List Value} {r0 : vw_C} (hv : ∀ H, K H → va_at D vwCl (v, .inr (ci, vs)) H) (hcl : vwCl[ci]? = some r0) (hca : Cond.castable r0.1 "java/lang/Object" ∈ gF) : Met l yJx4a65c_add_72be8 (.code yJx4a65c_add_72be8 cJx4a65c_add_72be8 4 none :: gT) ({ frames := 7, cells := 1, slots := 10, locals := 294 } : Room) (va_Pc [.ref a, .ref v, .ref (dA 99), .int 0] (zB D dA A n (zw D A zs K))) (va_Qv (fun (_ : Nat) => True) (fun (u : Nat) t => zw D A (zs.set q0 (a, .inr (2, [.int mo, .ref u, .int 1])) ++ [(u, .inl (dA 5, 10, .inr (.inr (.inr (.inr (va_up (fun _ => none) 0 (some v)))))))]) K t.heap) A) 1 10 A :=
  z_met (by decide) hA hst (Nat.le_of_ble_eq_true rfl) rfl rfl (fun p e s m below meth c X hml hr _ => by
    refine z_iload_n X dJx4a65c_add_72be8_0 rfl rfl ?_
    refine z_aload_n X dJx4a65c_add_72be8_1 rfl rfl ?_
    refine z_alenE X dJx4a65c_add_72be8_2 ?_
    refine z_icmp_ne (tgt := 11) X dJx4a65c_add_72be8_3 (by decide) (fun q => ?_) (fun q => absurd rfl q)
    refine z_aload_n X dJx4a65c_add_72be8_6 rfl rfl ?_
    refine z_callVq (As := []) (rest := []) (nA := 0) (mc := 1) (ms := 10) (rm := ({ frames := 6, cells := 1, slots := 10, locals := 252 } : Room)) (ro := fun (u : Nat) => some u) (pu := (fun _ => True)) (G1 := (fun (u : Nat) => zw D A (zs.set q0 (a, .inr (2, [.int mo, .ref u, .int 0])) ++ [(u, .inl (dA 5, 10, .inr (.inr (.inr (.inr (fun _ => none))))))]) K)) X (jl_growE1 X.2.2.2.2.2.2.2.2 X.2.2.2.2.2.2.1 hf q0 hx) g_114 g_116 gs_1 g_4 g_117 hd_yJx4a65c_grow_d5877 ⟨rfl, rfl, Nat.le_of_ble_eq_true rfl, Nat.le_of_ble_eq_true rfl⟩ rfl (fun _ hG => va_recv X.2.2.2.2.2.1 hG.1 (q := (RJx4a65c, TJx4a65c, 3)) rfl hx) rfl (Nat.le_of_ble_eq_true rfl) dJx4a65c_add_72be8_7 ⟨Nat.le_of_ble_eq_true rfl, Nat.le_of_ble_eq_true rfl⟩ (fun u _ => ?_)
    refine z_astore_n (x := u) (lo' := [(2, .ref u), (0, .ref a), (1, .ref v), (3, .int 0)]) X dJx4a65c_add_72be8_10 rfl (by rw [hml]; decide) rfl rfl ?_
    refine z_aload_n X dJx4a65c_add_72be8_11 rfl rfl ?_
    refine z_iload_n X dJx4a65c_add_72be8_12 rfl rfl ?_
    refine z_aload_n X dJx4a65c_add_72be8_13 rfl rfl ?_
    refine w_aast hf X zs.length (zs' := zs.set q0 (a, .inr (2, [.int mo, .ref u, .int 0])) ++ [(u, .inl (dA 5, 10, .inr (.inr (.inr (.inr (va_up (fun _ => none) 0 (some v)))))))]) wl1 hv hcl hca (fun z => z.elim (fun h => absurd h (by decide)) (fun h => absurd h (by decide))) wl2 dJx4a65c_add_72be8_14 ?_
    refine z_aload_n X dJx4a65c_add_72be8_15 rfl rfl ?_
    refine z_iload_n X dJx4a65c_add_72be8_16 rfl rfl ?_
    refine z_iconst (v := 1) X dJx4a65c_add_72be8_17 (by decide) ?_
    refine z_iadd X dJx4a65c_add_72be8_18 ?_
    rw [show (0 : Int32) + 1 = 1 by decide]
    refine w_put hf X q0 2 (v := .int 1) (zs' := zs.set q0 (a, .inr (2, [.int mo, .ref u, .int 1])) ++ [(u, .inl (dA 5, 10, .inr (.inr (.inr (.inr (va_up (fun _ => none) 0 (some v)))))))]) (ty := .int) rj_ws (wl3 hx) rfl tyJx4a65c_ok nmJx4a65c rfl rfl g_67 (Or.inl rfl) rfl rfl rfl rfl (wl4 hx) dJx4a65c_add_72be8_19 ?_
    exact z_vret X hr (fun t hG hF _ => ⟨⟨u, rfl, trivial, hG⟩, hF⟩) dJx4a65c_add_72be8_22)
set_option maxRecDepth 100000 in
theorem jl_add3N {l : Launch} {D : va_G} {dA : Nat → ClassId} {A : Nat → Prop} {n : Nat} (hst : l.stackTraces = false) (hA : ∀ q, n ≤ q → A q) {zs : va_W} {K : Heap → Prop} (hf : kf A K) (q0 q1 : Nat) {a b cap : Nat} {mo : Int32} {f : Nat → Option Nat} (hx : zs[q0]? = some (a, .inr (2, [.int mo, .ref b, .int (nI cap)]))) (hy : zs[q1]? = some (b, .inl (dA 5, cap, .inr (.inr (.inr (.inr f)))))) (hc0 : 0 < cap) (hc9 : cap ≤ 1000) (hK : ∀ H, K H → ∀ (j y : Nat), f j = some y → ∃ (ci : Nat) (fs : List Value) (r : vw_C), vwCl[ci]? = some r ∧ Cond.castable r.1 "java/lang/Object" ∈ gF ∧ va_at D vwCl (y, .inr (ci, fs)) H) {v ci : Nat} {vs : List Value} {r0 : vw_C} (hv : ∀ H, K H → va_at D vwCl (v, .inr (ci, vs)) H) (hcl : vwCl[ci]? = some r0) (hca : Cond.castable r0.1 "java/lang/Object" ∈ gF) : Met l yJx4a65c_add_72be8 (.code yJx4a65c_add_72be8 cJx4a65c_add_72be8 4 none :: gT) ({ frames := 7, cells := 1, slots := (gcap cap), locals := 294 } : Room) (va_Pc [.ref a, .ref v, .ref b, .int (nI cap)] (zB D dA A n (zw D A zs K))) (va_Qv (fun (_ : Nat) => True) (fun (u : Nat) t => zw D A (zs.set q0 (a, .inr (2, [.int mo, .ref u, .int (nI (cap + 1))])) ++ [(u, .inl (dA 5, gcap cap, .inr (.inr (.inr (.inr (va_up (va_cpy f (fun _ => none) 0 0 cap) cap (some v)))))))]) K t.heap) A) 1 ((gcap cap)) A :=
  z_met (by decide) hA hst (Nat.le_of_ble_eq_true rfl) rfl rfl (fun p e s m below meth c X hml hr _ => by
    have hgc : cap < gcap cap ∧ gcap cap ≤ 2000 := by unfold gcap; omega
    refine z_iload_n X dJx4a65c_add_72be8_0 rfl rfl ?_
    refine z_aload_n X dJx4a65c_add_72be8_1 rfl rfl ?_
    refine w_alen X q1 hy rfl dJx4a65c_add_72be8_2 ?_
    refine z_icmp_ne (tgt := 11) X dJx4a65c_add_72be8_3 (by decide) (fun q => ?_) (fun q => absurd rfl q)
    refine z_aload_n X dJx4a65c_add_72be8_6 rfl rfl ?_
    refine z_callVq (As := []) (rest := []) (nA := 0) (mc := 1) (ms := (gcap cap)) (rm := ({ frames := 6, cells := 1, slots := (gcap cap), locals := 252 } : Room)) (ro := fun (u : Nat) => some u) (pu := (fun _ => True)) (G1 := (fun (u : Nat) => zw D A (zs.set q0 (a, .inr (2, [.int mo, .ref u, .int (nI cap)])) ++ [(u, .inl (dA 5, gcap cap, .inr (.inr (.inr (.inr (va_cpy f (fun _ => none) 0 0 cap))))))]) K)) X (jl_growN1 X.2.2.2.2.2.2.2.2 X.2.2.2.2.2.2.1 hf q0 q1 hx hy hc0 hc9 hK) g_114 g_116 gs_1 g_4 g_117 hd_yJx4a65c_grow_d5877 ⟨rfl, rfl, Nat.le_of_ble_eq_true rfl, Nat.le_of_ble_eq_true rfl⟩ rfl (fun _ hG => va_recv X.2.2.2.2.2.1 hG.1 (q := (RJx4a65c, TJx4a65c, 3)) rfl hx) rfl (Nat.le_of_ble_eq_true rfl) dJx4a65c_add_72be8_7 ⟨Nat.le_refl _, by show 0 + gcap cap ≤ gcap cap; omega⟩ (fun u _ => ?_)
    refine z_astore_n (x := u) (lo' := [(2, .ref u), (0, .ref a), (1, .ref v), (3, .int (nI cap))]) X dJx4a65c_add_72be8_10 rfl (by rw [hml]; decide) rfl rfl ?_
    refine z_aload_n X dJx4a65c_add_72be8_11 rfl rfl ?_
    refine z_iload_n X dJx4a65c_add_72be8_12 rfl rfl ?_
    refine z_aload_n X dJx4a65c_add_72be8_13 rfl rfl ?_
    refine w_aast hf X zs.length (zs' := zs.set q0 (a, .inr (2, [.int mo, .ref u, .int (nI cap)])) ++ [(u, .inl (dA 5, gcap cap, .inr (.inr (.inr (.inr (va_up (va_cpy f (fun _ => none) 0 0 cap) cap (some v)))))))]) wl1 hv hcl hca (nI_in hgc.1 (by omega)) (by rw [nI_clamp (by omega)]; exact wl2) dJx4a65c_add_72be8_14 ?_
    refine z_aload_n X dJx4a65c_add_72be8_15 rfl rfl ?_
    refine z_iload_n X dJx4a65c_add_72be8_16 rfl rfl ?_
    refine z_iconst (v := 1) X dJx4a65c_add_72be8_17 (by decide) ?_
    refine z_iadd X dJx4a65c_add_72be8_18 ?_
    rw [nI_1]
    refine w_put hf X q0 2 (v := .int (nI (cap + 1))) (zs' := zs.set q0 (a, .inr (2, [.int mo, .ref u, .int (nI (cap + 1))])) ++ [(u, .inl (dA 5, gcap cap, .inr (.inr (.inr (.inr (va_up (va_cpy f (fun _ => none) 0 0 cap) cap (some v)))))))]) (ty := .int) rj_ws (wl3 hx) rfl tyJx4a65c_ok nmJx4a65c rfl rfl g_67 (Or.inl rfl) rfl rfl rfl rfl (wl4 hx) dJx4a65c_add_72be8_19 ?_
    refine zz.widen (k := 1) (n := gcap cap) (by omega) (by omega) ?_
    exact z_vret X hr (fun t hG hF _ => ⟨⟨u, rfl, trivial, hG⟩, hF⟩) dJx4a65c_add_72be8_22)
set_option maxRecDepth 100000 in
theorem jl_add3R {l : Launch} {D : va_G} {dA : Nat → ClassId} {A : Nat → Prop} {n : Nat} (hst : l.stackTraces = false) (hA : ∀ q, n ≤ q → A q) {zs : va_W} {K : Heap → Prop} (hf : kf A K) (q0 q1 : Nat) {a b cap k : Nat} {mo : Int32} {f : Nat → Option Nat} (hx : zs[q0]? = some (a, .inr (2, [.int mo, .ref b, .int (nI k)]))) (hy : zs[q1]? = some (b, .inl (dA 5, cap, .inr (.inr (.inr (.inr f)))))) (hk : k < cap) (hc9 : cap ≤ 100000) (hq01 : q1 ≠ q0) {v ci : Nat} {vs : List Value} {r0 : vw_C} (hv : ∀ H, K H → va_at D vwCl (v, .inr (ci, vs)) H) (hcl : vwCl[ci]? = some r0) (hca : Cond.castable r0.1 "java/lang/Object" ∈ gF) : Met l yJx4a65c_add_72be8 (.code yJx4a65c_add_72be8 cJx4a65c_add_72be8 4 none :: gT) ({ frames := 7, cells := 0, slots := 0, locals := 294 } : Room) (va_Pc [.ref a, .ref v, .ref b, .int (nI k)] (zB D dA A n (zw D A zs K))) (va_Qv (fun (_ : Unit) => True) (fun (_ : Unit) t => zw D A ((zs.set q1 (b, .inl (dA 5, cap, .inr (.inr (.inr (.inr (va_up f k (some v)))))))).set q0 (a, .inr (2, [.int mo, .ref b, .int (nI (k + 1))]))) K t.heap) A) 0 0 A :=
  z_met (by decide) hA hst (Nat.le_of_ble_eq_true rfl) rfl rfl (fun p e s m below meth c X hml hr _ => by
    refine z_iload_n X dJx4a65c_add_72be8_0 rfl rfl ?_
    refine z_aload_n X dJx4a65c_add_72be8_1 rfl rfl ?_
    refine w_alen X q1 hy rfl dJx4a65c_add_72be8_2 ?_
    refine z_icmp_ne (tgt := 11) X dJx4a65c_add_72be8_3 (by decide) (fun q => absurd ((nI_eq (by omega) (by omega)).mp q) (by omega)) (fun q => ?_)
    refine z_aload_n X dJx4a65c_add_72be8_11 rfl rfl ?_
    refine z_iload_n X dJx4a65c_add_72be8_12 rfl rfl ?_
    refine z_aload_n X dJx4a65c_add_72be8_13 rfl rfl ?_
    refine w_aast hf X q1 (zs' := zs.set q1 (b, .inl (dA 5, cap, .inr (.inr (.inr (.inr (va_up f k (some v)))))))) hy hv hcl hca (nI_in hk (by omega)) (by rw [nI_clamp (by omega)]) dJx4a65c_add_72be8_14 ?_
    refine z_aload_n X dJx4a65c_add_72be8_15 rfl rfl ?_
    refine z_iload_n X dJx4a65c_add_72be8_16 rfl rfl ?_
    refine z_iconst (v := 1) X dJx4a65c_add_72be8_17 (by decide) ?_
    refine z_iadd X dJx4a65c_add_72be8_18 ?_
    rw [nI_1]
    refine w_put hf X q0 2 (v := .int (nI (k + 1))) (zs' := (zs.set q1 (b, .inl (dA 5, cap, .inr (.inr (.inr (.inr (va_up f k (some v)))))))).set q0 (a, .inr (2, [.int mo, .ref b, .int (nI (k + 1))]))) (ty := .int) rj_ws (by rw [List.getElem?_set_ne hq01]; exact hx) rfl tyJx4a65c_ok nmJx4a65c rfl rfl g_67 (Or.inl rfl) rfl rfl rfl rfl rfl dJx4a65c_add_72be8_19 ?_
    exact z_vret X hr (fun t hG hF _ => ⟨⟨(), rfl, trivial, hG⟩, hF⟩) dJx4a65c_add_72be8_22)
set_option maxRecDepth 100000 in
theorem jl_addE {l : Launch} {D : va_G} {dA : Nat → ClassId} {A : Nat → Prop} {n : Nat} (hst : l.stackTraces = false) (hA : ∀ q, n ≤ q → A q) {zs : va_W} {K : Heap → Prop} (hf : kf A K) (q0 : Nat) {a : Nat} {mo : Int32} (hx : zs[q0]? = some (a, .inr (2, [.int mo, .ref (dA 99), .int 0]))) {v ci : Nat} {vs : List Value} {r0 : vw_C} (hv : ∀ H, K H → va_at D vwCl (v, .inr (ci, vs)) H) (hcl : vwCl[ci]? = some r0) (hca : Cond.castable r0.1 "java/lang/Object" ∈ gF) {b9 : Nat} (hb9 : 10 ≤ b9) : Met l yJx4a65c_add_9ea2d (.code yJx4a65c_add_9ea2d cJx4a65c_add_9ea2d 2 (some .boolean) :: gT) ({ frames := 8, cells := 1, slots := b9, locals := 336 } : Room) (va_Pc [.ref a, .ref v] (zB D dA A n (zw D A zs K))) (va_Qi (fun r (_ : Nat) => r = 1 ∧ True) (fun (u : Nat) t => zw D A ((zs.set q0 (a, .inr (2, [.int (mo + 1), .ref (dA 99), .int 0]))).set q0 (a, .inr (2, [.int (mo + 1), .ref u, .int 1])) ++ [(u, .inl (dA 5, 10, .inr (.inr (.inr (.inr (va_up (fun _ => none) 0 (some v)))))))]) K t.heap) A) 1 b9 A :=
  z_met (by decide) hA hst (Nat.le_of_ble_eq_true rfl) rfl rfl (fun p e s m below meth c X hml hr _ => by
    have hx1 : (zs.set q0 (a, .inr (2, [.int (mo + 1), .ref (dA 99), .int 0])))[q0]? = some (a, .inr (2, [.int (mo + 1), .ref (dA 99), .int 0])) := List.getElem?_set_self (List.getElem?_eq_some_iff.mp hx).1
    refine z_aload_n X dJx4a65c_add_9ea2d_0 rfl rfl ?_
    refine z_dup X dJx4a65c_add_9ea2d_1 rfl ?_
    refine w_get X q0 0 rj_ws hx rfl rfl g_69 (Or.inr g_70) rfl dJx4a65c_add_9ea2d_2 ?_
    refine z_iconst (v := 1) X dJx4a65c_add_9ea2d_5 (by decide) ?_
    refine z_iadd X dJx4a65c_add_9ea2d_6 ?_
    refine w_put hf X q0 0 (v := .int (mo + 1)) (zs' := (zs.set q0 (a, .inr (2, [.int (mo + 1), .ref (dA 99), .int 0])))) (ty := .int) rj_ws hx rfl tyJx4a65c_ok nmJx4a65c rfl rfl g_69 (Or.inr g_70) rfl rfl rfl rfl rfl dJx4a65c_add_9ea2d_7 ?_
    refine z_aload_n X dJx4a65c_add_9ea2d_10 rfl rfl ?_
    refine z_aload_n X dJx4a65c_add_9ea2d_11 rfl rfl ?_
    refine z_aload_n X dJx4a65c_add_9ea2d_12 rfl rfl ?_
    refine w_get X q0 1 rj_ws hx1 rfl rfl g_66 (Or.inl rfl) rfl dJx4a65c_add_9ea2d_13 ?_
    refine z_aload_n X dJx4a65c_add_9ea2d_16 rfl rfl ?_
    refine w_get X q0 2 rj_ws hx1 rfl rfl g_67 (Or.inl rfl) rfl dJx4a65c_add_9ea2d_17 ?_
    refine z_callVv (As := [.ref v, .ref (dA 99), .int 0]) (rest := []) (nA := 3) (mc := 1) (ms := 10) (rm := ({ frames := 7, cells := 1, slots := 10, locals := 294 } : Room))  (pu := (fun _ => True)) (G1 := (fun (u : Nat) => zw D A ((zs.set q0 (a, .inr (2, [.int (mo + 1), .ref (dA 99), .int 0]))).set q0 (a, .inr (2, [.int (mo + 1), .ref u, .int 1])) ++ [(u, .inl (dA 5, 10, .inr (.inr (.inr (.inr (va_up (fun _ => none) 0 (some v)))))))]) K)) X (jl_add3E X.2.2.2.2.2.2.2.2 X.2.2.2.2.2.2.1 hf q0 hx1 hv hcl hca) g_110 g_112 gs_0 g_4 g_113 hd_yJx4a65c_add_72be8 ⟨rfl, rfl, Nat.le_of_ble_eq_true rfl, Nat.le_of_ble_eq_true rfl⟩ rfl (fun _ hG => va_recv X.2.2.2.2.2.1 hG.1 (q := (RJx4a65c, TJx4a65c, 3)) rfl hx1) rfl (Nat.le_of_ble_eq_true rfl) dJx4a65c_add_9ea2d_20 ⟨by show 0 + 1 ≤ 1; omega, by show 0 + 10 ≤ b9; omega⟩ (fun u _ => ?_)
    refine z_iconst (v := 1) X dJx4a65c_add_9ea2d_23 (by decide) ?_
    refine zz.widen (k := 1) (n := b9) (by omega) (by omega) ?_
    exact z_iret X hr rfl (fun t hG hF _ => ⟨⟨_, u, rfl, ⟨rfl, trivial⟩, hG⟩, hF⟩) dJx4a65c_add_9ea2d_24)
set_option maxRecDepth 100000 in
theorem jl_addN {l : Launch} {D : va_G} {dA : Nat → ClassId} {A : Nat → Prop} {n : Nat} (hst : l.stackTraces = false) (hA : ∀ q, n ≤ q → A q) {zs : va_W} {K : Heap → Prop} (hf : kf A K) (q0 q1 : Nat) {a b cap : Nat} {mo : Int32} {f : Nat → Option Nat} (hx : zs[q0]? = some (a, .inr (2, [.int mo, .ref b, .int (nI cap)]))) (hy : zs[q1]? = some (b, .inl (dA 5, cap, .inr (.inr (.inr (.inr f)))))) (hc0 : 0 < cap) (hc9 : cap ≤ 1000) (hK : ∀ H, K H → ∀ (j y : Nat), f j = some y → ∃ (ci : Nat) (fs : List Value) (r : vw_C), vwCl[ci]? = some r ∧ Cond.castable r.1 "java/lang/Object" ∈ gF ∧ va_at D vwCl (y, .inr (ci, fs)) H) {v ci : Nat} {vs : List Value} {r0 : vw_C} (hv : ∀ H, K H → va_at D vwCl (v, .inr (ci, vs)) H) (hcl : vwCl[ci]? = some r0) (hca : Cond.castable r0.1 "java/lang/Object" ∈ gF) (hq01 : q0 ≠ q1) {b9 : Nat} (hb9 : (gcap cap) ≤ b9) : Met l yJx4a65c_add_9ea2d (.code yJx4a65c_add_9ea2d cJx4a65c_add_9ea2d 2 (some .boolean) :: gT) ({ frames := 8, cells := 1, slots := b9, locals := 336 } : Room) (va_Pc [.ref a, .ref v] (zB D dA A n (zw D A zs K))) (va_Qi (fun r (_ : Nat) => r = 1 ∧ True) (fun (u : Nat) t => zw D A ((zs.set q0 (a, .inr (2, [.int (mo + 1), .ref b, .int (nI cap)]))).set q0 (a, .inr (2, [.int (mo + 1), .ref u, .int (nI (cap + 1))])) ++ [(u, .inl (dA 5, gcap cap, .inr (.inr (.inr (.inr (va_up (va_cpy f (fun _ => none) 0 0 cap) cap (some v)))))))]) K t.heap) A) 1 b9 A :=
  z_met (by decide) hA hst (Nat.le_of_ble_eq_true rfl) rfl rfl (fun p e s m below meth c X hml hr _ => by
    have hx1 : (zs.set q0 (a, .inr (2, [.int (mo + 1), .ref b, .int (nI cap)])))[q0]? = some (a, .inr (2, [.int (mo + 1), .ref b, .int (nI cap)])) := List.getElem?_set_self (List.getElem?_eq_some_iff.mp hx).1
    refine z_aload_n X dJx4a65c_add_9ea2d_0 rfl rfl ?_
    refine z_dup X dJx4a65c_add_9ea2d_1 rfl ?_
    refine w_get X q0 0 rj_ws hx rfl rfl g_69 (Or.inr g_70) rfl dJx4a65c_add_9ea2d_2 ?_
    refine z_iconst (v := 1) X dJx4a65c_add_9ea2d_5 (by decide) ?_
    refine z_iadd X dJx4a65c_add_9ea2d_6 ?_
    refine w_put hf X q0 0 (v := .int (mo + 1)) (zs' := (zs.set q0 (a, .inr (2, [.int (mo + 1), .ref b, .int (nI cap)])))) (ty := .int) rj_ws hx rfl tyJx4a65c_ok nmJx4a65c rfl rfl g_69 (Or.inr g_70) rfl rfl rfl rfl rfl dJx4a65c_add_9ea2d_7 ?_
    refine z_aload_n X dJx4a65c_add_9ea2d_10 rfl rfl ?_
    refine z_aload_n X dJx4a65c_add_9ea2d_11 rfl rfl ?_
    refine z_aload_n X dJx4a65c_add_9ea2d_12 rfl rfl ?_
    refine w_get X q0 1 rj_ws hx1 rfl rfl g_66 (Or.inl rfl) rfl dJx4a65c_add_9ea2d_13 ?_
    refine z_aload_n X dJx4a65c_add_9ea2d_16 rfl rfl ?_
    refine w_get X q0 2 rj_ws hx1 rfl rfl g_67 (Or.inl rfl) rfl dJx4a65c_add_9ea2d_17 ?_
    refine z_callVv (As := [.ref v, .ref b, .int (nI cap)]) (rest := []) (nA := 3) (mc := 1) (ms := (gcap cap)) (rm := ({ frames := 7, cells := 1, slots := (gcap cap), locals := 294 } : Room))  (pu := (fun _ => True)) (G1 := (fun (u : Nat) => zw D A ((zs.set q0 (a, .inr (2, [.int (mo + 1), .ref b, .int (nI cap)]))).set q0 (a, .inr (2, [.int (mo + 1), .ref u, .int (nI (cap + 1))])) ++ [(u, .inl (dA 5, gcap cap, .inr (.inr (.inr (.inr (va_up (va_cpy f (fun _ => none) 0 0 cap) cap (some v)))))))]) K)) X (jl_add3N X.2.2.2.2.2.2.2.2 X.2.2.2.2.2.2.1 hf q0 q1 hx1 ((List.getElem?_set_ne hq01).trans hy) hc0 hc9 hK hv hcl hca) g_110 g_112 gs_0 g_4 g_113 hd_yJx4a65c_add_72be8 ⟨rfl, rfl, Nat.le_of_ble_eq_true rfl, Nat.le_of_ble_eq_true rfl⟩ rfl (fun _ hG => va_recv X.2.2.2.2.2.1 hG.1 (q := (RJx4a65c, TJx4a65c, 3)) rfl hx1) rfl (Nat.le_of_ble_eq_true rfl) dJx4a65c_add_9ea2d_20 ⟨by show 0 + 1 ≤ 1; omega, by show 0 + (gcap cap) ≤ b9; omega⟩ (fun u _ => ?_)
    refine z_iconst (v := 1) X dJx4a65c_add_9ea2d_23 (by decide) ?_
    refine zz.widen (k := 1) (n := b9) (by omega) (by omega) ?_
    exact z_iret X hr rfl (fun t hG hF _ => ⟨⟨_, u, rfl, ⟨rfl, trivial⟩, hG⟩, hF⟩) dJx4a65c_add_9ea2d_24)
set_option maxRecDepth 100000 in
theorem jl_addR {l : Launch} {D : va_G} {dA : Nat → ClassId} {A : Nat → Prop} {n : Nat} (hst : l.stackTraces = false) (hA : ∀ q, n ≤ q → A q) {zs : va_W} {K : Heap → Prop} (hf : kf A K) (q0 q1 : Nat) {a b cap k : Nat} {mo : Int32} {f : Nat → Option Nat} (hx : zs[q0]? = some (a, .inr (2, [.int mo, .ref b, .int (nI k)]))) (hy : zs[q1]? = some (b, .inl (dA 5, cap, .inr (.inr (.inr (.inr f)))))) (hk : k < cap) (hc9 : cap ≤ 100000) (hq01 : q1 ≠ q0) {v ci : Nat} {vs : List Value} {r0 : vw_C} (hv : ∀ H, K H → va_at D vwCl (v, .inr (ci, vs)) H) (hcl : vwCl[ci]? = some r0) (hca : Cond.castable r0.1 "java/lang/Object" ∈ gF) {b9 : Nat} (hb9 : 0 ≤ b9) : Met l yJx4a65c_add_9ea2d (.code yJx4a65c_add_9ea2d cJx4a65c_add_9ea2d 2 (some .boolean) :: gT) ({ frames := 8, cells := 1, slots := b9, locals := 336 } : Room) (va_Pc [.ref a, .ref v] (zB D dA A n (zw D A zs K))) (va_Qi (fun r (_ : Unit) => r = 1 ∧ True) (fun (_ : Unit) t => zw D A (((zs.set q0 (a, .inr (2, [.int (mo + 1), .ref b, .int (nI k)]))).set q1 (b, .inl (dA 5, cap, .inr (.inr (.inr (.inr (va_up f k (some v)))))))).set q0 (a, .inr (2, [.int (mo + 1), .ref b, .int (nI (k + 1))]))) K t.heap) A) 1 b9 A :=
  z_met (by decide) hA hst (Nat.le_of_ble_eq_true rfl) rfl rfl (fun p e s m below meth c X hml hr _ => by
    have hx1 : (zs.set q0 (a, .inr (2, [.int (mo + 1), .ref b, .int (nI k)])))[q0]? = some (a, .inr (2, [.int (mo + 1), .ref b, .int (nI k)])) := List.getElem?_set_self (List.getElem?_eq_some_iff.mp hx).1
    refine z_aload_n X dJx4a65c_add_9ea2d_0 rfl rfl ?_
    refine z_dup X dJx4a65c_add_9ea2d_1 rfl ?_
    refine w_get X q0 0 rj_ws hx rfl rfl g_69 (Or.inr g_70) rfl dJx4a65c_add_9ea2d_2 ?_
    refine z_iconst (v := 1) X dJx4a65c_add_9ea2d_5 (by decide) ?_
    refine z_iadd X dJx4a65c_add_9ea2d_6 ?_
    refine w_put hf X q0 0 (v := .int (mo + 1)) (zs' := (zs.set q0 (a, .inr (2, [.int (mo + 1), .ref b, .int (nI k)])))) (ty := .int) rj_ws hx rfl tyJx4a65c_ok nmJx4a65c rfl rfl g_69 (Or.inr g_70) rfl rfl rfl rfl rfl dJx4a65c_add_9ea2d_7 ?_
    refine z_aload_n X dJx4a65c_add_9ea2d_10 rfl rfl ?_
    refine z_aload_n X dJx4a65c_add_9ea2d_11 rfl rfl ?_
    refine z_aload_n X dJx4a65c_add_9ea2d_12 rfl rfl ?_
    refine w_get X q0 1 rj_ws hx1 rfl rfl g_66 (Or.inl rfl) rfl dJx4a65c_add_9ea2d_13 ?_
    refine z_aload_n X dJx4a65c_add_9ea2d_16 rfl rfl ?_
    refine w_get X q0 2 rj_ws hx1 rfl rfl g_67 (Or.inl rfl) rfl dJx4a65c_add_9ea2d_17 ?_
    refine z_callVv (As := [.ref v, .ref b, .int (nI k)]) (rest := []) (nA := 3) (mc := 0) (ms := 0) (rm := ({ frames := 7, cells := 0, slots := 0, locals := 294 } : Room))  (pu := (fun _ => True)) (G1 := (fun (_ : Unit) => zw D A (((zs.set q0 (a, .inr (2, [.int (mo + 1), .ref b, .int (nI k)]))).set q1 (b, .inl (dA 5, cap, .inr (.inr (.inr (.inr (va_up f k (some v)))))))).set q0 (a, .inr (2, [.int (mo + 1), .ref b, .int (nI (k + 1))]))) K)) X (jl_add3R X.2.2.2.2.2.2.2.2 X.2.2.2.2.2.2.1 hf q0 q1 hx1 ((List.getElem?_set_ne (Ne.symm hq01)).trans hy) hk hc9 hq01 hv hcl hca) g_110 g_112 gs_0 g_4 g_113 hd_yJx4a65c_add_72be8 ⟨rfl, rfl, Nat.le_of_ble_eq_true rfl, Nat.le_of_ble_eq_true rfl⟩ rfl (fun _ hG => va_recv X.2.2.2.2.2.1 hG.1 (q := (RJx4a65c, TJx4a65c, 3)) rfl hx1) rfl (Nat.le_of_ble_eq_true rfl) dJx4a65c_add_9ea2d_20 ⟨by show 0 + 0 ≤ 1; omega, by show 0 + 0 ≤ b9; omega⟩ (fun _ _ => ?_)
    refine z_iconst (v := 1) X dJx4a65c_add_9ea2d_23 (by decide) ?_
    refine zz.widen (k := 1) (n := b9) (by omega) (by omega) ?_
    exact z_iret X hr rfl (fun t hG hF _ => ⟨⟨_, (), rfl, ⟨rfl, trivial⟩, hG⟩, hF⟩) dJx4a65c_add_9ea2d_24)
theorem jl_rchk {l : Launch} {D : va_G} {dA : Nat → ClassId} {A : Nat → Prop} {n : Nat} (hst : l.stackTraces = false) (hA : ∀ q, n ≤ q → A q) {zs : va_W} {K : Heap → Prop} (q0 : Nat) {a da : Nat} {mo sz x : Int32} (hx : zs[q0]? = some (a, .inr (2, [.int mo, .ref da, .int sz]))) (i1 : ¬ sz < x) (i2 : 0 ≤ x) : Met l yJx4a65c_rangeCheckForAdd_d00df (.code yJx4a65c_rangeCheckForAdd_d00df cJx4a65c_rangeCheckForAdd_d00df 2 none :: gT) ({ frames := 7, cells := 0, slots := 0, locals := 294 } : Room) (va_Pc [.ref a, .int x] (zB D dA A n (zw D A zs K))) (va_Qv (fun (_ : Unit) => True) (fun (_ : Unit) t => zw D A zs K t.heap) A) 0 0 A :=
  z_met (by decide) hA hst (Nat.le_of_ble_eq_true rfl) rfl rfl (fun p e s m below meth c X hml hr _ => by
    refine z_iload_n X dJx4a65c_rangeCheckForAdd_d00df_0 rfl rfl ?_
    refine z_aload_n X dJx4a65c_rangeCheckForAdd_d00df_1 rfl rfl ?_
    refine w_get X q0 2 rj_ws hx rfl rfl g_67 (Or.inl rfl) rfl dJx4a65c_rangeCheckForAdd_d00df_2 ?_
    refine z_icmp_gt (tgt := 12) X dJx4a65c_rangeCheckForAdd_d00df_5 (by decide) (fun q => absurd q i1) (fun q => ?_)
    refine z_iload_n X dJx4a65c_rangeCheckForAdd_d00df_8 rfl rfl ?_
    refine z_if_ge (tgt := 25) X dJx4a65c_rangeCheckForAdd_d00df_9 (by decide) (fun q => ?_) (fun q => absurd i2 q)
    exact z_vret X hr (fun t hG hF _ => ⟨⟨(), rfl, trivial, hG⟩, hF⟩) dJx4a65c_rangeCheckForAdd_d00df_25)
theorem lel_lt {k : Nat} (h1 : 12 ≤ k) (h2 : k < 19) : lel k < 12 := by
  have : k = 12 ∨ k = 13 ∨ k = 14 ∨ k = 15 ∨ k = 16 ∨ k = 17 ∨ k = 18 := by omega
  rcases this with rfl | rfl | rfl | rfl | rfl | rfl | rfl <;> decide
theorem lel_lt2 {k : Nat} (h1 : 26 ≤ k) (h2 : k < 30) : lel k < 12 := by
  have : k = 26 ∨ k = 27 ∨ k = 28 ∨ k = 29 := by omega
  rcases this with rfl | rfl | rfl | rfl <;> decide
/-- one list has changed, its row perhaps elsewhere -/
theorem cx_list {D : va_G} {dA : Nat → ClassId} {A : Nat → Prop} {V : Rho} {L : Lst} {N : Cnt} {ad : Adr} {xs : va_W} {H H' : Heap} {k i r : Nat} {w : List Int32} (h1 : 12 ≤ k) (h2 : k < 19) (hi : i < N (ow k)) (hG : cx D dA A V L N ad xs H) (hfr : ∀ q, q < H.size → q ≠ ad k i → (L k i ≠ [] → q ≠ ad (k + 7) i) → H'[q]? = H[q]?)
    (hr : w ≠ [] → A r ∧ ((r = ad (k + 7) i ∧ L k i ≠ []) ∨ H.size ≤ r)) (hw : ∀ x ∈ w, vp_in x (N (lel k))) (hlen : w.length ≤ 1000) (hc : ∃ mo : Int32, va_at D vwCl (ad k i, .inr (2, [.int mo, .ref (if w = [] then dA 99 else r), .int (nI w.length)])) H')
    (hc2 : w ≠ [] → ∃ cap : Nat, va_at D vwCl (r, .inl (dA 5, cap, .inr (.inr (.inr (.inr (fun j => (w[j]?).map (fun x => ad (lel k) x.toNatClampNeg))))))) H' ∧ w.length ≤ cap ∧ cap ≤ 2 * w.length + 10) : cx D dA A V (lput L k i w) N (adu ad (k + 7) i r) xs H' := by
  have hcn := hG.2.2.2.2.2.2.2.2.1
  have hx := hG.2.2.2.2.2.2.2.2.2
  have hlv := live_list (L := L) h1 h2 hi
  have hrow : L k i ≠ [] → live L N (k + 7) i := fun z => live_row h1 h2 hi z
  have hu : ∀ kk, kk < 19 ∨ 26 ≤ kk → adu ad (k + 7) i r kk = ad kk := fun kk hk => funext fun j => adu_ne (fun z => by omega)
  have hax : axt N ad (adu ad (k + 7) i r) := fun k' i' hex hk => by rw [hu k' (by omega)]
  have hLs : lput L k i w k i = w := if_pos ⟨rfl, rfl⟩
  have hLn : ∀ k' i', ¬ (k' = k ∧ i' = i) → lput L k i w k' i' = L k' i' := fun k' i' z => if_neg z
  have old : ∀ k' i', live (lput L k i w) N k' i' → ¬ (k' = k + 7 ∧ i' = i) → live L N k' i' := fun k' i' hl hne => ⟨hl.1, fun h3 h4 => by
    have h5 := hl.2 h3 h4
    rwa [hLn _ _ (fun z => hne ⟨by omega, z.2⟩)] at h5⟩
  have keep : ∀ k' i', live L N k' i' → ¬ (k' = k ∧ i' = i) → ¬ (k' = k + 7 ∧ i' = i) → H'[ad k' i']? = H[ad k' i']? := fun k' i' hl n1 n2 => hfr _ (hG.lt hl) (fun e => n1 (hG.2.2.2.1 _ _ _ _ hl hlv e)) (fun z e => n2 (hG.2.2.2.1 _ _ _ _ hl (hrow z) e))
  have hne : live (lput L k i w) N (k + 7) i → w ≠ [] := fun hl => by
    have h5 := hl.2 (by omega) (by omega)
    rwa [Nat.add_sub_cancel, hLs] at h5
  have hrne : w ≠ [] → ∀ k' i', live L N k' i' → ¬ (k' = k + 7 ∧ i' = i) → ¬ ad k' i' = r := fun hw0 k' i' hl hn e => by
    rcases (hr hw0).2 with ⟨e2, hL⟩ | h3
    · exact hn (hG.2.2.2.1 _ _ _ _ hl (hrow hL) (e.trans e2))
    · have := hG.lt hl
      omega
  refine ⟨fun k' i' g1 g2 => ?_, fun k' i' g1 g2 g3 => ?_, fun k' g1 g2 g3 => ?_, fun k1 i1 k2 i2 l1 l2 e => ?_, fun k' i' hl => ?_, hG.2.2.2.2.2.1, fun k' i' x g1 g2 g3 hm => ?_, fun k' i' g1 g2 g3 => ?_, hcn, ⟨?_, hx.2.1, fun j q hj k' i' hl => ?_⟩⟩
  · rw [hu k' (by omega), cfs_axt (V' := V) hax hcn.2.1 hcn.2.2.1 g1 g2 (fun f hf => hG.2.2.2.2.2.1 k' i' f g1 g2 hf) (fun _ _ => rfl)]
    exact (hG.1 k' i' g1 g2).kept (keep _ _ (live_obj g1 g2) (fun z => by omega) (fun z => by omega))
  · by_cases e : k' = k ∧ i' = i
    · obtain ⟨rfl, rfl⟩ := e
      obtain ⟨mo, c1⟩ := hc
      refine ⟨mo, ?_, fun z => ?_⟩
      · rw [hu k' (by omega), hLs, adu_self]
        exact c1
      · rw [hLs] at z ⊢
        rw [adu_self, hu _ (Or.inl (by have := lel_lt h1 h2; omega))]
        exact hc2 z
    · obtain ⟨mo, a, b⟩ := hG.2.1 k' i' g1 g2 g3
      refine ⟨mo, ?_, fun z => ?_⟩
      · rw [hu k' (by omega), hLn _ _ e, adu_ne (fun z => e ⟨by omega, z.2⟩)]
        exact a.kept (keep _ _ (live_list g1 g2 g3) e (fun z => by omega))
      · rw [hLn _ _ e] at z ⊢
        rw [adu_ne (fun z => e ⟨by omega, z.2⟩), hu _ (Or.inl (by have := lel_lt g1 g2; omega))]
        obtain ⟨cap, c1, c2⟩ := b z
        exact ⟨cap, c1.kept (keep _ _ (live_row g1 g2 g3 z) (fun z => by omega) (fun z => e ⟨by omega, z.2⟩)), c2⟩
  · rw [hu k' (by omega), hu _ (Or.inl (by have := lel_lt2 g1 g2; omega))]
    exact (hG.2.2.1 k' g1 g2 g3).kept (keep _ _ (live_arr g1 g2 g3) (fun z => by omega) (fun z => by omega))
  · by_cases e1 : k1 = k + 7 ∧ i1 = i
    · by_cases e2 : k2 = k + 7 ∧ i2 = i
      · exact ⟨e1.1.trans e2.1.symm, e1.2.trans e2.2.symm⟩
      · obtain ⟨rfl, rfl⟩ := e1
        rw [adu_self, adu_ne e2] at e
        exact absurd e.symm (hrne (hne l1) _ _ (old _ _ l2 e2) e2)
    · by_cases e2 : k2 = k + 7 ∧ i2 = i
      · obtain ⟨rfl, rfl⟩ := e2
        rw [adu_self, adu_ne e1] at e
        exact absurd e (hrne (hne l2) _ _ (old _ _ l1 e1) e1)
      · rw [adu_ne e1, adu_ne e2] at e
        exact hG.2.2.2.1 _ _ _ _ (old _ _ l1 e1) (old _ _ l2 e2) e
  · by_cases e1 : k' = k + 7 ∧ i' = i
    · obtain ⟨rfl, rfl⟩ := e1
      rw [adu_self]
      exact (hr (hne hl)).1
    · rw [adu_ne e1]
      exact hG.2.2.2.2.1 _ _ (old _ _ hl e1)
  · by_cases e : k' = k ∧ i' = i
    · obtain ⟨rfl, rfl⟩ := e
      rw [hLs] at hm
      exact hw x hm
    · rw [hLn _ _ e] at hm
      exact hG.2.2.2.2.2.2.1 k' i' x g1 g2 g3 hm
  · by_cases e : k' = k ∧ i' = i
    · obtain ⟨rfl, rfl⟩ := e
      rw [hLs]
      exact hlen
    · rw [hLn _ _ e]
      exact hG.2.2.2.2.2.2.2.1 k' i' g1 g2 g3
  · exact hx.1.kept (fun j q hj => hfr _ (hx.1 j q hj).lt (fun z => hx.2.2 j q hj _ _ hlv z.symm) (fun z e => hx.2.2 j q hj _ _ (hrow z) e.symm))
  · by_cases e1 : k' = k + 7 ∧ i' = i
    · obtain ⟨rfl, rfl⟩ := e1
      rw [adu_self]
      rcases (hr (hne hl)).2 with ⟨e2, hL⟩ | h3
      · rw [e2]
        exact hx.2.2 j q hj _ _ (hrow hL)
      · intro z
        have := (hx.1 j q hj).lt
        omega
    · rw [adu_ne e1]
      exact hx.2.2 j q hj _ _ (old _ _ hl e1)
theorem lput_self {L : Lst} {k i : Nat} : lput L k i (L k i) = L := by
  funext k' i'
  unfold lput
  split
  · rename_i z
    rw [z.1, z.2]
  · rfl
theorem adu_same {ad : Adr} {k i : Nat} : adu ad k i (ad k i) = ad := by
  funext k' i'
  unfold adu
  split
  · rename_i z
    rw [z.1, z.2]
  · rfl
theorem cx_read {D : va_G} {dA : Nat → ClassId} {A : Nat → Prop} {V : Rho} {L : Lst} {N : Cnt} {ad : Adr} {xs : va_W} {H H' : Heap} {k i : Nat} (h1 : 12 ≤ k) (h2 : k < 19) (hi : i < N (ow k)) (hG : cx D dA A V L N ad xs H) (hfr : ∀ q, q < H.size → q ≠ ad k i → (L k i ≠ [] → q ≠ ad (k + 7) i) → H'[q]? = H[q]?)
    (hc : ∃ mo : Int32, va_at D vwCl (ad k i, .inr (2, [.int mo, .ref (if L k i = [] then dA 99 else ad (k + 7) i), .int (nI (L k i).length)])) H')
    (hc2 : L k i ≠ [] → ∃ cap : Nat, va_at D vwCl (ad (k + 7) i, .inl (dA 5, cap, .inr (.inr (.inr (.inr (fun j => ((L k i)[j]?).map (fun x => ad (lel k) x.toNatClampNeg))))))) H' ∧ (L k i).length ≤ cap ∧ cap ≤ 2 * (L k i).length + 10) : cx D dA A V L N ad xs H' := by
  have h := cx_list (w := L k i) (r := ad (k + 7) i) h1 h2 hi hG hfr (fun z => ⟨hG.2.2.2.2.1 _ _ (live_row h1 h2 hi z), Or.inl ⟨rfl, z⟩⟩) (fun x hx => hG.2.2.2.2.2.2.1 k i x h1 h2 hi hx) (hG.2.2.2.2.2.2.2.1 k i h1 h2 hi) hc hc2
  rwa [lput_self, adu_same] at h
theorem wD1 {A : Nat → Prop} {q : Nat × va_E} (h : A q.1) : va_D A [q] := ⟨fun i j p r hi hj _ => by
  have h1 := (List.getElem?_eq_some_iff.mp hi).1
  have h2 := (List.getElem?_eq_some_iff.mp hj).1
  simp at h1 h2
  omega, fun j p hj => by
  have h1 := (List.getElem?_eq_some_iff.mp hj).1
  simp at h1
  subst h1
  cases hj
  exact h⟩
theorem wD2 {A : Nat → Prop} {q r : Nat × va_E} (h : A q.1) (h2 : A r.1) (hne : q.1 ≠ r.1) : va_D A [q, r] := ⟨fun i j p t hi hj e => by
  have h1 := (List.getElem?_eq_some_iff.mp hi).1
  have h3 := (List.getElem?_eq_some_iff.mp hj).1
  simp at h1 h3
  have : (i = 0 ∨ i = 1) ∧ (j = 0 ∨ j = 1) := by omega
  rcases this with ⟨rfl | rfl, rfl | rfl⟩
  · rfl
  · cases hi; cases hj; exact absurd e hne
  · cases hi; cases hj; exact absurd e.symm hne
  · rfl, fun j p hj => by
  have h1 := (List.getElem?_eq_some_iff.mp hj).1
  simp at h1
  have : j = 0 ∨ j = 1 := by omega
  rcases this with rfl | rfl
  · cases hj; exact h
  · cases hj; exact h2⟩
theorem wP2 {D : va_G} {q r : Nat × va_E} {H : Heap} (h : va_at D vwCl q H) (h2 : va_at D vwCl r H) : va_P D vwCl [q, r] H := (zone1 h).app (zone1 h2)
section LC
variable (l : Launch) {D : va_G} {dA : Nat → ClassId} {A : Nat → Prop} {n : Nat} {V : Rho} {L L1 : Lst} {N : Cnt} {ad : Adr} {xs : va_W} {k i : Nat}
theorem cl_fr {H : Heap} {t : State} {st : State} (e : st.heap = H) (hF : va_F (fun q => q = ad k i ∨ (L k i ≠ [] ∧ q = ad (k + 7) i) ∨ H.size ≤ q) st t) : ∀ q, q < H.size → q ≠ ad k i → (L k i ≠ [] → q ≠ ad (k + 7) i) → t.heap[q]? = H[q]? := by
  subst e
  intro q h1 h2 h3
  refine hF.2 q h1 (fun z => ?_)
  rcases z with z | z | z
  · exact h2 z
  · exact h3 z.1 z.2
  · omega
theorem cl_A (hA : ∀ q, n ≤ q → A q) (h1 : 12 ≤ k) (h2 : k < 19) (hi : i < N (ow k)) (H : Heap) (hG : cx D dA A V L N ad xs H) (hn : n ≤ H.size) (q : Nat) (h : q = ad k i ∨ (L k i ≠ [] ∧ q = ad (k + 7) i) ∨ H.size ≤ q) : A q := by
  rcases h with rfl | ⟨h, rfl⟩ | h
  · exact hG.2.2.2.2.1 _ _ (live_list h1 h2 hi)
  · exact hG.2.2.2.2.1 _ _ (live_row h1 h2 hi h)
  · exact hA q (Nat.le_trans hn h)
theorem cl_F {H : Heap} {st t : State} (e : st.heap = H) (hA : ∀ q, (q = ad k i ∨ (L k i ≠ [] ∧ q = ad (k + 7) i) ∨ H.size ≤ q) → A q) (hF : va_F (fun q => q = ad k i ∨ (L k i ≠ [] ∧ q = ad (k + 7) i) ∨ H.size ≤ q) st t) : va_F A st t := ⟨hF.1, fun q h1 h2 => hF.2 q h1 (fun z => h2 (hA q z))⟩
theorem cl_open (h1 : 12 ≤ k) (h2 : k < 19) (hi : i < N (ow k)) {H : Heap} (hG : cx D dA A V L N ad xs H) : ∃ (mo : Int32) (zs : va_W), zw D (fun q => q = ad k i ∨ (L k i ≠ [] ∧ q = ad (k + 7) i) ∨ H.size ≤ q) zs (fun _ => True) H ∧ zs[0]? = some (ad k i, .inr (2, [.int mo, .ref (if L k i = [] then dA 99 else ad (k + 7) i), .int (nI (L k i).length)])) ∧
    (L k i ≠ [] → ∃ cap : Nat, zs[1]? = some (ad (k + 7) i, .inl (dA 5, cap, .inr (.inr (.inr (.inr (fun j => ((L k i)[j]?).map (fun x => ad (lel k) x.toNatClampNeg))))))) ∧ (L k i).length ≤ cap ∧ cap ≤ 2 * (L k i).length + 10) := by
  obtain ⟨mo, a, b⟩ := hG.2.1 k i h1 h2 hi
  by_cases hL : L k i = []
  · exact ⟨mo, _, ⟨zone1 a, wD1 (Or.inl rfl), trivial⟩, rfl, fun z => absurd hL z⟩
  · obtain ⟨cap, c1, c2⟩ := b hL
    refine ⟨mo, _, ⟨wP2 a c1, wD2 (Or.inl rfl) (Or.inr (Or.inl ⟨hL, rfl⟩)) (fun e => ?_), trivial⟩, rfl, fun _ => ⟨cap, rfl, c2⟩⟩
    have := (hG.2.2.2.1 _ _ _ _ (live_list h1 h2 hi) (live_row h1 h2 hi hL) e).1
    omega
theorem cl_same (h1 : 12 ≤ k) (h2 : k < 19) (hi : i < N (ow k)) {H H' : Heap} (hG : cx D dA A V L N ad xs H) {A1 : Nat → Prop} {zs : va_W} {mo : Int32} {K : Heap → Prop} (hz : zw D A1 zs K H') (z0 : zs[0]? = some (ad k i, .inr (2, [.int mo, .ref (if L k i = [] then dA 99 else ad (k + 7) i), .int (nI (L k i).length)])))
    (z1 : L k i ≠ [] → ∃ cap : Nat, zs[1]? = some (ad (k + 7) i, .inl (dA 5, cap, .inr (.inr (.inr (.inr (fun j => ((L k i)[j]?).map (fun x => ad (lel k) x.toNatClampNeg))))))) ∧ (L k i).length ≤ cap ∧ cap ≤ 2 * (L k i).length + 10) (hfr : ∀ q, q < H.size → q ≠ ad k i → (L k i ≠ [] → q ≠ ad (k + 7) i) → H'[q]? = H[q]?) : cx D dA A V L N ad xs H' :=
  cx_read h1 h2 hi hG hfr ⟨mo, hz.1 0 _ z0⟩ (fun z => (z1 z).elim fun cap c => ⟨cap, hz.1 1 _ c.1, c.2⟩)
theorem cl_size' (hst : l.stackTraces = false) (hA : ∀ q, n ≤ q → A q) (h1 : Nat.ble 12 k = true) (h2 : Nat.ble (k + 1) 19 = true) (hi : i < N (ow k)) : Met l yJx4a65c_size_8abf5 (.code yJx4a65c_size_8abf5 cJx4a65c_size_8abf5 1 (some .int) :: gT) ({ frames := 8, cells := 0, slots := 0, locals := 336 } : Room) (va_Pc [.ref (ad k i)] (zB D dA A n (cx D dA A V L N ad xs))) (va_Qi (fun r (_ : Unit) => r = nI (L k i).length ∧ True) (fun (_ : Unit) t => cx D dA A V L N ad xs t.heap) A) 0 0 A := by
  have h1 := Nat.le_of_ble_eq_true h1
  have h2 := Nat.le_of_ble_eq_true h2
  refine met_open (fun H q => q = ad k i ∨ (L k i ≠ [] ∧ q = ad (k + 7) i) ∨ H.size ≤ q) (fun H hG hn => cl_A hA h1 h2 hi H hG hn) (fun H hG hn => ?_)
  obtain ⟨mo, zs, hz, z0, z1⟩ := cl_open h1 h2 hi hG
  refine ⟨_, _, hz, jl_size hst (fun q h => Or.inr (Or.inr h)) 0 z0, fun av st t o e h => ?_⟩
  obtain ⟨⟨r, u, ho, hr, hz⟩, hF⟩ := h
  exact ⟨⟨r, (), ho, hr, cl_same h1 h2 hi hG hz z0 z1 (cl_fr e hF)⟩, cl_F e (cl_A hA h1 h2 hi H hG hn) hF⟩
theorem cl_isEmpty' (hst : l.stackTraces = false) (hA : ∀ q, n ≤ q → A q) (h1 : Nat.ble 12 k = true) (h2 : Nat.ble (k + 1) 19 = true) (hi : i < N (ow k)) : Met l yJx4a65c_isEmpty_aae02 (.code yJx4a65c_isEmpty_aae02 cJx4a65c_isEmpty_aae02 1 (some .boolean) :: gT) ({ frames := 8, cells := 0, slots := 0, locals := 336 } : Room) (va_Pc [.ref (ad k i)] (zB D dA A n (cx D dA A V L N ad xs))) (va_Qi (fun r (_ : Unit) => r = (if (L k i).length = 0 then (1 : Int32) else 0) ∧ True) (fun (_ : Unit) t => cx D dA A V L N ad xs t.heap) A) 0 0 A := by
  have h1 := Nat.le_of_ble_eq_true h1
  have h2 := Nat.le_of_ble_eq_true h2
  refine met_open (fun H q => q = ad k i ∨ (L k i ≠ [] ∧ q = ad (k + 7) i) ∨ H.size ≤ q) (fun H hG hn => cl_A hA h1 h2 hi H hG hn) (fun H hG hn => ?_)
  obtain ⟨mo, zs, hz, z0, z1⟩ := cl_open h1 h2 hi hG
  refine ⟨_, _, hz, jl_isEmpty hst (fun q h => Or.inr (Or.inr h)) 0 z0, fun av st t o e h => ?_⟩
  obtain ⟨⟨r, u, ho, ⟨hr, _⟩, hz⟩, hF⟩ := h
  have hlen := hG.2.2.2.2.2.2.2.1 k i h1 h2 hi
  refine ⟨⟨r, (), ho, ⟨hr.trans ?_, trivial⟩, cl_same h1 h2 hi hG hz z0 z1 (cl_fr e hF)⟩, cl_F e (cl_A hA h1 h2 hi H hG hn) hF⟩
  by_cases q : (L k i).length = 0
  · rw [if_pos q, if_pos (by rw [q]; rfl)]
  · rw [if_neg q, if_neg (nI_ne0 (by omega) (by omega))]
theorem cl_get' (hst : l.stackTraces = false) (hA : ∀ q, n ≤ q → A q) (h1 : Nat.ble 12 k = true) (h2 : Nat.ble (k + 1) 19 = true) (hi : i < N (ow k)) {x : Int32} (q : ¬ (x < 0 ∨ (L k i).length ≤ x.toNatClampNeg)) : Met l yJx4a65c_get_915e3 (.code yJx4a65c_get_915e3 cJx4a65c_get_915e3 2 (some (.object "java/lang/Object")) :: gT) ({ frames := 8, cells := 0, slots := 0, locals := 336 } : Room) (va_Pc [.ref (ad k i), .int x] (zB D dA A n (cx D dA A V L N ad xs))) (va_Qq (fun r (_ : Unit) => r = some (ad (lel k) ((L k i).getD x.toNatClampNeg 0).toNatClampNeg) ∧ True) (fun (_ : Unit) t => cx D dA A V L N ad xs t.heap) A) 0 0 A := by
  have h1 := Nat.le_of_ble_eq_true h1
  have h2 := Nat.le_of_ble_eq_true h2
  have hx0 : ¬ x < 0 := fun z => q (Or.inl z)
  have hlt : x.toNatClampNeg < (L k i).length := Nat.not_le.mp fun z => q (Or.inr z)
  have hne : L k i ≠ [] := fun z => by rw [z] at hlt; exact absurd hlt (Nat.not_lt_zero _)
  refine met_open (fun H q => q = ad k i ∨ (L k i ≠ [] ∧ q = ad (k + 7) i) ∨ H.size ≤ q) (fun H hG hn => cl_A hA h1 h2 hi H hG hn) (fun H hG hn => ?_)
  obtain ⟨mo, zs, hz, z0, z1⟩ := cl_open h1 h2 hi hG
  have hlen := hG.2.2.2.2.2.2.2.1 k i h1 h2 hi
  obtain ⟨cap, c1, c2, c3⟩ := z1 hne
  have z0' := z0
  rw [if_neg hne] at z0'
  have hj : x < nI (L k i).length := by
    obtain ⟨j, hj, rfl⟩ := nI_of hx0
    rw [nI_clamp hj] at hlt
    exact nI_lt hlt (by omega)
  refine ⟨_, _, hz, jl_get hst (fun q h => Or.inr (Or.inr h)) 0 1 z0' c1 hx0 hj (fun z => z.elim hx0 (fun z => by omega)) (o := some (ad (lel k) ((L k i).getD x.toNatClampNeg 0).toNatClampNeg)) ?_, fun av st t o e h => ?_⟩
  · rw [List.getD_eq_getElem?_getD, List.getElem?_eq_getElem hlt]
    rfl
  · obtain ⟨⟨r, u, ho, hr, hz⟩, hF⟩ := h
    exact ⟨⟨r, (), ho, hr, cl_same h1 h2 hi hG hz z0 z1 (cl_fr e hF)⟩, cl_F e (cl_A hA h1 h2 hi H hG hn) hF⟩
end LC
section LD
variable (l : Launch) {D : va_G} {dA : Nat → ClassId} {A : Nat → Prop} {n : Nat} {V : Rho} {L L1 : Lst} {N : Cnt} {ad : Adr} {xs : va_W} {k i : Nat}
theorem lel_cl (h1 : 12 ≤ k) (h2 : k < 19) : ∃ r : vw_C, vwCl[lel k + 3]? = some r ∧ Cond.castable r.1 "java/lang/Object" ∈ gF := by
  have : k = 12 ∨ k = 13 ∨ k = 14 ∨ k = 15 ∨ k = 16 ∨ k = 17 ∨ k = 18 := by omega
  rcases this with rfl | rfl | rfl | rfl | rfl | rfl | rfl
  · exact ⟨_, rfl, g_1736⟩
  · exact ⟨_, rfl, g_1739⟩
  · exact ⟨_, rfl, g_1740⟩
  · exact ⟨_, rfl, g_1736⟩
  · exact ⟨_, rfl, g_1731⟩
  · exact ⟨_, rfl, g_1740⟩
  · exact ⟨_, rfl, g_1742⟩
def kel (D : va_G) (V : Rho) (L : Lst) (ad : Adr) (k i : Nat) (x : Int32) (H : Heap) : Prop := ∀ y : Int32, y = x ∨ y ∈ L k i → va_at D vwCl (ad (lel k) y.toNatClampNeg, .inr (lel k + 3, cfs V ad (lel k) y.toNatClampNeg)) H
theorem kel_in (h1 : 12 ≤ k) (h2 : k < 19) (hi : i < N (ow k)) {x : Int32} (hx : vp_in x (N (lel k))) {H : Heap} (hG : cx D dA A V L N ad xs H) {y : Int32} (hy : y = x ∨ y ∈ L k i) : y.toNatClampNeg < N (lel k) := by
  rcases hy with rfl | hy
  · exact vp_lt hx
  · exact vp_lt (hG.2.2.2.2.2.2.1 k i y h1 h2 hi hy)
theorem kel_ok (h1 : 12 ≤ k) (h2 : k < 19) (hi : i < N (ow k)) {x : Int32} (hx : vp_in x (N (lel k))) {H : Heap} (hG : cx D dA A V L N ad xs H) : kel D V L ad k i x H := fun y hy => hG.1 _ _ (lel_lt h1 h2) (kel_in h1 h2 hi hx hG hy)
theorem kel_kf (h1 : 12 ≤ k) (h2 : k < 19) (hi : i < N (ow k)) {x : Int32} (hx : vp_in x (N (lel k))) {H : Heap} (hG : cx D dA A V L N ad xs H) : kf (fun q => q = ad k i ∨ (L k i ≠ [] ∧ q = ad (k + 7) i) ∨ H.size ≤ q) (kel D V L ad k i x) := by
  intro Ha Hb hq hK y hy
  have hlv : live L N (lel k) y.toNatClampNeg := live_obj (lel_lt h1 h2) (kel_in h1 h2 hi hx hG hy)
  have hl9 := lel_lt h1 h2
  refine (hK y hy).kept (hq _ (fun z => ?_))
  rcases z with z | ⟨z1, z⟩ | z
  · have := (hG.2.2.2.1 _ _ _ _ hlv (live_list h1 h2 hi) z).1
    omega
  · have := (hG.2.2.2.1 _ _ _ _ hlv (live_row h1 h2 hi z1) z).1
    omega
  · have := hG.lt hlv
    omega
theorem kel_hK (h1 : 12 ≤ k) (h2 : k < 19) {x : Int32} : ∀ H, kel D V L ad k i x H → ∀ (j y : Nat), ((L k i)[j]?).map (fun x => ad (lel k) x.toNatClampNeg) = some y → ∃ (ci : Nat) (fs : List Value) (r : vw_C), vwCl[ci]? = some r ∧ Cond.castable r.1 "java/lang/Object" ∈ gF ∧ va_at D vwCl (y, .inr (ci, fs)) H := by
  intro H hK j y hy
  obtain ⟨r, g1, g2⟩ := lel_cl h1 h2
  cases hj : (L k i)[j]? with
  | none => rw [hj] at hy; cases hy
  | some z =>
    rw [hj] at hy
    cases hy
    exact ⟨_, _, r, g1, g2, hK z (Or.inr (List.mem_of_getElem? hj))⟩
end LD
section LE
variable (l : Launch) {D : va_G} {dA : Nat → ClassId} {A : Nat → Prop} {n : Nat} {V : Rho} {L L1 : Lst} {N : Cnt} {ad : Adr} {xs : va_W} {k i : Nat}
theorem wz0 {zs : va_W} {y z w x : Nat × va_E} (h : zs[0]? = some w) : ((zs.set 0 y).set 0 z ++ [x])[0]? = some z := by
  refine wa ?_
  rw [List.set_set, List.getElem?_set_self (List.getElem?_eq_some_iff.mp h).1]
theorem wzl {zs : va_W} {y z x : Nat × va_E} : ((zs.set 0 y).set 0 z ++ [x])[zs.length]? = some x := by simp
theorem cl_add' (hst : l.stackTraces = false) (hA : ∀ q, n ≤ q → A q) (h1 : Nat.ble 12 k = true) (h2 : Nat.ble (k + 1) 19 = true) (hi : i < N (ow k)) {x : Int32} (hx : vp_in x (N (lel k))) (q : ¬ 1000 ≤ (L k i).length) {b : Nat} (hb : (L k i).length + (L k i).length / 2 + 10 ≤ b) (e : lput L k i (L k i ++ [x]) = L1) : Met l yJx4a65c_add_9ea2d (.code yJx4a65c_add_9ea2d cJx4a65c_add_9ea2d 2 (some .boolean) :: gT) ({ frames := 8, cells := 1, slots := b, locals := 336 } : Room) (va_Pc [.ref (ad k i), .ref (ad (lel k) x.toNatClampNeg)] (zB D dA A n (cx D dA A V L N ad xs))) (va_Qi (fun r (u : Adr) => r = 1 ∧ axt N ad u ∧ ∀ k, N k ≤ N k) (fun (u : Adr) t => cx D dA A V L1 N u xs t.heap) A) 1 b A := by
  subst e
  have h1 := Nat.le_of_ble_eq_true h1
  have h2 := Nat.le_of_ble_eq_true h2
  have hax : ∀ u : Nat, axt N ad (adu ad (k + 7) i u) := fun u k' i' hex hk => adu_ne (fun z => hk ⟨by omega, by omega⟩)
  refine met_open (fun H q => q = ad k i ∨ (L k i ≠ [] ∧ q = ad (k + 7) i) ∨ H.size ≤ q) (fun H hG hn => cl_A hA h1 h2 hi H hG hn) (fun H hG hn => ?_)
  obtain ⟨mo, zs, hz, z0, z1⟩ := cl_open h1 h2 hi hG
  have hz' : zw D (fun q => q = ad k i ∨ (L k i ≠ [] ∧ q = ad (k + 7) i) ∨ H.size ≤ q) zs (kel D V L ad k i x) H := ⟨hz.1, hz.2.1, kel_ok h1 h2 hi hx hG⟩
  obtain ⟨r, g1, g2⟩ := lel_cl h1 h2
  have hAA := cl_A hA h1 h2 hi H hG hn
  have hw : ∀ y ∈ L k i ++ [x], vp_in y (N (lel k)) := fun y hy => by
    rcases List.mem_append.mp hy with h | h
    · exact hG.2.2.2.2.2.2.1 k i y h1 h2 hi h
    · rw [List.mem_singleton.mp h]; exact hx
  by_cases hL : L k i = []
  · have z0' : zs[0]? = some (ad k i, .inr (2, [.int mo, .ref (dA 99), .int 0])) := by rw [z0, if_pos hL, hL]; rfl
    refine ⟨_, _, hz', jl_addE hst (fun q h => Or.inr (Or.inr h)) (kel_kf h1 h2 hi hx hG) 0 z0' (fun H hK => hK x (Or.inl rfl)) g1 g2 (b9 := b) (by omega), fun av st t o e9 h => ?_⟩
    obtain ⟨⟨r9, u, ho, ⟨hr, -⟩, hzz⟩, hF⟩ := h
    have a0 := hzz.1 0 _ (wz0 z0')
    have a1 := hzz.1 zs.length _ wzl
    have hzl : 0 < zs.length := (List.getElem?_eq_some_iff.mp z0').1
    have hune : u ≠ ad k i := fun z => by
      have := hzz.2.1.1 0 zs.length _ _ (wz0 z0') wzl z.symm
      omega
    have hu : H.size ≤ u := by
      rcases hzz.2.1.2 zs.length _ wzl with z | z | z
      · exact absurd z hune
      · exact absurd hL z.1
      · exact z
    refine ⟨⟨r9, adu ad (k + 7) i u, ho, ⟨hr, hax u, fun _ => Nat.le_refl _⟩, ?_⟩, cl_F e9 hAA hF⟩
    refine cx_list (w := L k i ++ [x]) (r := u) h1 h2 hi hG (cl_fr e9 hF) (fun _ => ⟨hAA u (Or.inr (Or.inr hu)), Or.inr hu⟩) hw (by rw [List.length_append]; show _ + 1 ≤ _; omega) ⟨_, by rw [if_neg (by simp), hL]; exact a0⟩ (fun _ => ⟨10, ?_, by rw [hL]; show 1 ≤ 10; omega, by rw [hL]; show 10 ≤ 2 * 1 + 10; omega⟩)
    have ef : (fun (j : Nat) => ((L k i ++ [x])[j]?).map (fun (y : Int32) => ad (lel k) y.toNatClampNeg)) = va_up (fun _ => none) 0 (some (ad (lel k) x.toNatClampNeg)) := by
      funext j
      rw [hL]
      cases j with
      | zero => rfl
      | succ j => rfl
    rw [ef]
    exact a1
  · obtain ⟨cap, c1, c2, c3⟩ := z1 hL
    have z0' : zs[0]? = some (ad k i, .inr (2, [.int mo, .ref (ad (k + 7) i), .int (nI (L k i).length)])) := by rw [z0, if_neg hL]
    have hpos : 0 < (L k i).length := Nat.pos_of_ne_zero (fun z => hL (List.eq_nil_of_length_eq_zero z))
    by_cases hfull : (L k i).length = cap
    · subst hfull
      refine ⟨_, _, hz', jl_addN hst (fun q h => Or.inr (Or.inr h)) (kel_kf h1 h2 hi hx hG) 0 1 z0' c1 hpos (by omega) (kel_hK h1 h2) (fun H hK => hK x (Or.inl rfl)) g1 g2 (by decide) (b9 := b) (by unfold gcap; omega), fun av st t o e9 h => ?_⟩
      obtain ⟨⟨r9, u, ho, ⟨hr, -⟩, hzz⟩, hF⟩ := h
      have a0 := hzz.1 0 _ (wz0 z0')
      have a1 := hzz.1 zs.length _ wzl
      have hzl : 1 < zs.length := (List.getElem?_eq_some_iff.mp c1).1
      have hune : u ≠ ad k i := fun z => by
        have := hzz.2.1.1 0 zs.length _ _ (wz0 z0') wzl z.symm
        omega
      have hune2 : u ≠ ad (k + 7) i := fun z => by
        have := hzz.2.1.1 1 zs.length _ _ (wa (by rw [List.set_set, List.getElem?_set_ne (by decide)]; exact c1)) wzl z.symm
        omega
      have hu : H.size ≤ u := by
        rcases hzz.2.1.2 zs.length _ wzl with z | z | z
        · exact absurd z hune
        · exact absurd z.2 hune2
        · exact z
      refine ⟨⟨r9, adu ad (k + 7) i u, ho, ⟨hr, hax u, fun _ => Nat.le_refl _⟩, ?_⟩, cl_F e9 hAA hF⟩
      refine cx_list (w := L k i ++ [x]) (r := u) h1 h2 hi hG (cl_fr e9 hF) (fun _ => ⟨hAA u (Or.inr (Or.inr hu)), Or.inr hu⟩) hw (by rw [List.length_append]; show _ + 1 ≤ _; omega) ⟨_, by rw [if_neg (by simp), List.length_append]; exact a0⟩ (fun _ => ⟨gcap (L k i).length, ?_, by rw [List.length_append]; show _ + 1 ≤ _; unfold gcap; omega, by rw [List.length_append]; show _ ≤ 2 * (_ + 1) + 10; unfold gcap; omega⟩)
      have ef : (fun (j : Nat) => ((L k i ++ [x])[j]?).map (fun (y : Int32) => ad (lel k) y.toNatClampNeg)) = va_up (va_cpy (fun (j : Nat) => ((L k i)[j]?).map (fun (y : Int32) => ad (lel k) y.toNatClampNeg)) (fun _ => none) 0 0 (L k i).length) (L k i).length (some (ad (lel k) x.toNatClampNeg)) := by
        funext j
        unfold va_up va_cpy
        by_cases e1 : j = (L k i).length
        · rw [if_pos e1, e1, List.getElem?_append_right (Nat.le_refl _), Nat.sub_self]
          rfl
        · rw [if_neg e1]
          by_cases e2 : j < (L k i).length
          · rw [if_pos ⟨by omega, by omega⟩, List.getElem?_append_left e2, Nat.zero_add, Nat.sub_zero]
          · rw [if_neg (fun z => e2 (by omega)), List.getElem?_eq_none (by rw [List.length_append]; show _ + 1 ≤ _; omega)]
            rfl
      rw [ef]
      exact a1
    · refine ⟨_, _, hz', jl_addR hst (fun q h => Or.inr (Or.inr h)) (kel_kf h1 h2 hi hx hG) 0 1 z0' c1 (by omega) (by omega) (by decide) (fun H hK => hK x (Or.inl rfl)) g1 g2 (b9 := b) (by omega), fun av st t o e9 h => ?_⟩
      obtain ⟨⟨r9, u, ho, ⟨hr, -⟩, hzz⟩, hF⟩ := h
      have hzl : 1 < zs.length := (List.getElem?_eq_some_iff.mp c1).1
      have a0 := hzz.1 0 _ (List.getElem?_set_self (by simp; omega))
      have a1 := hzz.1 1 _ ((List.getElem?_set_ne (by decide)).trans (List.getElem?_set_self (by simp; omega)))
      refine ⟨⟨r9, adu ad (k + 7) i (ad (k + 7) i), ho, ⟨hr, hax _, fun _ => Nat.le_refl _⟩, ?_⟩, cl_F e9 hAA hF⟩
      refine cx_list (w := L k i ++ [x]) (r := ad (k + 7) i) h1 h2 hi hG (cl_fr e9 hF) (fun _ => ⟨hAA _ (Or.inr (Or.inl ⟨hL, rfl⟩)), Or.inl ⟨rfl, hL⟩⟩) hw (by rw [List.length_append]; show _ + 1 ≤ _; omega) ⟨_, by rw [if_neg (by simp), List.length_append]; exact a0⟩ (fun _ => ⟨cap, ?_, by rw [List.length_append]; show _ + 1 ≤ _; omega, by rw [List.length_append]; show _ ≤ 2 * (_ + 1) + 10; omega⟩)
      have ef : (fun (j : Nat) => ((L k i ++ [x])[j]?).map (fun (y : Int32) => ad (lel k) y.toNatClampNeg)) = va_up (fun (j : Nat) => ((L k i)[j]?).map (fun (y : Int32) => ad (lel k) y.toNatClampNeg)) (L k i).length (some (ad (lel k) x.toNatClampNeg)) := by
        funext j
        unfold va_up
        by_cases e1 : j = (L k i).length
        · rw [if_pos e1, e1, List.getElem?_append_right (Nat.le_refl _), Nat.sub_self]
          rfl
        · rw [if_neg e1]
          by_cases e2 : j < (L k i).length
          · rw [List.getElem?_append_left e2]
          · show _ = Option.map (fun (y : Int32) => ad (lel k) y.toNatClampNeg) ((L k i)[j]?)
            rw [List.getElem?_eq_none (by rw [List.length_append]; show _ + 1 ≤ _; omega), List.getElem?_eq_none (by omega)]
      rw [ef]
      exact a1
end LE
