/-! CONSTRUCTORS: MeshBiller() -/
theorem g_192 : Cond.instantiable RX2 4 ∈ gT := gT_t 192 (by decide +kernel) rfl
theorem g_193 : Cond.methodLink RX11 56 yX2_init ∈ gT := gT_t 193 (by decide +kernel) rfl
theorem g_194 : Cond.instanceMethod yX2_init ∈ gT := gT_t 194 (by decide +kernel) rfl
theorem g_195 : Cond.code yX2_init cX2_init 3 none ∈ gT := gT_t 195 (by decide +kernel) rfl
theorem g_215 : Cond.instantiable RX9 4 ∈ gT := gT_t 215 (by decide +kernel) rfl
theorem g_216 : Cond.methodLink RX11 59 yX9_init ∈ gT := gT_t 216 (by decide +kernel) rfl
theorem g_217 : Cond.instanceMethod yX9_init ∈ gT := gT_t 217 (by decide +kernel) rfl
theorem g_218 : Cond.code yX9_init cX9_init 2 none ∈ gT := gT_t 218 (by decide +kernel) rfl
theorem g_239 : Cond.instantiable RX5 7 ∈ gT := gT_t 239 (by decide +kernel) rfl
theorem g_240 : Cond.methodLink RX11 60 yX5_init ∈ gT := gT_t 240 (by decide +kernel) rfl
theorem g_241 : Cond.instanceMethod yX5_init ∈ gT := gT_t 241 (by decide +kernel) rfl
theorem g_242 : Cond.code yX5_init cX5_init 4 none ∈ gT := gT_t 242 (by decide +kernel) rfl
theorem g_41 : Cond.methodLink RX11 3 Lib.objectInit ∈ gT := gT_t 43 (by decide +kernel) rfl
theorem g_44 : Cond.classLink RX11 9 "MeshBiller$Zone" ∈ gT := gT_t 46 (by decide +kernel) rfl
theorem g_46 : Cond.classLink RX11 15 "MeshBiller$Cell" ∈ gT := gT_t 48 (by decide +kernel) rfl
theorem g_48 : Cond.classLink RX11 21 "MeshBiller$Wallet" ∈ gT := gT_t 50 (by decide +kernel) rfl
theorem g_50 : Cond.classLink RX11 27 "MeshBiller$Phone" ∈ gT := gT_t 52 (by decide +kernel) rfl
theorem g_52 : Cond.classLink RX11 33 "java/util/ArrayList" ∈ gT := gT_t 54 (by decide +kernel) rfl
theorem g_54 : Cond.methodLink RX11 35 yJx4a65c_init_da8c8 ∈ gT := gT_t 56 (by decide +kernel) rfl
theorem g_78 : Cond.instantiable RX10 3 ∈ gT := gT_t 80 (by decide +kernel) rfl
theorem g_79 : Cond.methodLink RX11 53 yX10_init ∈ gT := gT_t 81 (by decide +kernel) rfl
theorem g_80 : Cond.instanceMethod yX10_init ∈ gT := gT_t 82 (by decide +kernel) rfl
theorem g_81 : Cond.code yX10_init cX10_init 2 none ∈ gT := gT_t 83 (by decide +kernel) rfl
theorem hd_yX11_init : yX11_init.name = "<init>" ∧ yX11_init.cls ≠ "java/lang/invoke/MethodHandle" ∧ yX11_init.cls ≠ "java/lang/invoke/VarHandle" ∧ (parseMethodDescriptor yX11_init.desc).map (fun d => d.parameters.length) = some 0 := by decide +kernel
theorem hd_yX2_init : yX2_init.name = "<init>" ∧ yX2_init.cls ≠ "java/lang/invoke/MethodHandle" ∧ yX2_init.cls ≠ "java/lang/invoke/VarHandle" ∧ (parseMethodDescriptor yX2_init.desc).map (fun d => d.parameters.length) = some 2 := by decide +kernel
theorem hd_yX9_init : yX9_init.name = "<init>" ∧ yX9_init.cls ≠ "java/lang/invoke/MethodHandle" ∧ yX9_init.cls ≠ "java/lang/invoke/VarHandle" ∧ (parseMethodDescriptor yX9_init.desc).map (fun d => d.parameters.length) = some 1 := by decide +kernel
theorem hd_yX5_init : yX5_init.name = "<init>" ∧ yX5_init.cls ≠ "java/lang/invoke/MethodHandle" ∧ yX5_init.cls ≠ "java/lang/invoke/VarHandle" ∧ (parseMethodDescriptor yX5_init.desc).map (fun d => d.parameters.length) = some 3 := by decide +kernel
theorem xB_axt {dA : Nat → ClassId} {ad ad' : Adr} {r : Nat → Nat} {z c w p : Nat} (h1 : ∀ j, j < z → ad' 10 j = ad 10 j) (h2 : ∀ j, j < c → ad' 2 j = ad 2 j) (h3 : ∀ j, j < w → ad' 9 j = ad 9 j) (h4 : ∀ j, j < p → ad' 5 j = ad 5 j) : xB dA ad' r z c w p = xB dA ad r z c w p := by
  unfold xB
  rw [fA_axt h1, fA_axt h2, fA_axt h3, fA_axt h4]
theorem c10 {z : Nat} (h : z < 10) : nI z + Int32.ofInt 1 = nI (z + 1) ∧ nI z - nI z / 3 * 3 = nI (z % 3) ∧ nI z - nI z / 8 * 8 = nI (z % 8) ∧ nI z - nI z / 4 * 4 = nI (z % 4) := by
  rcases (show z = 0 ∨ z = 1 ∨ z = 2 ∨ z = 3 ∨ z = 4 ∨ z = 5 ∨ z = 6 ∨ z = 7 ∨ z = 8 ∨ z = 9 by omega) with rfl | rfl | rfl | rfl | rfl | rfl | rfl | rfl | rfl | rfl <;> decide
theorem cge {z n : Nat} (h : z < n) (hn : n ≤ 10) : ¬ nI n ≤ nI z := by
  have key : ∀ n, n < 11 → ∀ z, z < n → ¬ nI n ≤ nI z := by decide
  exact key n (by omega) z h
def wM (D : va_G) (dA : Nat → ClassId) (A : Nat → Prop) (xs : va_W) (r : Nat → Nat) (h z c w p : Nat) (ad : Adr) : Heap → Prop := cx D dA A VB LB (nB h z c w p 0) ad (xs ++ xB dA ad r z c w p)
section ML
variable {p : Program} {l : Launch} {e : Env} {s : State} {m : MethodId} {args : Array Value} {below : List Frame} {meth : Method} {c : Code} {A : Nat → Prop} {Q : State → Prop} {D : va_G} {dA : Nat → ClassId} {xs : va_W} {r : Nat → Nat}

set_option maxRecDepth 100000 in
set_option maxHeartbeats 4000000 in
theorem lp_zone (X : zc p l s m args meth c cX11_init yX11_init.cls D dA A) (hml : c.maxLocals = 2) (k : ∀ ad, zz p l e ({ frames := 12, cells := 60, slots := 275, locals := 504 } : Room) s m args below meth c A (wM D dA A xs r 6 3 0 0 0 ad) (7 + 9 * 3) (34 + 37 * 3) Q 109 [(1, .int (nI 3)), (0, .ref (r 0))] [] []) : ∀ mm z ad, z + mm = 3 → zz p l e ({ frames := 12, cells := 60, slots := 275, locals := 504 } : Room) s m args below meth c A (wM D dA A xs r (2 * z) z 0 0 0 ad) (7 + 9 * z) (34 + 37 * z) Q 84 [(1, .int (nI z)), (0, .ref (r 0))] [] [] := by
  intro mm
  induction mm with
  | zero =>
    intro z ad hz
    have hz : z = 3 := by omega
    subst hz
    refine z_iload_n X dX11_init_84 rfl rfl ?_
    refine z_iconst (v := nI 3) X dX11_init_85 (by decide) ?_
    refine z_icmp_ge (tgt := 109) X dX11_init_86 (by decide) (fun _ => k ad) (fun q => absurd (Int32.le_refl _) q)
  | succ mm ih =>
    intro z ad hz
    have hz : z < 3 := by omega
    refine z_iload_n X dX11_init_84 rfl rfl ?_
    refine z_iconst (v := nI 3) X dX11_init_85 (by decide) ?_
    refine z_icmp_ge (tgt := 109) X dX11_init_86 (by decide) (fun q => absurd q (cge hz (by decide))) (fun _ => ?_)
    refine z_aload_n X dX11_init_89 rfl rfl ?_
    refine c_getX X (xs.length + 0) 14 0 (v := .ref (r 1)) rx11_ws rfl rfl (xq_get.trans rfl) g_272 rfl dX11_init_90 ?_
    refine z_iload_n X dX11_init_93 rfl rfl ?_
    refine c_new X 13 (fs := [.int 0, .null, .null]) tyX10 rx10_ws rfl tyX10_ok g_44 g_78 g_5 (fun j hj => by rcases (show j = 0 ∨ j = 1 ∨ j = 2 by omega) with rfl | rfl | rfl <;> rfl) ⟨by show _ ≤ 60; omega, by show _ ≤ 275; omega⟩ dX11_init_94 (fun q1 => ?_)
    refine z_dup X dX11_init_97 rfl ?_
    refine z_iload_n X dX11_init_98 rfl rfl ?_
    refine z_callI (As := [.int (nI z)]) (rest := [.ref q1, .int (nI z), .ref (r 1)]) (nA := 1) (mc := 8) (ms := 34) (rm := ({ frames := 10, cells := 8, slots := 34, locals := 420 } : Room)) (pu := fun (u : Adr) => axt (nB (2 * z) z 0 0 0 0) ad u) (G1 := fun u => cx D dA A (hV (hV VB (nB (2 * z) z 0 0 0 0) (20 * (nI z + 1))) (hN (nB (2 * z) z 0 0 0 0)) (10 * (nI z + 1))) (hL (hL LB (nB (2 * z) z 0 0 0 0)) (hN (nB (2 * z) z 0 0 0 0))) (hN (hN (nB (2 * z) z 0 0 0 0))) u (xs ++ xB dA ad r z 0 0 0 ++ [(q1, .inr (13, [.int (nI z), .ref (u 6 (2 * z)), .ref (u 6 (2 * z + 1))]))])) X (ck_Zone l X.2.2.2.2.2.2.2.2 X.2.2.2.2.2.2.1 (N := nB (2 * z) z 0 0 0 0) rfl (by show 2 * z < 900; omega) (by show 2 * z < 900; omega)) g_79 g_80 g_5 g_81 hd_yX10_init ⟨rfl, rfl, Nat.le_of_ble_eq_true rfl, Nat.le_of_ble_eq_true rfl⟩ rfl rfl (Nat.le_of_ble_eq_true rfl) dX11_init_99 ⟨by show _ ≤ 60; omega, by show _ ≤ 275; omega⟩ (fun u hu => ?_)
    obtain ⟨ad', ead⟩ : ∃ x, x = adu u 10 z q1 := ⟨_, rfl⟩
    have e1 : ad' 10 z = q1 := by rw [ead, adu_self]
    have ex : xB dA ad r z 0 0 0 = xB dA ad' r z 0 0 0 := (xB_axt (fun j hj => by rw [ead, adu_ne (by omega)]; exact hu 10 j (ex_k (by decide) hj) (by decide)) (fun j hj => absurd hj (Nat.not_lt_zero j)) (fun j hj => absurd hj (Nat.not_lt_zero j)) (fun j hj => absurd hj (Nat.not_lt_zero j))).symm
    refine zz.conseq (G' := cx D dA A VB LB (nB (2 * z + 2) (z + 1) 0 0 0 0) ad' (xs ++ xB dA ad' r z 0 0 0)) (fun H hG => by
      rw [(zone_own hz rfl rfl).1, (zone_own hz rfl rfl).2, nB_h, nB_h] at hG
      rw [← ex]
      exact mk_Zone hz ead hG) ?_
    rw [← e1]
    refine c_aastX X (xs.length + 1) 1 10 (i := z) (xs' := xs ++ xB dA ad' r (z + 1) 0 0 0) rfl (xq_get.trans rfl) rfl rfl (Nat.lt_succ_self z) (vp_in_nI hz (by omega)) (by rw [xq_set, nI_clamp (by omega), fA_up]; rfl) dX11_init_102 ?_
    refine z_iinc (v := nI (z + 1)) X dX11_init_103 rfl (c10 (by omega)).1 (by rw [hml]; decide) rfl rfl ?_
    refine z_goto (tgt := 84) X dX11_init_106 (by decide) ?_
    refine zz.widen (k := 7 + 9 * (z + 1)) (n := 34 + 37 * (z + 1)) (by omega) (by omega) ?_
    exact ih (z + 1) ad' (by omega)
set_option maxRecDepth 100000 in
set_option maxHeartbeats 4000000 in
theorem lp_cell (X : zc p l s m args meth c cX11_init yX11_init.cls D dA A) (hml : c.maxLocals = 2) (k : ∀ ad, zz p l e ({ frames := 12, cells := 60, slots := 275, locals := 504 } : Room) s m args below meth c A (wM D dA A xs r 6 3 8 0 0 ad) (34 + 1 * 8) (145 + 4 * 8) Q 145 [(1, .int (nI 8)), (0, .ref (r 0))] [] []) : ∀ mm z ad, z + mm = 8 → zz p l e ({ frames := 12, cells := 60, slots := 275, locals := 504 } : Room) s m args below meth c A (wM D dA A xs r 6 3 z 0 0 ad) (34 + 1 * z) (145 + 4 * z) Q 111 [(1, .int (nI z)), (0, .ref (r 0))] [] [] := by
  intro mm
  induction mm with
  | zero =>
    intro z ad hz
    have hz : z = 8 := by omega
    subst hz
    refine z_iload_n X dX11_init_111 rfl rfl ?_
    refine z_bipush (v := nI 8) X dX11_init_112 (by decide) ?_
    refine z_icmp_ge (tgt := 145) X dX11_init_114 (by decide) (fun _ => k ad) (fun q => absurd (Int32.le_refl _) q)
  | succ mm ih =>
    intro z ad hz
    have hz : z < 8 := by omega
    refine z_iload_n X dX11_init_111 rfl rfl ?_
    refine z_bipush (v := nI 8) X dX11_init_112 (by decide) ?_
    refine z_icmp_ge (tgt := 145) X dX11_init_114 (by decide) (fun q => absurd q (cge hz (by decide))) (fun _ => ?_)
    have h3 : z % 3 < 3 := Nat.mod_lt _ (by decide)
    have v3 : vp_in (nI (z % 3)) 3 := vp_in_nI h3 (by omega)
    refine z_aload_n X dX11_init_117 rfl rfl ?_
    refine c_getX X (xs.length + 0) 14 1 (v := .ref (r 2)) rx11_ws rfl rfl (xq_get.trans rfl) g_273 rfl dX11_init_118 ?_
    refine z_iload_n X dX11_init_121 rfl rfl ?_
    refine c_new X 5 (fs := [.int 0, .null, .int 0, .int 0]) tyX2 rx2_ws rfl tyX2_ok g_46 g_192 g_12 (fun j hj => by rcases (show j = 0 ∨ j = 1 ∨ j = 2 ∨ j = 3 by omega) with rfl | rfl | rfl | rfl <;> rfl) ⟨by show _ ≤ 60; omega, by show _ ≤ 275; omega⟩ dX11_init_122 (fun q1 => ?_)
    refine z_dup X dX11_init_125 rfl ?_
    refine z_iload_n X dX11_init_126 rfl rfl ?_
    refine z_aload_n X dX11_init_127 rfl rfl ?_
    refine c_getX X (xs.length + 0) 14 0 (v := .ref (r 1)) rx11_ws rfl rfl (by rw [List.append_assoc, xq_get]; rfl) g_272 rfl dX11_init_128 ?_
    refine z_iload_n X dX11_init_131 rfl rfl ?_
    refine z_iconst (v := 3) X dX11_init_132 (by decide) ?_
    refine z_irem X dX11_init_133 (by decide) ?_
    rw [(c10 (z := z) (by omega)).2.1]
    refine c_aaldX X (xs.length + 1) 1 (n := 3) (f := fA ad 10 3) (o := some (ad 10 (nI (z % 3)).toNatClampNeg)) rfl (by rw [List.append_assoc, xq_get]; rfl) (vp_in_nI h3 (by omega)) (if_pos (vp_lt (vp_in_nI h3 (by omega)))) dX11_init_134 ?_
    refine z_callI (As := [.int (nI z), .ref (ad 10 (nI (z % 3)).toNatClampNeg)]) (rest := [.ref q1, .int (nI z), .ref (r 2)]) (nA := 2) (mc := 0) (ms := 0) (rm := ({ frames := 1, cells := 0, slots := 0, locals := 42 } : Room)) (pu := fun (u : Unit) => True) (G1 := fun u => cx D dA A VB LB (nB 6 3 z 0 0 0) ad (xs ++ xB dA ad r 3 z 0 0 ++ [(q1, .inr (5, [.int (nI z), .ref (ad 10 (nI (z % 3)).toNatClampNeg), .int 3, .int 0]))])) X (ck_Cell l X.2.2.2.2.2.2.2.2 X.2.2.2.2.2.2.1 (N := nB 6 3 z 0 0 0) v3) g_193 g_194 g_12 g_195 hd_yX2_init ⟨rfl, rfl, Nat.le_of_ble_eq_true rfl, Nat.le_of_ble_eq_true rfl⟩ rfl rfl (Nat.le_of_ble_eq_true rfl) dX11_init_135 ⟨by show _ ≤ 60; omega, by show _ ≤ 275; omega⟩ (fun _ _ => ?_)
    obtain ⟨ad', ead⟩ : ∃ x, x = adu ad 2 z q1 := ⟨_, rfl⟩
    have e1 : ad' 2 z = q1 := by rw [ead, adu_self]
    have ex : xB dA ad r 3 z 0 0 = xB dA ad' r 3 z 0 0 := (xB_axt (fun j hj => by rw [ead, adu_ne (by omega)]) (fun j hj => by rw [ead, adu_ne (by omega)]) (fun j hj => absurd hj (Nat.not_lt_zero j)) (fun j hj => absurd hj (Nat.not_lt_zero j))).symm
    refine zz.conseq (G' := cx D dA A VB LB (nB 6 3 (z + 1) 0 0 0) ad' (xs ++ xB dA ad' r 3 z 0 0)) (fun H hG => by
      rw [← ex]
      exact mk_Cell hz ead hG) ?_
    rw [← e1]
    refine c_aastX X (xs.length + 2) 2 2 (i := z) (xs' := xs ++ xB dA ad' r 3 (z + 1) 0 0) rfl (xq_get.trans rfl) rfl rfl (Nat.lt_succ_self z) (vp_in_nI hz (by omega)) (by rw [xq_set, nI_clamp (by omega), fA_up]; rfl) dX11_init_138 ?_
    refine z_iinc (v := nI (z + 1)) X dX11_init_139 rfl (c10 (by omega)).1 (by rw [hml]; decide) rfl rfl ?_
    refine z_goto (tgt := 111) X dX11_init_142 (by decide) ?_
    refine zz.widen (k := 34 + 1 * (z + 1)) (n := 145 + 4 * (z + 1)) (by omega) (by omega) ?_
    exact ih (z + 1) ad' (by omega)
set_option maxRecDepth 100000 in
set_option maxHeartbeats 4000000 in
theorem lp_wallet (X : zc p l s m args meth c cX11_init yX11_init.cls D dA A) (hml : c.maxLocals = 2) (k : ∀ ad, zz p l e ({ frames := 12, cells := 60, slots := 275, locals := 504 } : Room) s m args below meth c A (wM D dA A xs r 6 3 8 4 0 ad) (42 + 2 * 4) (177 + 7 * 4) Q 172 [(1, .int (nI 4)), (0, .ref (r 0))] [] []) : ∀ mm z ad, z + mm = 4 → zz p l e ({ frames := 12, cells := 60, slots := 275, locals := 504 } : Room) s m args below meth c A (wM D dA A xs r 6 3 8 z 0 ad) (42 + 2 * z) (177 + 7 * z) Q 147 [(1, .int (nI z)), (0, .ref (r 0))] [] [] := by
  intro mm
  induction mm with
  | zero =>
    intro z ad hz
    have hz : z = 4 := by omega
    subst hz
    refine z_iload_n X dX11_init_147 rfl rfl ?_
    refine z_iconst (v := nI 4) X dX11_init_148 (by decide) ?_
    refine z_icmp_ge (tgt := 172) X dX11_init_149 (by decide) (fun _ => k ad) (fun q => absurd (Int32.le_refl _) q)
  | succ mm ih =>
    intro z ad hz
    have hz : z < 4 := by omega
    refine z_iload_n X dX11_init_147 rfl rfl ?_
    refine z_iconst (v := nI 4) X dX11_init_148 (by decide) ?_
    refine z_icmp_ge (tgt := 172) X dX11_init_149 (by decide) (fun q => absurd q (cge hz (by decide))) (fun _ => ?_)
    refine z_aload_n X dX11_init_152 rfl rfl ?_
    refine c_getX X (xs.length + 0) 14 2 (v := .ref (r 3)) rx11_ws rfl rfl (xq_get.trans rfl) g_274 rfl dX11_init_153 ?_
    refine z_iload_n X dX11_init_156 rfl rfl ?_
    refine c_new X 12 (fs := [.int 0, .null, .int 0, .int 0]) tyX9 rx9_ws rfl tyX9_ok g_48 g_215 g_13 (fun j hj => by rcases (show j = 0 ∨ j = 1 ∨ j = 2 ∨ j = 3 by omega) with rfl | rfl | rfl | rfl <;> rfl) ⟨by show _ ≤ 60; omega, by show _ ≤ 275; omega⟩ dX11_init_157 (fun q1 => ?_)
    refine z_dup X dX11_init_160 rfl ?_
    refine z_iload_n X dX11_init_161 rfl rfl ?_
    refine z_callI (As := [.int (nI z)]) (rest := [.ref q1, .int (nI z), .ref (r 3)]) (nA := 1) (mc := 1) (ms := 3) (rm := ({ frames := 4, cells := 1, slots := 3, locals := 168 } : Room)) (pu := fun (u : Nat) => True) (G1 := fun u => cx D dA A VB LB (nB 6 3 8 z 0 0) ad (xs ++ xB dA ad r 3 8 z 0 ++ [(q1, .inr (12, [.int (nI z), .ref u, .int 0, .int 0]))] ++ [(u, .inr (2, [.int 0, .ref (dA 99), .int 0]))])) X (ck_Wallet l X.2.2.2.2.2.2.2.2 X.2.2.2.2.2.2.1 (N := nB 6 3 8 z 0 0)) g_216 g_217 g_13 g_218 hd_yX9_init ⟨rfl, rfl, Nat.le_of_ble_eq_true rfl, Nat.le_of_ble_eq_true rfl⟩ rfl rfl (Nat.le_of_ble_eq_true rfl) dX11_init_162 ⟨by show _ ≤ 60; omega, by show _ ≤ 275; omega⟩ (fun u _ => ?_)
    obtain ⟨ad', ead⟩ : ∃ x, x = adu (adu ad 9 z q1) 15 z u := ⟨_, rfl⟩
    have e1 : ad' 9 z = q1 := by rw [ead, adu_ne (by omega), adu_self]
    have ex : xB dA ad r 3 8 z 0 = xB dA ad' r 3 8 z 0 := (xB_axt (fun j hj => by rw [ead, adu_ne (by omega), adu_ne (by omega)]) (fun j hj => by rw [ead, adu_ne (by omega), adu_ne (by omega)]) (fun j hj => by rw [ead, adu_ne (by omega), adu_ne (by omega)]) (fun j hj => absurd hj (Nat.not_lt_zero j))).symm
    refine zz.conseq (G' := cx D dA A VB LB (nB 6 3 8 (z + 1) 0 0) ad' (xs ++ xB dA ad' r 3 8 z 0)) (fun H hG => by
      rw [← ex]
      exact mk_Wallet hz ead hG) ?_
    rw [← e1]
    refine c_aastX X (xs.length + 3) 3 9 (i := z) (xs' := xs ++ xB dA ad' r 3 8 (z + 1) 0) rfl (xq_get.trans rfl) rfl rfl (Nat.lt_succ_self z) (vp_in_nI hz (by omega)) (by rw [xq_set, nI_clamp (by omega), fA_up]; rfl) dX11_init_165 ?_
    refine z_iinc (v := nI (z + 1)) X dX11_init_166 rfl (c10 (by omega)).1 (by rw [hml]; decide) rfl rfl ?_
    refine z_goto (tgt := 147) X dX11_init_169 (by decide) ?_
    refine zz.widen (k := 42 + 2 * (z + 1)) (n := 177 + 7 * (z + 1)) (by omega) (by omega) ?_
    exact ih (z + 1) ad' (by omega)
set_option maxRecDepth 100000 in
set_option maxHeartbeats 4000000 in
theorem lp_phone (X : zc p l s m args meth c cX11_init yX11_init.cls D dA A) (hml : c.maxLocals = 2) (k : ∀ ad, zz p l e ({ frames := 12, cells := 60, slots := 275, locals := 504 } : Room) s m args below meth c A (wM D dA A xs r 6 3 8 4 10 ad) (50 + 1 * 10) (205 + 7 * 10) Q 217 [(1, .int (nI 10)), (0, .ref (r 0))] [] []) : ∀ mm z ad, z + mm = 10 → zz p l e ({ frames := 12, cells := 60, slots := 275, locals := 504 } : Room) s m args below meth c A (wM D dA A xs r 6 3 8 4 z ad) (50 + 1 * z) (205 + 7 * z) Q 174 [(1, .int (nI z)), (0, .ref (r 0))] [] [] := by
  intro mm
  induction mm with
  | zero =>
    intro z ad hz
    have hz : z = 10 := by omega
    subst hz
    refine z_iload_n X dX11_init_174 rfl rfl ?_
    refine z_bipush (v := nI 10) X dX11_init_175 (by decide) ?_
    refine z_icmp_ge (tgt := 217) X dX11_init_177 (by decide) (fun _ => k ad) (fun q => absurd (Int32.le_refl _) q)
  | succ mm ih =>
    intro z ad hz
    have hz : z < 10 := by omega
    refine z_iload_n X dX11_init_174 rfl rfl ?_
    refine z_bipush (v := nI 10) X dX11_init_175 (by decide) ?_
    refine z_icmp_ge (tgt := 217) X dX11_init_177 (by decide) (fun q => absurd q (cge hz (by decide))) (fun _ => ?_)
    have h8 : z % 8 < 8 := Nat.mod_lt _ (by decide)
    have h4 : z % 4 < 4 := Nat.mod_lt _ (by decide)
    have v8 : vp_in (nI (z % 8)) 8 := vp_in_nI h8 (by omega)
    have v4 : vp_in (nI (z % 4)) 4 := vp_in_nI h4 (by omega)
    refine z_aload_n X dX11_init_180 rfl rfl ?_
    refine c_getX X (xs.length + 0) 14 3 (v := .ref (r 4)) rx11_ws rfl rfl (xq_get.trans rfl) g_275 rfl dX11_init_181 ?_
    refine z_iload_n X dX11_init_184 rfl rfl ?_
    refine c_new X 8 (fs := [.int 0, .null, .null, .int 0, .null, .int 0, .int 0]) tyX5 rx5_ws rfl tyX5_ok g_50 g_239 g_14 (fun j hj => by rcases (show j = 0 ∨ j = 1 ∨ j = 2 ∨ j = 3 ∨ j = 4 ∨ j = 5 ∨ j = 6 by omega) with rfl | rfl | rfl | rfl | rfl | rfl | rfl <;> rfl) ⟨by show _ ≤ 60; omega, by show _ ≤ 275; omega⟩ dX11_init_185 (fun q1 => ?_)
    refine z_dup X dX11_init_188 rfl ?_
    refine z_iload_n X dX11_init_189 rfl rfl ?_
    refine z_aload_n X dX11_init_190 rfl rfl ?_
    refine c_getX X (xs.length + 0) 14 1 (v := .ref (r 2)) rx11_ws rfl rfl (by rw [List.append_assoc, xq_get]; rfl) g_273 rfl dX11_init_191 ?_
    refine z_iload_n X dX11_init_194 rfl rfl ?_
    refine z_bipush (v := 8) X dX11_init_195 (by decide) ?_
    refine z_irem X dX11_init_197 (by decide) ?_
    rw [(c10 (z := z) (by omega)).2.2.1]
    refine c_aaldX X (xs.length + 2) 2 (n := 8) (f := fA ad 2 8) (o := some (ad 2 (nI (z % 8)).toNatClampNeg)) rfl (by rw [List.append_assoc, xq_get]; rfl) (vp_in_nI h8 (by omega)) (if_pos (vp_lt (vp_in_nI h8 (by omega)))) dX11_init_198 ?_
    refine z_aload_n X dX11_init_199 rfl rfl ?_
    refine c_getX X (xs.length + 0) 14 2 (v := .ref (r 3)) rx11_ws rfl rfl (by rw [List.append_assoc, xq_get]; rfl) g_274 rfl dX11_init_200 ?_
    refine z_iload_n X dX11_init_203 rfl rfl ?_
    refine z_iconst (v := 4) X dX11_init_204 (by decide) ?_
    refine z_irem X dX11_init_205 (by decide) ?_
    rw [(c10 (z := z) (by omega)).2.2.2]
    refine c_aaldX X (xs.length + 3) 3 (n := 4) (f := fA ad 9 4) (o := some (ad 9 (nI (z % 4)).toNatClampNeg)) rfl (by rw [List.append_assoc, xq_get]; rfl) (vp_in_nI h4 (by omega)) (if_pos (vp_lt (vp_in_nI h4 (by omega)))) dX11_init_206 ?_
    refine z_callI (As := [.int (nI z), .ref (ad 2 (nI (z % 8)).toNatClampNeg), .ref (ad 9 (nI (z % 4)).toNatClampNeg)]) (rest := [.ref q1, .int (nI z), .ref (r 4)]) (nA := 3) (mc := 0) (ms := 0) (rm := ({ frames := 1, cells := 0, slots := 0, locals := 42 } : Room)) (pu := fun (u : Unit) => True) (G1 := fun u => cx D dA A VB LB (nB 6 3 8 4 z 0) ad (xs ++ xB dA ad r 3 8 4 z ++ [(q1, .inr (8, [.int (nI z), .ref (ad 2 (nI (z % 8)).toNatClampNeg), .ref (ad 9 (nI (z % 4)).toNatClampNeg), .int (-1), .null, .int 0, .int 0]))])) X (ck_Phone l X.2.2.2.2.2.2.2.2 X.2.2.2.2.2.2.1 (N := nB 6 3 8 4 z 0) v8 v4) g_240 g_241 g_14 g_242 hd_yX5_init ⟨rfl, rfl, Nat.le_of_ble_eq_true rfl, Nat.le_of_ble_eq_true rfl⟩ rfl rfl (Nat.le_of_ble_eq_true rfl) dX11_init_207 ⟨by show _ ≤ 60; omega, by show _ ≤ 275; omega⟩ (fun _ _ => ?_)
    obtain ⟨ad', ead⟩ : ∃ x, x = adu ad 5 z q1 := ⟨_, rfl⟩
    have e1 : ad' 5 z = q1 := by rw [ead, adu_self]
    have ex : xB dA ad r 3 8 4 z = xB dA ad' r 3 8 4 z := (xB_axt (fun j hj => by rw [ead, adu_ne (by omega)]) (fun j hj => by rw [ead, adu_ne (by omega)]) (fun j hj => by rw [ead, adu_ne (by omega)]) (fun j hj => by rw [ead, adu_ne (by omega)])).symm
    refine zz.conseq (G' := cx D dA A VB LB (nB 6 3 8 4 (z + 1) 0) ad' (xs ++ xB dA ad' r 3 8 4 z)) (fun H hG => by
      rw [← ex]
      exact mk_Phone hz ead hG) ?_
    rw [← e1]
    refine c_aastX X (xs.length + 4) 4 5 (i := z) (xs' := xs ++ xB dA ad' r 3 8 4 (z + 1)) rfl (xq_get.trans rfl) rfl rfl (Nat.lt_succ_self z) (vp_in_nI hz (by omega)) (by rw [xq_set, nI_clamp (by omega), fA_up]; rfl) dX11_init_210 ?_
    refine z_iinc (v := nI (z + 1)) X dX11_init_211 rfl (c10 (by omega)).1 (by rw [hml]; decide) rfl rfl ?_
    refine z_goto (tgt := 174) X dX11_init_214 (by decide) ?_
    refine zz.widen (k := 50 + 1 * (z + 1)) (n := 205 + 7 * (z + 1)) (by omega) (by omega) ?_
    exact ih (z + 1) ad' (by omega)
end ML
set_option maxRecDepth 100000 in
set_option maxHeartbeats 4000000 in
theorem ck_Mesh (l : Launch) {D : va_G} {dA : Nat → ClassId} {A : Nat → Prop} {n : Nat} (hst : l.stackTraces = false) (hA : ∀ q, n ≤ q → A q) {ad : Adr} {xs : va_W} {q : Nat} : Met l yX11_init (.code yX11_init cX11_init 2 none :: gT) ({ frames := 12, cells := 60, slots := 275, locals := 504 } : Room) (va_Pc [.ref q] (zB D dA A n (cx D dA A VB LB (nB 0 0 0 0 0 0) ad (xs ++ [(q, .inr (14, [.null, .null, .null, .null, .null, .null, .null, .int 0, .int 0]))])))) (va_Qv (fun (u : Adr) => u 11 0 = q) (fun u t => cx D dA A VB LB (nB 6 3 8 4 10 1) u xs t.heap) A) 60 275 A := by
  refine z_met (by decide) hA hst (Nat.le_of_ble_eq_true rfl) rfl rfl (fun p e s m below meth c X hml hr hnm => ?_)
  refine z_aload_n X dX11_init_0 rfl rfl ?_
  refine z_objInit X g_41 g_42 g_43 ⟨Nat.le_of_ble_eq_true rfl, Nat.le_of_ble_eq_true rfl⟩ dX11_init_1 ?_
  refine z_aload_n X dX11_init_4 rfl rfl ?_
  refine z_iconst (v := 3) X dX11_init_5 (by decide) ?_
  refine c_newqX X 1 (N' := 3) rfl (by decide) g_44 (by decide) (by decide) (by decide) ⟨by show _ ≤ 60; omega, by show _ ≤ 275; omega⟩ dX11_init_6 (fun r1 => ?_)
  refine c_putX X xs.length 14 0 (a := q) (fs := [.null, .null, .null, .null, .null, .null, .null, .int 0, .int 0]) (v := .ref r1) (xs' := xs ++ [(q, .inr (14, [.ref r1, .null, .null, .null, .null, .null, .null, .int 0, .int 0]))] ++ [(r1, .inl (dA 1, 3, .inr (.inr (.inr (.inr (fun _ => none))))))]) (ty := .array (.object "MeshBiller$Zone")) rx11_ws rfl tyX11_ok nmX11 rfl (by simp) rfl (Or.inr ⟨rfl, hnm, rfl⟩) g_272 rfl rfl rfl (by simp) dX11_init_9 ?_
  refine z_aload_n X dX11_init_12 rfl rfl ?_
  refine z_bipush (v := 8) X dX11_init_13 (by decide) ?_
  refine c_newqX X 2 (N' := 8) rfl (by decide) g_46 (by decide) (by decide) (by decide) ⟨by show _ ≤ 60; omega, by show _ ≤ 275; omega⟩ dX11_init_15 (fun r2 => ?_)
  refine c_putX X xs.length 14 1 (a := q) (fs := [.ref r1, .null, .null, .null, .null, .null, .null, .int 0, .int 0]) (v := .ref r2) (xs' := xs ++ [(q, .inr (14, [.ref r1, .ref r2, .null, .null, .null, .null, .null, .int 0, .int 0]))] ++ [(r1, .inl (dA 1, 3, .inr (.inr (.inr (.inr (fun _ => none))))))] ++ [(r2, .inl (dA 2, 8, .inr (.inr (.inr (.inr (fun _ => none))))))]) (ty := .array (.object "MeshBiller$Cell")) rx11_ws rfl tyX11_ok nmX11 rfl (by simp) rfl (Or.inr ⟨rfl, hnm, rfl⟩) g_273 rfl rfl rfl (by simp) dX11_init_18 ?_
  refine z_aload_n X dX11_init_21 rfl rfl ?_
  refine z_iconst (v := 4) X dX11_init_22 (by decide) ?_
  refine c_newqX X 3 (N' := 4) rfl (by decide) g_48 (by decide) (by decide) (by decide) ⟨by show _ ≤ 60; omega, by show _ ≤ 275; omega⟩ dX11_init_23 (fun r3 => ?_)
  refine c_putX X xs.length 14 2 (a := q) (fs := [.ref r1, .ref r2, .null, .null, .null, .null, .null, .int 0, .int 0]) (v := .ref r3) (xs' := xs ++ [(q, .inr (14, [.ref r1, .ref r2, .ref r3, .null, .null, .null, .null, .int 0, .int 0]))] ++ [(r1, .inl (dA 1, 3, .inr (.inr (.inr (.inr (fun _ => none))))))] ++ [(r2, .inl (dA 2, 8, .inr (.inr (.inr (.inr (fun _ => none))))))] ++ [(r3, .inl (dA 3, 4, .inr (.inr (.inr (.inr (fun _ => none))))))]) (ty := .array (.object "MeshBiller$Wallet")) rx11_ws rfl tyX11_ok nmX11 rfl (by simp) rfl (Or.inr ⟨rfl, hnm, rfl⟩) g_274 rfl rfl rfl (by simp) dX11_init_26 ?_
  refine z_aload_n X dX11_init_29 rfl rfl ?_
  refine z_bipush (v := 10) X dX11_init_30 (by decide) ?_
  refine c_newqX X 4 (N' := 10) rfl (by decide) g_50 (by decide) (by decide) (by decide) ⟨by show _ ≤ 60; omega, by show _ ≤ 275; omega⟩ dX11_init_32 (fun r4 => ?_)
  refine c_putX X xs.length 14 3 (a := q) (fs := [.ref r1, .ref r2, .ref r3, .null, .null, .null, .null, .int 0, .int 0]) (v := .ref r4) (xs' := xs ++ [(q, .inr (14, [.ref r1, .ref r2, .ref r3, .ref r4, .null, .null, .null, .int 0, .int 0]))] ++ [(r1, .inl (dA 1, 3, .inr (.inr (.inr (.inr (fun _ => none))))))] ++ [(r2, .inl (dA 2, 8, .inr (.inr (.inr (.inr (fun _ => none))))))] ++ [(r3, .inl (dA 3, 4, .inr (.inr (.inr (.inr (fun _ => none))))))] ++ [(r4, .inl (dA 4, 10, .inr (.inr (.inr (.inr (fun _ => none))))))]) (ty := .array (.object "MeshBiller$Phone")) rx11_ws rfl tyX11_ok nmX11 rfl (by simp) rfl (Or.inr ⟨rfl, hnm, rfl⟩) g_275 rfl rfl rfl (by simp) dX11_init_35 ?_
  refine z_aload_n X dX11_init_38 rfl rfl ?_
  refine c_new X 2 (fs := [.int 0, .null, .int 0]) tyJx4a65c rj_ws rfl tyJx4a65c_ok g_52 g_53 g_4 (fun j hj => by rcases (show j = 0 ∨ j = 1 ∨ j = 2 by omega) with rfl | rfl | rfl <;> rfl) ⟨by show _ ≤ 60; omega, by show _ ≤ 275; omega⟩ dX11_init_39 (fun r5 => ?_)
  refine z_dup X dX11_init_42 rfl ?_
  refine z_callI (As := []) (rest := [.ref r5, .ref q]) (nA := 0) (mc := 0) (ms := 0) (pu := fun (_ : Unit) => True) (G1 := fun _ => cx D dA A VB LB (nB 0 0 0 0 0 0) ad (xs ++ [(q, .inr (14, [.ref r1, .ref r2, .ref r3, .ref r4, .null, .null, .null, .int 0, .int 0]))] ++ [(r1, .inl (dA 1, 3, .inr (.inr (.inr (.inr (fun _ => none))))))] ++ [(r2, .inl (dA 2, 8, .inr (.inr (.inr (.inr (fun _ => none))))))] ++ [(r3, .inl (dA 3, 4, .inr (.inr (.inr (.inr (fun _ => none))))))] ++ [(r4, .inl (dA 4, 10, .inr (.inr (.inr (.inr (fun _ => none))))))] ++ [(r5, .inr (2, [.int 0, .ref (dA 99), .int 0]))])) X (ck_List l X.2.2.2.2.2.2.2.2 X.2.2.2.2.2.2.1) g_54 g_55 g_4 g_56 hd_yJx4a65c_init_da8c8 ⟨rfl, rfl, Nat.le_of_ble_eq_true rfl, Nat.le_of_ble_eq_true rfl⟩ rfl rfl (Nat.le_of_ble_eq_true rfl) dX11_init_43 ⟨by show _ ≤ 60; omega, by show _ ≤ 275; omega⟩ (fun _ _ => ?_)
  refine c_putX X xs.length 14 4 (a := q) (fs := [.ref r1, .ref r2, .ref r3, .ref r4, .null, .null, .null, .int 0, .int 0]) (v := .ref r5) (xs' := xs ++ [(q, .inr (14, [.ref r1, .ref r2, .ref r3, .ref r4, .ref r5, .null, .null, .int 0, .int 0]))] ++ [(r1, .inl (dA 1, 3, .inr (.inr (.inr (.inr (fun _ => none))))))] ++ [(r2, .inl (dA 2, 8, .inr (.inr (.inr (.inr (fun _ => none))))))] ++ [(r3, .inl (dA 3, 4, .inr (.inr (.inr (.inr (fun _ => none))))))] ++ [(r4, .inl (dA 4, 10, .inr (.inr (.inr (.inr (fun _ => none))))))] ++ [(r5, .inr (2, [.int 0, .ref (dA 99), .int 0]))]) (ty := .object "java/util/ArrayList") rx11_ws rfl tyX11_ok nmX11 rfl (by simp) rfl (Or.inr ⟨rfl, hnm, rfl⟩) g_276 rfl rfl rfl (by simp) dX11_init_46 ?_
  refine z_aload_n X dX11_init_49 rfl rfl ?_
  refine c_new X 2 (fs := [.int 0, .null, .int 0]) tyJx4a65c rj_ws rfl tyJx4a65c_ok g_52 g_53 g_4 (fun j hj => by rcases (show j = 0 ∨ j = 1 ∨ j = 2 by omega) with rfl | rfl | rfl <;> rfl) ⟨by show _ ≤ 60; omega, by show _ ≤ 275; omega⟩ dX11_init_50 (fun r6 => ?_)
  refine z_dup X dX11_init_53 rfl ?_
  refine z_callI (As := []) (rest := [.ref r6, .ref q]) (nA := 0) (mc := 0) (ms := 0) (pu := fun (_ : Unit) => True) (G1 := fun _ => cx D dA A VB LB (nB 0 0 0 0 0 0) ad (xs ++ [(q, .inr (14, [.ref r1, .ref r2, .ref r3, .ref r4, .ref r5, .null, .null, .int 0, .int 0]))] ++ [(r1, .inl (dA 1, 3, .inr (.inr (.inr (.inr (fun _ => none))))))] ++ [(r2, .inl (dA 2, 8, .inr (.inr (.inr (.inr (fun _ => none))))))] ++ [(r3, .inl (dA 3, 4, .inr (.inr (.inr (.inr (fun _ => none))))))] ++ [(r4, .inl (dA 4, 10, .inr (.inr (.inr (.inr (fun _ => none))))))] ++ [(r5, .inr (2, [.int 0, .ref (dA 99), .int 0]))] ++ [(r6, .inr (2, [.int 0, .ref (dA 99), .int 0]))])) X (ck_List l X.2.2.2.2.2.2.2.2 X.2.2.2.2.2.2.1) g_54 g_55 g_4 g_56 hd_yJx4a65c_init_da8c8 ⟨rfl, rfl, Nat.le_of_ble_eq_true rfl, Nat.le_of_ble_eq_true rfl⟩ rfl rfl (Nat.le_of_ble_eq_true rfl) dX11_init_54 ⟨by show _ ≤ 60; omega, by show _ ≤ 275; omega⟩ (fun _ _ => ?_)
  refine c_putX X xs.length 14 5 (a := q) (fs := [.ref r1, .ref r2, .ref r3, .ref r4, .ref r5, .null, .null, .int 0, .int 0]) (v := .ref r6) (xs' := xs ++ [(q, .inr (14, [.ref r1, .ref r2, .ref r3, .ref r4, .ref r5, .ref r6, .null, .int 0, .int 0]))] ++ [(r1, .inl (dA 1, 3, .inr (.inr (.inr (.inr (fun _ => none))))))] ++ [(r2, .inl (dA 2, 8, .inr (.inr (.inr (.inr (fun _ => none))))))] ++ [(r3, .inl (dA 3, 4, .inr (.inr (.inr (.inr (fun _ => none))))))] ++ [(r4, .inl (dA 4, 10, .inr (.inr (.inr (.inr (fun _ => none))))))] ++ [(r5, .inr (2, [.int 0, .ref (dA 99), .int 0]))] ++ [(r6, .inr (2, [.int 0, .ref (dA 99), .int 0]))]) (ty := .object "java/util/ArrayList") rx11_ws rfl tyX11_ok nmX11 rfl (by simp) rfl (Or.inr ⟨rfl, hnm, rfl⟩) g_277 rfl rfl rfl (by simp) dX11_init_57 ?_
  refine z_aload_n X dX11_init_60 rfl rfl ?_
  refine c_new X 2 (fs := [.int 0, .null, .int 0]) tyJx4a65c rj_ws rfl tyJx4a65c_ok g_52 g_53 g_4 (fun j hj => by rcases (show j = 0 ∨ j = 1 ∨ j = 2 by omega) with rfl | rfl | rfl <;> rfl) ⟨by show _ ≤ 60; omega, by show _ ≤ 275; omega⟩ dX11_init_61 (fun r7 => ?_)
  refine z_dup X dX11_init_64 rfl ?_
  refine z_callI (As := []) (rest := [.ref r7, .ref q]) (nA := 0) (mc := 0) (ms := 0) (pu := fun (_ : Unit) => True) (G1 := fun _ => cx D dA A VB LB (nB 0 0 0 0 0 0) ad (xs ++ [(q, .inr (14, [.ref r1, .ref r2, .ref r3, .ref r4, .ref r5, .ref r6, .null, .int 0, .int 0]))] ++ [(r1, .inl (dA 1, 3, .inr (.inr (.inr (.inr (fun _ => none))))))] ++ [(r2, .inl (dA 2, 8, .inr (.inr (.inr (.inr (fun _ => none))))))] ++ [(r3, .inl (dA 3, 4, .inr (.inr (.inr (.inr (fun _ => none))))))] ++ [(r4, .inl (dA 4, 10, .inr (.inr (.inr (.inr (fun _ => none))))))] ++ [(r5, .inr (2, [.int 0, .ref (dA 99), .int 0]))] ++ [(r6, .inr (2, [.int 0, .ref (dA 99), .int 0]))] ++ [(r7, .inr (2, [.int 0, .ref (dA 99), .int 0]))])) X (ck_List l X.2.2.2.2.2.2.2.2 X.2.2.2.2.2.2.1) g_54 g_55 g_4 g_56 hd_yJx4a65c_init_da8c8 ⟨rfl, rfl, Nat.le_of_ble_eq_true rfl, Nat.le_of_ble_eq_true rfl⟩ rfl rfl (Nat.le_of_ble_eq_true rfl) dX11_init_65 ⟨by show _ ≤ 60; omega, by show _ ≤ 275; omega⟩ (fun _ _ => ?_)
  refine c_putX X xs.length 14 6 (a := q) (fs := [.ref r1, .ref r2, .ref r3, .ref r4, .ref r5, .ref r6, .null, .int 0, .int 0]) (v := .ref r7) (xs' := xs ++ [(q, .inr (14, [.ref r1, .ref r2, .ref r3, .ref r4, .ref r5, .ref r6, .ref r7, .int 0, .int 0]))] ++ [(r1, .inl (dA 1, 3, .inr (.inr (.inr (.inr (fun _ => none))))))] ++ [(r2, .inl (dA 2, 8, .inr (.inr (.inr (.inr (fun _ => none))))))] ++ [(r3, .inl (dA 3, 4, .inr (.inr (.inr (.inr (fun _ => none))))))] ++ [(r4, .inl (dA 4, 10, .inr (.inr (.inr (.inr (fun _ => none))))))] ++ [(r5, .inr (2, [.int 0, .ref (dA 99), .int 0]))] ++ [(r6, .inr (2, [.int 0, .ref (dA 99), .int 0]))] ++ [(r7, .inr (2, [.int 0, .ref (dA 99), .int 0]))]) (ty := .object "java/util/ArrayList") rx11_ws rfl tyX11_ok nmX11 rfl (by simp) rfl (Or.inr ⟨rfl, hnm, rfl⟩) g_278 rfl rfl rfl (by simp) dX11_init_68 ?_
  refine z_aload_n X dX11_init_71 rfl rfl ?_
  refine z_bipush (v := 20) X dX11_init_72 (by decide) ?_
  refine c_putX X xs.length 14 7 (a := q) (fs := [.ref r1, .ref r2, .ref r3, .ref r4, .ref r5, .ref r6, .ref r7, .int 0, .int 0]) (v := .int 20) (xs' := xs ++ [(q, .inr (14, [.ref r1, .ref r2, .ref r3, .ref r4, .ref r5, .ref r6, .ref r7, .int 20, .int 0]))] ++ [(r1, .inl (dA 1, 3, .inr (.inr (.inr (.inr (fun _ => none))))))] ++ [(r2, .inl (dA 2, 8, .inr (.inr (.inr (.inr (fun _ => none))))))] ++ [(r3, .inl (dA 3, 4, .inr (.inr (.inr (.inr (fun _ => none))))))] ++ [(r4, .inl (dA 4, 10, .inr (.inr (.inr (.inr (fun _ => none))))))] ++ [(r5, .inr (2, [.int 0, .ref (dA 99), .int 0]))] ++ [(r6, .inr (2, [.int 0, .ref (dA 99), .int 0]))] ++ [(r7, .inr (2, [.int 0, .ref (dA 99), .int 0]))]) (ty := .int) rx11_ws rfl tyX11_ok nmX11 rfl (by simp) rfl (Or.inl rfl) g_279 rfl rfl rfl (by simp) dX11_init_74 ?_
  refine z_aload_n X dX11_init_77 rfl rfl ?_
  refine z_iconst (v := 0) X dX11_init_78 (by decide) ?_
  refine c_putX X xs.length 14 8 (a := q) (fs := [.ref r1, .ref r2, .ref r3, .ref r4, .ref r5, .ref r6, .ref r7, .int 20, .int 0]) (v := .int 0) (xs' := xs ++ [(q, .inr (14, [.ref r1, .ref r2, .ref r3, .ref r4, .ref r5, .ref r6, .ref r7, .int 20, .int 0]))] ++ [(r1, .inl (dA 1, 3, .inr (.inr (.inr (.inr (fun _ => none))))))] ++ [(r2, .inl (dA 2, 8, .inr (.inr (.inr (.inr (fun _ => none))))))] ++ [(r3, .inl (dA 3, 4, .inr (.inr (.inr (.inr (fun _ => none))))))] ++ [(r4, .inl (dA 4, 10, .inr (.inr (.inr (.inr (fun _ => none))))))] ++ [(r5, .inr (2, [.int 0, .ref (dA 99), .int 0]))] ++ [(r6, .inr (2, [.int 0, .ref (dA 99), .int 0]))] ++ [(r7, .inr (2, [.int 0, .ref (dA 99), .int 0]))]) (ty := .int) rx11_ws rfl tyX11_ok nmX11 rfl (by simp) rfl (Or.inl rfl) g_280 rfl rfl rfl (by simp) dX11_init_79 ?_
  obtain ⟨r, er⟩ : ∃ r : Nat → Nat, r = fun j => [q, r1, r2, r3, r4, r5, r6, r7].getD j 0 := ⟨_, rfl⟩
  have eq : q = r 0 := by rw [er]; rfl
  refine zz.conseq (G' := wM D dA A xs r (2 * 0) 0 0 0 0 ad) (fun H hG => by
    have e9 : xs ++ [(q, .inr (14, [.ref r1, .ref r2, .ref r3, .ref r4, .ref r5, .ref r6, .ref r7, .int 20, .int 0]))] ++ [(r1, .inl (dA 1, 3, .inr (.inr (.inr (.inr (fun _ => none))))))] ++ [(r2, .inl (dA 2, 8, .inr (.inr (.inr (.inr (fun _ => none))))))] ++ [(r3, .inl (dA 3, 4, .inr (.inr (.inr (.inr (fun _ => none))))))] ++ [(r4, .inl (dA 4, 10, .inr (.inr (.inr (.inr (fun _ => none))))))] ++ [(r5, .inr (2, [.int 0, .ref (dA 99), .int 0]))] ++ [(r6, .inr (2, [.int 0, .ref (dA 99), .int 0]))] ++ [(r7, .inr (2, [.int 0, .ref (dA 99), .int 0]))] = xs ++ xB dA ad r 0 0 0 0 := by
      rw [er]
      simp only [List.append_assoc]
      rfl
    rw [e9] at hG
    exact hG) ?_
  refine z_iconst (v := nI 0) X dX11_init_82 (by decide) ?_
  refine z_istore_n X dX11_init_83 rfl (by rw [hml]; decide) rfl (lo' := [(1, .int (nI 0)), (0, .ref (r 0))]) (by rw [← eq]; rfl) ?_
  refine zz.widen (k := 7 + 9 * 0) (n := 34 + 37 * 0) (by omega) (by omega) ?_
  refine lp_zone X hml (fun ad1 => ?_) 3 0 ad rfl
  refine z_iconst (v := nI 0) X dX11_init_109 (by decide) ?_
  refine z_istore_n X dX11_init_110 rfl (by rw [hml]; decide) rfl rfl ?_
  refine zz.widen (k := 34 + 1 * 0) (n := 145 + 4 * 0) (by omega) (by omega) ?_
  refine lp_cell X hml (fun ad2 => ?_) 8 0 ad1 rfl
  refine z_iconst (v := nI 0) X dX11_init_145 (by decide) ?_
  refine z_istore_n X dX11_init_146 rfl (by rw [hml]; decide) rfl rfl ?_
  refine zz.widen (k := 42 + 2 * 0) (n := 177 + 7 * 0) (by omega) (by omega) ?_
  refine lp_wallet X hml (fun ad3 => ?_) 4 0 ad2 rfl
  refine z_iconst (v := nI 0) X dX11_init_172 (by decide) ?_
  refine z_istore_n X dX11_init_173 rfl (by rw [hml]; decide) rfl rfl ?_
  refine zz.widen (k := 50 + 1 * 0) (n := 205 + 7 * 0) (by omega) (by omega) ?_
  refine lp_phone X hml (fun ad4 => ?_) 10 0 ad3 rfl
  refine zz.widen (k := 60) (n := 275) (by omega) (by omega) ?_
  exact z_vret X hr (fun t hG hF _ => ⟨⟨adm ad4 r, rfl, eq.symm, mk_Mesh hG⟩, hF⟩) dX11_init_217
