/-! lineAt of the class -/
theorem g_1263 : Cond.classLink RX11 328 "java/lang/StringBuilder" ∈ gT := gT_t 975 (by decide +kernel) rfl
theorem g_1264 : Cond.methodLink RX11 330 yJ4_init_da8c8 ∈ gT := gT_t 977 (by decide +kernel) rfl
theorem g_1265 : Cond.methodLink RX11 331 yJ4_append_cf468 ∈ gT := gT_t 1005 (by decide +kernel) rfl
theorem g_1266 : Cond.instanceMethod yJ4_append_cf468 ∈ gT := gT_t 1006 (by decide +kernel) rfl
theorem g_1267 : Cond.selects RJ4 yJ4_append_cf468 yJ4_append_cf468 ∈ gT := gT_t 1007 (by decide +kernel) rfl
theorem g_1268 : Cond.code yJ4_append_cf468 cJ4_append_cf468 2 (some (.object "java/lang/StringBuilder")) ∈ gT := gT_t 1008 (by decide +kernel) rfl
theorem g_1285 : Cond.methodLink RX11 340 yJ4_append_bf812 ∈ gT := gT_t 1083 (by decide +kernel) rfl
theorem g_1286 : Cond.methodLink RX11 343 yX11_signOf ∈ gT := gT_t 1117 (by decide +kernel) rfl
theorem g_1287 : Cond.static yX11_signOf ∈ gT := gT_t 1118 (by decide +kernel) rfl
theorem g_1288 : Cond.code yX11_signOf cX11_signOf 1 (some .char) ∈ gT := gT_t 1119 (by decide +kernel) rfl
theorem g_1289 : Cond.methodLink RX11 347 yJ4_length_8abf5 ∈ gT := gT_t 1120 (by decide +kernel) rfl
theorem g_1290 : Cond.methodLink RX11 350 yJ4_charAt_5068e ∈ gT := gT_t 1127 (by decide +kernel) rfl
theorem g_1291 : Cond.instanceMethod yJ4_charAt_5068e ∈ gT := gT_t 1128 (by decide +kernel) rfl
theorem g_1292 : Cond.selects RJ4 yJ4_charAt_5068e yJ4_charAt_5068e ∈ gT := gT_t 1129 (by decide +kernel) rfl
theorem g_1293 : Cond.code yJ4_charAt_5068e cJ4_charAt_5068e 2 (some .char) ∈ gT := gT_t 1130 (by decide +kernel) rfl
theorem g_1722 : Cond.selects RJ4 yJ4_length_8abf5 yJ4_length_8abf5 ∈ gT := gT_t 1122 (by decide +kernel) rfl
theorem g_246 : Cond.fieldLink RX11 339 "MeshBiller$Phone" "number" "I" ∈ gT := gT_t 246 (by decide +kernel) rfl
theorem g_26 : Cond.initialized RJ4 ∈ gT := gT_t 29 (by decide +kernel) rfl
theorem g_588 : Cond.instanceMethod yJ4_init_da8c8 ∈ gT := gT_t 978 (by decide +kernel) rfl
theorem g_589 : Cond.code yJ4_init_da8c8 cJ4_init_da8c8 1 none ∈ gT := gT_t 979 (by decide +kernel) rfl
theorem g_723 : Cond.instanceMethod yJ4_append_bf812 ∈ gT := gT_t 1084 (by decide +kernel) rfl
theorem g_724 : Cond.selects RJ4 yJ4_append_bf812 yJ4_append_bf812 ∈ gT := gT_t 1085 (by decide +kernel) rfl
theorem g_725 : Cond.code yJ4_append_bf812 cJ4_append_bf812 2 (some (.object "java/lang/StringBuilder")) ∈ gT := gT_t 1086 (by decide +kernel) rfl
theorem g_770 : Cond.instanceMethod yJ4_length_8abf5 ∈ gT := gT_t 1121 (by decide +kernel) rfl
theorem g_771 : Cond.code yJ4_length_8abf5 cJ4_length_8abf5 1 (some .int) ∈ gT := gT_t 1123 (by decide +kernel) rfl
theorem hd_yJ4_append_bf812 : yJ4_append_bf812.cls = RJ4 ∧ yJ4_append_bf812.cls ≠ "java/lang/invoke/MethodHandle" ∧ yJ4_append_bf812.cls ≠ "java/lang/invoke/VarHandle" ∧ (parseMethodDescriptor yJ4_append_bf812.desc).map (fun d => d.parameters.length) = some 1 := by decide +kernel
theorem hd_yJ4_append_cf468 : yJ4_append_cf468.cls = RJ4 ∧ yJ4_append_cf468.cls ≠ "java/lang/invoke/MethodHandle" ∧ yJ4_append_cf468.cls ≠ "java/lang/invoke/VarHandle" ∧ (parseMethodDescriptor yJ4_append_cf468.desc).map (fun d => d.parameters.length) = some 1 := by decide +kernel
theorem hd_yJ4_charAt_5068e : yJ4_charAt_5068e.cls = RJ4 ∧ yJ4_charAt_5068e.cls ≠ "java/lang/invoke/MethodHandle" ∧ yJ4_charAt_5068e.cls ≠ "java/lang/invoke/VarHandle" ∧ (parseMethodDescriptor yJ4_charAt_5068e.desc).map (fun d => d.parameters.length) = some 1 := by decide +kernel
theorem hd_yJ4_init_da8c8 : yJ4_init_da8c8.name = "<init>" ∧ yJ4_init_da8c8.cls ≠ "java/lang/invoke/MethodHandle" ∧ yJ4_init_da8c8.cls ≠ "java/lang/invoke/VarHandle" ∧ (parseMethodDescriptor yJ4_init_da8c8.desc).map (fun d => d.parameters.length) = some 0 := by decide +kernel
theorem hd_yJ4_length_8abf5 : yJ4_length_8abf5.cls = RJ4 ∧ yJ4_length_8abf5.cls ≠ "java/lang/invoke/MethodHandle" ∧ yJ4_length_8abf5.cls ≠ "java/lang/invoke/VarHandle" ∧ (parseMethodDescriptor yJ4_length_8abf5.desc).map (fun d => d.parameters.length) = some 0 := by decide +kernel
theorem hd_yX11_signOf : yX11_signOf.cls = RX11 ∧ yX11_signOf.cls ≠ "java/lang/invoke/MethodHandle" ∧ yX11_signOf.cls ≠ "java/lang/invoke/VarHandle" ∧ (parseMethodDescriptor yX11_signOf.desc).map (fun d => d.parameters.length) = some 1 := by decide +kernel
def sgn (x : Int32) : Nat := if x = 1 then 46 else if x = 2 then 33 else if x = 3 then 63 else 126
theorem sgn_lt {x : Int32} : sgn x < 128 := by unfold sgn; (repeat' split) <;> decide
def lineT (p c s ch co : Nat) (st : Int32) : List Nat := [] ++ [80] ++ dgs p ++ [67] ++ dgs c ++ [58] ++ dgs s ++ [61] ++ dgs ch ++ [43] ++ dgs co ++ [sgn st]
def lnA (t : List Nat) (x : Int32) : Int32 := if x.toNatClampNeg < t.length then nI (t.getD x.toNatClampNeg 0) else -1
def lnB (V : Rho) (k : Nat) : Bool := decide (¬ (V 100 (V 81 k).toNatClampNeg < 0 ∨ 10 ≤ (V 100 (V 81 k).toNatClampNeg).toNatClampNeg)) && (decide (¬ (V 20 (V 82 k).toNatClampNeg < 0 ∨ 100 ≤ (V 20 (V 82 k).toNatClampNeg).toNatClampNeg)) && (decide (¬ (V 88 k < 0 ∨ 100000 ≤ (V 88 k).toNatClampNeg)) && (decide (¬ (V 89 k < 0 ∨ 50000002 ≤ (V 89 k).toNatClampNeg)) && decide (¬ (V 90 k < 0 ∨ 50000002 ≤ (V 90 k).toNatClampNeg)))))
theorem lnB_iff {V : Rho} {k : Nat} : lnB V k = true ↔ (vp_in (V 100 (V 81 k).toNatClampNeg) 10 ∧ vp_in (V 20 (V 82 k).toNatClampNeg) 100 ∧ vp_in (V 88 k) 100000 ∧ vp_in (V 89 k) 50000002 ∧ vp_in (V 90 k) 50000002) := by
  unfold lnB vp_in
  simp only [Bool.and_eq_true, decide_eq_true_eq]
def lnT (V : Rho) (k : Nat) : List Nat := lineT (V 100 (V 81 k).toNatClampNeg).toNatClampNeg (V 20 (V 82 k).toNatClampNeg).toNatClampNeg (V 88 k).toNatClampNeg (V 89 k).toNatClampNeg (V 90 k).toNatClampNeg (V 87 k)
def fc_lineAt (V : Rho) (L : Lst) (N : Cnt) (a1 : Int32) (a2 : Int32) : Option ((Int32) ⊕ Nat) := (fc_legAt V L N a1).bind fun o1 => Sum.elim (fun u2 => if a2 < 0 then some (.inr 1) else if lnB V u2.toNatClampNeg = true then some (.inl (lnA (lnT V u2.toNatClampNeg) a2)) else none) (fun e9 => some (.inr e9)) o1
theorem dg1 {v : Nat} (h : v < 10) : sb_dg v ≤ 1 := by unfold sb_dg; rw [if_pos h]; exact Nat.le_refl 1
theorem dg2 {v : Nat} (h : v < 100) : sb_dg v ≤ 2 := by unfold sb_dg; (repeat' split) <;> omega
theorem dg5 {v : Nat} (h : v < 100000) : sb_dg v ≤ 5 := by unfold sb_dg; (repeat' split) <;> omega
theorem dg8 {v : Nat} (h : v < 100000000) : sb_dg v ≤ 8 := by unfold sb_dg; (repeat' split) <;> omega
theorem sbt_nil : sbt [] 16 (fun _ => 0) := ⟨Or.inl rfl, by decide, sb_fit0, fun c hc => (by cases hc), fun j hj => absurd hj (Nat.not_lt_zero j)⟩
theorem cc_sgn {l : Launch} {D : va_G} {dA : Nat → ClassId} {A : Nat → Prop} {n : Nat} (hst : l.stackTraces = false) (hA : ∀ q, n ≤ q → A q) {G : Heap → Prop} {x : Int32} : Met l yX11_signOf (.code yX11_signOf cX11_signOf 1 (some .char) :: gT) ({ frames := 1, cells := 0, slots := 0, locals := 42 } : Room) (va_Pc [.int x] (zB D dA A n G)) (va_Qi (fun r (_ : Unit) => r = nI (sgn x) ∧ True) (fun (_ : Unit) t => G t.heap) A) 0 0 A :=
  z_met (by decide) hA hst (Nat.le_of_ble_eq_true rfl) rfl rfl (fun p e s m below meth c X hml hr _ => by
    refine z_iload_n X dX11_signOf_0 rfl rfl ?_
    by_cases q1 : x = 1
    · subst q1
      refine z_tableIn (tgt := 28) X dX11_signOf_1 (by decide) (by decide) rfl (by decide) ?_
      refine z_bipush (v := nI 46) X dX11_signOf_28 (by decide) ?_
      exact z_iret X hr rfl (fun t hG hF _ => ⟨⟨_, (), rfl, ⟨rfl, trivial⟩, hG⟩, hF⟩) dX11_signOf_30
    · by_cases q2 : x = 2
      · subst q2
        refine z_tableIn (tgt := 31) X dX11_signOf_1 (by decide) (by decide) rfl (by decide) ?_
        refine z_bipush (v := nI 33) X dX11_signOf_31 (by decide) ?_
        exact z_iret X hr rfl (fun t hG hF _ => ⟨⟨_, (), rfl, ⟨rfl, trivial⟩, hG⟩, hF⟩) dX11_signOf_33
      · by_cases q3 : x = 3
        · subst q3
          refine z_tableIn (tgt := 34) X dX11_signOf_1 (by decide) (by decide) rfl (by decide) ?_
          refine z_bipush (v := nI 63) X dX11_signOf_34 (by decide) ?_
          exact z_iret X hr rfl (fun t hG hF _ => ⟨⟨_, (), rfl, ⟨rfl, trivial⟩, hG⟩, hF⟩) dX11_signOf_36
        · refine z_tableOut (tgt := 37) X dX11_signOf_1 (z_out3 q1 q2 q3) (by decide) ?_
          refine z_bipush (v := nI 126) X dX11_signOf_37 (by decide) ?_
          exact z_iret X hr rfl (fun t hG hF _ => ⟨⟨_, (), rfl, ⟨by unfold sgn; rw [if_neg q1, if_neg q2, if_neg q3], trivial⟩, hG⟩, hF⟩) dX11_signOf_39)
section LN
variable {p : Program} {l : Launch} {e : Env} {R : Room} {s : State} {m : MethodId} {args : Array Value} {below : List Frame} {meth : Method} {c : Code} {A : Nat → Prop} {cells slots : Nat} {Q : State → Prop}
variable {D : va_G} {dA : Nat → ClassId} {pc : Nat} {lo : List (Nat × Value)} {ll : List (Nat × Int64)} {rest : List Value} {V : Rho} {L : Lst} {N : Cnt} {ad : Adr} {xs : va_W}
theorem z_apC (X : zc p l s m args meth c cX11_lineAt RX11 D dA A) {b k x q : Nat} {f : Nat → Int32} {t : List Nat} (ht : sbt t k f) (hl : t.length + 1 ≤ 34) (hx : x < 128) (hR : 11 ≤ R.frames ∧ 450 ≤ R.locals) (hcs : cells + 1 ≤ R.cells ∧ slots + 34 ≤ R.slots) (hcat : (rest.map fun v => v.category).sum ≤ 8) (hdg : decode cX11_lineAt pc = .ok (.invokevirtual 331, 3))
    (kk : ∀ (b' k' : Nat) (f' : Nat → Int32), sbt (t ++ [x]) k' f' → zz p l e R s m args below meth c A (cx D dA A V L N ad (sbz dA b' k' f' q (t ++ [x]).length ++ xs)) (cells + 1) (slots + 34) Q (pc + 3) lo ll (.ref q :: rest)) : zz p l e R s m args below meth c A (cx D dA A V L N ad (sbz dA b k f q t.length ++ xs)) cells slots Q pc lo ll (.int (nI x) :: .ref q :: rest) :=
  z_callVq (C := RJ4) (As := [.int (nI x)]) (rest := rest) (nA := 1) (mc := 1) (ms := 34) (rm := ({ frames := 10, cells := 1, slots := 34, locals := 420 } : Room)) (ro := fun _ => some q) (pu := fun (u : Nat × Nat × (Nat → Int32)) => sbt (t ++ [x]) u.2.1 u.2.2) (G1 := fun u => cx D dA A V L N ad (sbz dA u.1 u.2.1 u.2.2 q (t ++ [x]).length ++ xs)) X (sb_convq X.2.2.2.2.2.2.1 (W := fun u => u) (fun A1 n1 h1 => sb_apC4 X.2.2.2.2.2.2.2.2 h1 ht hl hx)) g_1265 g_1266 g_1267 g_26 g_1268 hd_yJ4_append_cf468 ⟨rfl, rfl, hR.1, Nat.le_trans (Nat.le_of_ble_eq_true rfl) hR.2⟩ rfl (fun _ hG => cx_recvX X (j := 1) (ci := 1) rfl rfl hG) rfl hcat hdg hcs (fun u hu => kk u.1 u.2.1 u.2.2 hu)
theorem z_apI (X : zc p l s m args meth c cX11_lineAt RX11 D dA A) {b k v q : Nat} {f : Nat → Int32} {t : List Nat} (ht : sbt t k f) (hl : t.length + sb_dg v ≤ 34) (hv : v ≤ 50000001) (hR : 11 ≤ R.frames ∧ 450 ≤ R.locals) (hcs : cells + 1 ≤ R.cells ∧ slots + 34 ≤ R.slots) (hcat : (rest.map fun v => v.category).sum ≤ 8) (hdg : decode cX11_lineAt pc = .ok (.invokevirtual 340, 3))
    (kk : ∀ (b' k' : Nat) (f' : Nat → Int32), sbt (t ++ dgs v) k' f' → zz p l e R s m args below meth c A (cx D dA A V L N ad (sbz dA b' k' f' q (t ++ dgs v).length ++ xs)) (cells + 1) (slots + 34) Q (pc + 3) lo ll (.ref q :: rest)) : zz p l e R s m args below meth c A (cx D dA A V L N ad (sbz dA b k f q t.length ++ xs)) cells slots Q pc lo ll (.int (nI v) :: .ref q :: rest) :=
  z_callVq (C := RJ4) (As := [.int (nI v)]) (rest := rest) (nA := 1) (mc := 1) (ms := 34) (rm := ({ frames := 10, cells := 1, slots := 34, locals := 420 } : Room)) (ro := fun _ => some q) (pu := fun (u : Nat × Nat × (Nat → Int32)) => sbt (t ++ dgs v) u.2.1 u.2.2) (G1 := fun u => cx D dA A V L N ad (sbz dA u.1 u.2.1 u.2.2 q (t ++ dgs v).length ++ xs)) X (sb_convq X.2.2.2.2.2.2.1 (W := fun u => u) (fun A1 n1 h1 => sb_apI4 X.2.2.2.2.2.2.2.2 h1 ht hl hv)) g_1285 g_723 g_724 g_26 g_725 hd_yJ4_append_bf812 ⟨rfl, rfl, hR.1, Nat.le_trans (Nat.le_of_ble_eq_true rfl) hR.2⟩ rfl (fun _ hG => cx_recvX X (j := 1) (ci := 1) rfl rfl hG) rfl hcat hdg hcs (fun u hu => kk u.1 u.2.1 u.2.2 hu)
set_option maxRecDepth 100000 in
theorem line21 (X : zc p l s m args meth c cX11_lineAt RX11 D dA A) (hml : c.maxLocals = 5) (hR : 11 ≤ R.frames ∧ 450 ≤ R.locals) {k vp vc : Nat} {a1 a2 : Int32} (hk : k < N 4) (p4 : vp_in (V 81 k) (N 5)) (p5 : vp_in (V 82 k) (N 1)) (ep : V 100 (V 81 k).toNatClampNeg = nI vp) (ec : V 20 (V 82 k).toNatClampNeg = nI vc) (wp : vp < 10) (wc : vc < 100) (hcs : cells + 6 ≤ R.cells ∧ slots + 156 ≤ R.slots)
    (kk : ∀ (q b n : Nat) (f : Nat → Int32) (T : List Nat), T = [] ++ [80] ++ dgs vp ++ [67] ++ dgs vc → sbt T n f → zz p l e R s m args below meth c A (cx D dA A V L N ad (sbz dA b n f q T.length ++ xs)) (cells + 6) (slots + 156) Q 63 [(4, .ref q), (3, .ref (ad 4 k)), (0, .ref (ad 11 0)), (1, .int a1), (2, .int a2)] [] []) : zz p l e R s m args below meth c A (cx D dA A V L N ad xs) cells slots Q 21 [(3, .ref (ad 4 k)), (0, .ref (ad 11 0)), (1, .int a1), (2, .int a2)] [] [] := by
  obtain ⟨hc1, hc2⟩ := hcs
  have dp := dg1 wp
  have dc := dg2 wc
  refine c_new X 1 (fs := [.null, .int 0, .int 0, .int 0]) tyJ4 rj4_ws rfl tyJ4_ok g_1263 g_586 g_26 (fun j hj => by rcases (show j = 0 ∨ j = 1 ∨ j = 2 ∨ j = 3 by omega) with rfl | rfl | rfl | rfl <;> rfl) ⟨by omega, by omega⟩ dX11_lineAt_21 (fun q => ?_)
  refine zz.conseq (fun H hG => cx_rot hG) ?_
  refine z_dup X dX11_lineAt_24 rfl ?_
  refine z_callI (As := []) (rest := [.ref q]) (nA := 0) (mc := 1) (ms := 16) (rm := ({ frames := 2, cells := 1, slots := 16, locals := 84 } : Room)) (pu := fun (_ : Nat) => True) (G1 := fun u => cx D dA A V L N ad (sbz dA u 16 (fun _ => 0) q 0 ++ xs)) X (sb_initX X.2.2.2.2.2.2.2.2 X.2.2.2.2.2.2.1) g_1264 g_588 g_26 g_589 hd_yJ4_init_da8c8 ⟨rfl, rfl, Nat.le_trans (Nat.le_of_ble_eq_true rfl) hR.1, Nat.le_trans (Nat.le_of_ble_eq_true rfl) hR.2⟩ rfl rfl (Nat.le_of_ble_eq_true rfl) dX11_lineAt_25 ⟨by omega, by omega⟩ (fun b0 _ => ?_)
  refine z_astore (lo' := [(4, .ref q), (3, .ref (ad 4 k)), (0, .ref (ad 11 0)), (1, .int a1), (2, .int a2)]) X dX11_lineAt_28 (by rw [hml]; decide) rfl rfl ?_
  obtain ⟨T0, e0⟩ : ∃ T : List Nat, T = [] := ⟨_, rfl⟩
  have t0 : sbt T0 16 (fun _ => 0) := by rw [e0]; exact sbt_nil
  have l0 : T0.length = 0 := by rw [e0]; rfl
  refine zz.conseq (G' := cx D dA A V L N ad (sbz dA b0 16 (fun _ => 0) q T0.length ++ xs)) (fun H hG => by rw [l0]; exact hG) ?_
  refine z_aload X dX11_lineAt_30 rfl ?_
  refine z_bipush (v := nI 80) X dX11_lineAt_32 (by decide) ?_
  refine z_apC X t0 (by omega) (by decide) hR ⟨by omega, by omega⟩ (Nat.le_of_ble_eq_true rfl) dX11_lineAt_34 (fun b1 k1 f1 t1 => ?_)
  obtain ⟨T1, e1⟩ : ∃ T, T = T0 ++ [80] := ⟨_, rfl⟩
  rw [← e1] at t1 ⊢
  have l1 : T1.length = T0.length + 1 := by rw [e1, List.length_append, List.length_singleton]
  refine z_aload_n X dX11_lineAt_37 rfl rfl ?_
  refine c_get X 4 1 (v := .ref (ad 5 (V 81 k).toNatClampNeg)) rx4_ws rfl rfl rfl hk g_929 rfl dX11_lineAt_38 ?_
  refine c_get X 5 0 (v := .int (V 100 (V 81 k).toNatClampNeg)) rx5_ws rfl rfl rfl (vp_lt p4) g_246 rfl dX11_lineAt_41 ?_
  rw [ep]
  refine z_apI X t1 (by omega) (by omega) hR ⟨by omega, by omega⟩ (Nat.le_of_ble_eq_true rfl) dX11_lineAt_44 (fun b2 k2 f2 t2 => ?_)
  obtain ⟨T2, e2⟩ : ∃ T, T = T1 ++ dgs vp := ⟨_, rfl⟩
  rw [← e2] at t2 ⊢
  have l2 : T2.length = T1.length + sb_dg vp := by rw [e2, List.length_append, dgs_len]
  refine z_bipush (v := nI 67) X dX11_lineAt_47 (by decide) ?_
  refine z_apC X t2 (by omega) (by decide) hR ⟨by omega, by omega⟩ (Nat.le_of_ble_eq_true rfl) dX11_lineAt_49 (fun b3 k3 f3 t3 => ?_)
  obtain ⟨T3, e3⟩ : ∃ T, T = T2 ++ [67] := ⟨_, rfl⟩
  rw [← e3] at t3 ⊢
  have l3 : T3.length = T2.length + 1 := by rw [e3, List.length_append, List.length_singleton]
  refine z_aload_n X dX11_lineAt_52 rfl rfl ?_
  refine c_get X 4 2 (v := .ref (ad 1 (V 82 k).toNatClampNeg)) rx4_ws rfl rfl rfl hk g_931 rfl dX11_lineAt_53 ?_
  refine c_get X 1 0 (v := .int (V 20 (V 82 k).toNatClampNeg)) rx1_ws rfl rfl rfl (vp_lt p5) g_881 rfl dX11_lineAt_56 ?_
  rw [ec]
  refine z_apI X t3 (by omega) (by omega) hR ⟨by omega, by omega⟩ (Nat.le_of_ble_eq_true rfl) dX11_lineAt_59 (fun b4 k4 f4 t4 => ?_)
  obtain ⟨T4, e4⟩ : ∃ T, T = T3 ++ dgs vc := ⟨_, rfl⟩
  rw [← e4] at t4 ⊢
  have l4 : T4.length = T3.length + sb_dg vc := by rw [e4, List.length_append, dgs_len]
  refine z_pop X dX11_lineAt_62 rfl ?_
  refine zz.widen (k := cells + 6) (n := slots + 156) (by omega) (by omega) ?_
  exact kk q b4 k4 f4 T4 (by rw [e4, e3, e2, e1, e0]) t4
set_option maxRecDepth 100000 in
theorem line63 (X : zc p l s m args meth c cX11_lineAt RX11 D dA A) (hR : 11 ≤ R.frames ∧ 450 ≤ R.locals) {k vs vh : Nat} {a1 a2 : Int32} (hk : k < N 4) (es : V 88 k = nI vs) (eh : V 89 k = nI vh) (ws : vs < 100000) (wh : vh < 50000002) (hcs : cells + 4 ≤ R.cells ∧ slots + 136 ≤ R.slots) {q b0 k0 : Nat} {f0 : Nat → Int32} {T0 : List Nat} (t0 : sbt T0 k0 f0) (hl : T0.length + 15 ≤ 34)
    (kk : ∀ (b n : Nat) (f : Nat → Int32) (T : List Nat), T = T0 ++ [58] ++ dgs vs ++ [61] ++ dgs vh → sbt T n f → zz p l e R s m args below meth c A (cx D dA A V L N ad (sbz dA b n f q T.length ++ xs)) (cells + 4) (slots + 136) Q 90 [(4, .ref q), (3, .ref (ad 4 k)), (0, .ref (ad 11 0)), (1, .int a1), (2, .int a2)] [] []) : zz p l e R s m args below meth c A (cx D dA A V L N ad (sbz dA b0 k0 f0 q T0.length ++ xs)) cells slots Q 63 [(4, .ref q), (3, .ref (ad 4 k)), (0, .ref (ad 11 0)), (1, .int a1), (2, .int a2)] [] [] := by
  obtain ⟨hc1, hc2⟩ := hcs
  have ds := dg5 ws
  have dh := dg8 (v := vh) (by omega)
  refine z_aload X dX11_lineAt_63 rfl ?_
  refine z_bipush (v := nI 58) X dX11_lineAt_65 (by decide) ?_
  refine z_apC X t0 (by omega) (by decide) hR ⟨by omega, by omega⟩ (Nat.le_of_ble_eq_true rfl) dX11_lineAt_67 (fun b1 k1 f1 t1 => ?_)
  obtain ⟨T1, e1⟩ : ∃ T, T = T0 ++ [58] := ⟨_, rfl⟩
  rw [← e1] at t1 ⊢
  have l1 : T1.length = T0.length + 1 := by rw [e1, List.length_append, List.length_singleton]
  refine z_aload_n X dX11_lineAt_70 rfl rfl ?_
  refine c_get X 4 8 (v := .int (V 88 k)) rx4_ws rfl rfl rfl hk g_943 rfl dX11_lineAt_71 ?_
  rw [es]
  refine z_apI X t1 (by omega) (by omega) hR ⟨by omega, by omega⟩ (Nat.le_of_ble_eq_true rfl) dX11_lineAt_74 (fun b2 k2 f2 t2 => ?_)
  obtain ⟨T2, e2⟩ : ∃ T, T = T1 ++ dgs vs := ⟨_, rfl⟩
  rw [← e2] at t2 ⊢
  have l2 : T2.length = T1.length + sb_dg vs := by rw [e2, List.length_append, dgs_len]
  refine z_bipush (v := nI 61) X dX11_lineAt_77 (by decide) ?_
  refine z_apC X t2 (by omega) (by decide) hR ⟨by omega, by omega⟩ (Nat.le_of_ble_eq_true rfl) dX11_lineAt_79 (fun b3 k3 f3 t3 => ?_)
  obtain ⟨T3, e3⟩ : ∃ T, T = T2 ++ [61] := ⟨_, rfl⟩
  rw [← e3] at t3 ⊢
  have l3 : T3.length = T2.length + 1 := by rw [e3, List.length_append, List.length_singleton]
  refine z_aload_n X dX11_lineAt_82 rfl rfl ?_
  refine c_get X 4 9 (v := .int (V 89 k)) rx4_ws rfl rfl rfl hk g_945 rfl dX11_lineAt_83 ?_
  rw [eh]
  refine z_apI X t3 (by omega) (by omega) hR ⟨by omega, by omega⟩ (Nat.le_of_ble_eq_true rfl) dX11_lineAt_86 (fun b4 k4 f4 t4 => ?_)
  obtain ⟨T4, e4⟩ : ∃ T, T = T3 ++ dgs vh := ⟨_, rfl⟩
  rw [← e4] at t4 ⊢
  have l4 : T4.length = T3.length + sb_dg vh := by rw [e4, List.length_append, dgs_len]
  refine z_pop X dX11_lineAt_89 rfl ?_
  refine zz.widen (k := cells + 4) (n := slots + 136) (by omega) (by omega) ?_
  exact kk b4 k4 f4 T4 (by rw [e4, e3, e2, e1]) t4
set_option maxRecDepth 100000 in
theorem line90 (X : zc p l s m args meth c cX11_lineAt RX11 D dA A) (hR : 11 ≤ R.frames ∧ 450 ≤ R.locals) {k vo : Nat} {a1 a2 : Int32} (hk : k < N 4) (eo : V 90 k = nI vo) (wo : vo < 50000002) (hcs : cells + 3 ≤ R.cells ∧ slots + 102 ≤ R.slots) {q b0 k0 : Nat} {f0 : Nat → Int32} {T0 : List Nat} (t0 : sbt T0 k0 f0) (hl : T0.length + 10 ≤ 34)
    (kk : ∀ (b n : Nat) (f : Nat → Int32) (T : List Nat), T = T0 ++ [43] ++ dgs vo ++ [sgn (V 87 k)] → sbt T n f → zz p l e R s m args below meth c A (cx D dA A V L N ad (sbz dA b n f q T.length ++ xs)) (cells + 3) (slots + 102) Q 115 [(4, .ref q), (3, .ref (ad 4 k)), (0, .ref (ad 11 0)), (1, .int a1), (2, .int a2)] [] []) : zz p l e R s m args below meth c A (cx D dA A V L N ad (sbz dA b0 k0 f0 q T0.length ++ xs)) cells slots Q 90 [(4, .ref q), (3, .ref (ad 4 k)), (0, .ref (ad 11 0)), (1, .int a1), (2, .int a2)] [] [] := by
  obtain ⟨hc1, hc2⟩ := hcs
  have do' := dg8 (v := vo) (by omega)
  refine z_aload X dX11_lineAt_90 rfl ?_
  refine z_bipush (v := nI 43) X dX11_lineAt_92 (by decide) ?_
  refine z_apC X t0 (by omega) (by decide) hR ⟨by omega, by omega⟩ (Nat.le_of_ble_eq_true rfl) dX11_lineAt_94 (fun b1 k1 f1 t1 => ?_)
  obtain ⟨T1, e1⟩ : ∃ T, T = T0 ++ [43] := ⟨_, rfl⟩
  rw [← e1] at t1 ⊢
  have l1 : T1.length = T0.length + 1 := by rw [e1, List.length_append, List.length_singleton]
  refine z_aload_n X dX11_lineAt_97 rfl rfl ?_
  refine c_get X 4 10 (v := .int (V 90 k)) rx4_ws rfl rfl rfl hk g_947 rfl dX11_lineAt_98 ?_
  rw [eo]
  refine z_apI X t1 (by omega) (by omega) hR ⟨by omega, by omega⟩ (Nat.le_of_ble_eq_true rfl) dX11_lineAt_101 (fun b2 k2 f2 t2 => ?_)
  obtain ⟨T2, e2⟩ : ∃ T, T = T1 ++ dgs vo := ⟨_, rfl⟩
  rw [← e2] at t2 ⊢
  have l2 : T2.length = T1.length + sb_dg vo := by rw [e2, List.length_append, dgs_len]
  refine z_aload_n X dX11_lineAt_104 rfl rfl ?_
  refine c_get X 4 7 (v := .int (V 87 k)) rx4_ws rfl rfl rfl hk g_941 rfl dX11_lineAt_105 ?_
  refine z_callSi (As := [.int (V 87 k)]) (rest := [.ref q]) (nA := 1) (mc := 0) (ms := 0) (rm := ({ frames := 1, cells := 0, slots := 0, locals := 42 } : Room)) (r0 := nI (sgn (V 87 k))) (pu := (fun (_ : Unit) => True)) (G1 := (fun _ => cx D dA A V L N ad (sbz dA b2 k2 f2 q T2.length ++ xs))) X (cc_sgn X.2.2.2.2.2.2.2.2 X.2.2.2.2.2.2.1) g_1286 g_1287 g_1 g_1288 hd_yX11_signOf ⟨rfl, rfl, Nat.le_trans (Nat.le_of_ble_eq_true rfl) hR.1, Nat.le_trans (Nat.le_of_ble_eq_true rfl) hR.2⟩ rfl rfl (Nat.le_of_ble_eq_true rfl) dX11_lineAt_108 ⟨by omega, by omega⟩ (fun _ _ => ?_)
  refine z_apC X t2 (by omega) sgn_lt hR ⟨by omega, by omega⟩ (Nat.le_of_ble_eq_true rfl) dX11_lineAt_111 (fun b3 k3 f3 t3 => ?_)
  obtain ⟨T3, e3⟩ : ∃ T, T = T2 ++ [(sgn (V 87 k))] := ⟨_, rfl⟩
  rw [← e3] at t3 ⊢
  have l3 : T3.length = T2.length + 1 := by rw [e3, List.length_append, List.length_singleton]
  refine z_pop X dX11_lineAt_114 rfl ?_
  refine zz.widen (k := cells + 3) (n := slots + 102) (by omega) (by omega) ?_
  exact kk b3 k3 f3 T3 (by rw [e3, e2, e1]) t3
set_option maxRecDepth 100000 in
theorem line115 (X : zc p l s m args meth c cX11_lineAt RX11 D dA A) (hR : 11 ≤ R.frames ∧ 450 ≤ R.locals) {k : Nat} {a1 a2 : Int32} (h0 : ¬ a2 < 0) (hcs : cells ≤ R.cells ∧ slots ≤ R.slots) {q b0 k0 : Nat} {f0 : Nat → Int32} {tx : List Nat} (t0 : sbt tx k0 f0)
    (kk : ∀ (pc : Nat) (lo : List (Nat × Value)), decode cX11_lineAt pc = .ok (.ireturn, 1) → zz p l e R s m args below meth c A (cx D dA A V L N ad xs) cells slots Q pc lo [] [.int (lnA tx a2)]) : zz p l e R s m args below meth c A (cx D dA A V L N ad (sbz dA b0 k0 f0 q tx.length ++ xs)) cells slots Q 115 [(4, .ref q), (3, .ref (ad 4 k)), (0, .ref (ad 11 0)), (1, .int a1), (2, .int a2)] [] [] := by
  have hlen : tx.length ≤ 34 := by
    have w1 : k0 = 16 ∨ k0 = 34 := t0.1
    have w2 : tx.length ≤ k0 := t0.2.1
    omega
  obtain ⟨j, hj, rfl⟩ := nI_of h0
  unfold lnA at kk
  rw [nI_clamp hj] at kk
  refine z_iload_n X dX11_lineAt_115 rfl rfl ?_
  refine z_aload X dX11_lineAt_116 rfl ?_
  refine z_callVi (C := RJ4) (As := []) (rest := [.int (nI j)]) (nA := 0) (mc := 0) (ms := 0) (rm := ({ frames := 2, cells := 0, slots := 0, locals := 84 } : Room)) (r0 := nI tx.length) (pu := fun (_ : Unit) => True) (G1 := fun _ => cx D dA A V L N ad (sbz dA b0 k0 f0 q tx.length ++ xs)) X (sb_convi X.2.2.2.2.2.2.1 (fun A1 n1 h1 => sb_len4 X.2.2.2.2.2.2.2.2 h1)) g_1289 g_770 g_1722 g_26 g_771 hd_yJ4_length_8abf5 ⟨rfl, rfl, Nat.le_trans (Nat.le_of_ble_eq_true rfl) hR.1, Nat.le_trans (Nat.le_of_ble_eq_true rfl) hR.2⟩ rfl (fun _ hG => cx_recvX X (j := 1) (ci := 1) rfl rfl hG) rfl (Nat.le_of_ble_eq_true rfl) dX11_lineAt_118 hcs (fun _ _ => ?_)
  refine z_icmp_lt (tgt := 126) X dX11_lineAt_121 (by decide) (fun z => ?_) (fun z => ?_)
  · have hjl : j < tx.length := (nI_ltI hj (by omega)).mp z
    refine z_aload X dX11_lineAt_126 rfl ?_
    refine z_iload_n X dX11_lineAt_128 rfl rfl ?_
    refine z_callVi (C := RJ4) (As := [.int (nI j)]) (rest := []) (nA := 1) (mc := 0) (ms := 0) (rm := ({ frames := 9, cells := 0, slots := 0, locals := 378 } : Room)) (r0 := nI (tx.getD j 0)) (pu := fun (_ : Unit) => True) (G1 := fun _ => cx D dA A V L N ad (sbz dA b0 k0 f0 q tx.length ++ xs)) X (sb_convi X.2.2.2.2.2.2.1 (fun A1 n1 h1 => sb_chr4 X.2.2.2.2.2.2.2.2 h1 t0 hjl)) g_1290 g_1291 g_1292 g_26 g_1293 hd_yJ4_charAt_5068e ⟨rfl, rfl, Nat.le_trans (Nat.le_of_ble_eq_true rfl) hR.1, Nat.le_trans (Nat.le_of_ble_eq_true rfl) hR.2⟩ rfl (fun _ hG => cx_recvX X (j := 1) (ci := 1) rfl rfl hG) rfl (Nat.le_of_ble_eq_true rfl) dX11_lineAt_129 hcs (fun _ _ => ?_)
    refine zz.conseq (fun H hG => cx_tail2 hG) ?_
    rw [if_pos hjl] at kk
    exact kk 132 _ dX11_lineAt_132
  · have hjl : ¬ j < tx.length := fun y => z ((nI_ltI hj (by omega)).mpr y)
    refine z_iconst (v := -1) X dX11_lineAt_124 (by decide) ?_
    refine zz.conseq (fun H hG => cx_tail2 hG) ?_
    rw [if_neg hjl] at kk
    exact kk 125 _ dX11_lineAt_125
end LN
set_option maxRecDepth 100000 in
set_option maxHeartbeats 4000000 in
theorem cc_lineAt (l : Launch) {D : va_G} {dA : Nat → ClassId} {A : Nat → Prop} {n : Nat} (hst : l.stackTraces = false) (hA : ∀ q, n ≤ q → A q) {V : Rho} {L : Lst} {N : Cnt} {ad : Adr} {xs : va_W} (h11 : 0 < N 11) {a1 : Int32} {a2 : Int32} {o : (Int32) ⊕ Nat} (h : fc_lineAt V L N a1 a2 = some o) : vx_Met l yX11_lineAt (.code yX11_lineAt cX11_lineAt 5 (some .int) :: gT) ({ frames := 12, cells := 14, slots := 400, locals := 504 } : Room) (va_Pc [.ref (ad 11 0), .int a1, .int a2] (zB D dA A n (cx D dA A V L N ad xs))) (va_Qi (fun r (w9 : Int32) => r = w9 ∧ o = .inl w9 ∧ True) (fun (w9 : Int32) t => cx D dA A V L N ad xs t.heap) A) (vx_X (fun (u : Nat) => o = .inr u) (fun E u t => E = exn u ∧ cx D dA A V L N ad xs t.heap) A) 14 400 A :=
  zx_met (by decide) hA hst (Nat.le_of_ble_eq_true rfl) rfl rfl (fun p e s m below meth c X hml hr hnil => by
  unfold fc_lineAt at h
  refine z_aload_n X dX11_lineAt_0 rfl rfl ?_
  refine z_iload_n X dX11_lineAt_1 rfl rfl ?_
  obtain ⟨o1, co1, h⟩ := zb2 h
  refine z_xVq (As := [.int a1]) (rest := []) (nA := 1) (mc := 1) (ms := 6) (rm := ({ frames := 9, cells := 1, slots := 6, locals := 378 } : Room)) (S := Int32) (r0 := fun u => some (ad 4 u.toNatClampNeg)) (pu := fun u => o1 = .inl u ∧ vp_in u (N 4)) (G1 := fun u => cx D dA A V L N ad xs) X hnil (cc_legAt l X.2.2.2.2.2.2.2.2 X.2.2.2.2.2.2.1 h11 co1) g_1184 g_1186 gs_24 g_1 g_1187 hd_yX11_legAt ⟨rfl, rfl, Nat.le_of_ble_eq_true rfl, Nat.le_of_ble_eq_true rfl⟩ rfl (fun _ hG => cx_recv X (k := 11) (n := 9) rfl rfl h11 hG) rfl (Nat.le_of_ble_eq_true rfl) dX11_lineAt_2 ⟨by show _ ≤ 14; omega, by show _ ≤ 400; omega⟩ ⟨by omega, by omega⟩ (fun u hu t hG hF => ?_) (fun u2 hu => ?_)
  · rw [hu] at h
    obtain rfl := Option.some.inj h
    exact ⟨u, rfl, ⟨rfl, hG⟩, hF⟩
  · rw [hu.1] at h
    have p3 := hu.2
    simp only [Sum.elim_inl] at h
    refine z_astore_n (x := ad 4 u2.toNatClampNeg) (lo' := [(3, .ref (ad 4 u2.toNatClampNeg)), (0, .ref (ad 11 0)), (1, .int a1), (2, .int a2)]) X dX11_lineAt_5 rfl (by rw [hml]; decide) rfl rfl ?_
    refine z_iload_n X dX11_lineAt_6 rfl rfl ?_
    refine z_if_ge (tgt := 21) X dX11_lineAt_7 (by decide) (fun q => ?_) (fun q => ?_)
    · have h0 : ¬ a2 < 0 := Int32.not_lt.mpr q
      clear q
      rw [if_neg h0] at h
      have hB : lnB V u2.toNatClampNeg = true := Decidable.byContradiction (fun z => by rw [if_neg z] at h; cases h)
      rw [if_pos hB] at h
      obtain rfl := Option.some.inj h
      clear h
      obtain ⟨i1, i2, i3, i4, i5⟩ := lnB_iff.mp hB
      obtain ⟨vp, wp, -, ep⟩ := pn_of i1
      obtain ⟨vc, wc, -, ec⟩ := pn_of i2
      obtain ⟨vs, ws, -, es⟩ := pn_of i3
      obtain ⟨vh, wh, -, eh⟩ := pn_of i4
      obtain ⟨vo, wo, -, eo⟩ := pn_of i5
      have eT : lnT V u2.toNatClampNeg = lineT vp vc vs vh vo (V 87 u2.toNatClampNeg) := by
        unfold lnT
        rw [ep, ec, es, eh, eo, nI_clamp (show vp < 2 ^ 31 by omega), nI_clamp (show vc < 2 ^ 31 by omega), nI_clamp (show vs < 2 ^ 31 by omega), nI_clamp (show vh < 2 ^ 31 by omega), nI_clamp (show vo < 2 ^ 31 by omega)]
      have dp := dg1 wp
      have dc := dg2 wc
      have ds := dg5 ws
      have dh := dg8 (v := vh) (by omega)
      have hR : 11 ≤ ({ frames := 12, cells := 14, slots := 400, locals := 504 } : Room).frames ∧ 450 ≤ ({ frames := 12, cells := 14, slots := 400, locals := 504 } : Room).locals := ⟨Nat.le_of_ble_eq_true rfl, Nat.le_of_ble_eq_true rfl⟩
      refine zz.pre (fun H hG => cx_fact (k := 4) (i := u2.toNatClampNeg) (f := 1) rfl (vp_lt p3) rfl hG) (fun (p4 : vp_in (V 81 u2.toNatClampNeg) (N 5)) => ?_)
      refine zz.pre (fun H hG => cx_fact (k := 4) (i := u2.toNatClampNeg) (f := 2) rfl (vp_lt p3) rfl hG) (fun (p5 : vp_in (V 82 u2.toNatClampNeg) (N 1)) => ?_)
      refine line21 X hml hR (vp_lt p3) p4 p5 ep ec wp wc ⟨by show _ ≤ 14; omega, by show _ ≤ 400; omega⟩ (fun q b n f T eT1 t1 => ?_)
      have l1 : T.length ≤ 5 := by
        rw [eT1]
        simp only [List.length_append, List.length_singleton, List.length_nil, dgs_len]
        omega
      refine line63 X hR (vp_lt p3) es eh ws wh ⟨by show _ ≤ 14; omega, by show _ ≤ 400; omega⟩ t1 (by omega) (fun b2 n2 f2 T2 eT2 t2 => ?_)
      have l2 : T2.length ≤ 20 := by
        rw [eT2]
        simp only [List.length_append, List.length_singleton, dgs_len]
        omega
      refine line90 X hR (vp_lt p3) eo wo ⟨by show _ ≤ 14; omega, by show _ ≤ 400; omega⟩ t2 (by omega) (fun b3 n3 f3 T3 eT3 t3 => ?_)
      refine line115 X hR (k := u2.toNatClampNeg) (a1 := a1) h0 ⟨by show _ ≤ 14; omega, by show _ ≤ 400; omega⟩ t3 (fun pc lo hdg => ?_)
      have e9 : T3 = lnT V u2.toNatClampNeg := by rw [eT, eT3, eT2, eT1]; rfl
      rw [e9]
      refine zx_ret ?_
      refine zz.widen (k := 14) (n := 400) (by omega) (by omega) ?_
      exact z_iret X hr rfl (fun t hG hF _ => ⟨⟨_, _, rfl, ⟨rfl, ⟨rfl, trivial⟩⟩, hG⟩, hF⟩) hdg
    · rw [if_pos (Int32.not_le.mp q)] at h
      obtain rfl := Option.some.inj h
      exact z_throwSW (k := 1) (ik := 199) (is := 326) (ic := 203) (text := "place is below 0") X hnil cx_grow (by decide) g_326 g_19 hat_1 (by decide) dX11_lineAt_10 dX11_lineAt_13 dX11_lineAt_14 dX11_lineAt_17 dX11_lineAt_20 ⟨Nat.le_of_ble_eq_true rfl, Nat.le_of_ble_eq_true rfl, by show _ ≤ 14; omega, by show _ ≤ 400; omega⟩ (fun t hG hF => ⟨1, rfl, ⟨rfl, hG⟩, hF⟩) (by omega) (by omega))
