-- MeshBiller.cellAt(I)LMeshBiller$Cell;
def fc_cellAt (V : Rho) (L : Lst) (N : Cnt) (a1 : Int32) : Option ((Int32) ⊕ Nat) := (if a1 < 0 then some (.inr 1)
  else (if a1 < 8 then if a1 < 0 ∨ 8 ≤ a1.toNatClampNeg then none else some (.inl a1)
  else some (.inr 1)))
set_option maxRecDepth 100000 in
set_option maxHeartbeats 4000000 in
theorem bc_cellAt {p : Program} {l : Launch} {e : Env} {s : State} {m : MethodId} {args : Array Value} {below : List Frame} {meth : Method} {c : Code} {D : va_G} {dA : Nat → ClassId} {A : Nat → Prop} {xs : va_W} {o : (Int32) ⊕ Nat} {V : Rho} {L : Lst} {N : Cnt} {ad : Adr} (X : zc p l s m args meth c cX11_cellAt RX11 D dA A) (hml : c.maxLocals = 2) (hr : meth.sig.returnType = (some (.object "MeshBiller$Cell"))) (hnil : ∀ x ∈ c.exceptionTable.toList, False) {cells slots : Nat} (hcs : cells + 1 ≤ 1 ∧ slots + 6 ≤ 6) (h11 : 0 < N 11) {a1 : Int32} (h : fc_cellAt V L N a1 = some o) : zz p l e ({ frames := 6, cells := 1, slots := 6, locals := 252 } : Room) s m args below meth c A (cx D dA A V L N ad xs) cells slots (vx_MQ below (va_Qq (fun r (w9 : Int32) => r = some (ad 2 w9.toNatClampNeg) ∧ o = .inl w9 ∧ vp_in w9 (N 2)) (fun (w9 : Int32) t => cx D dA A V L N ad xs t.heap) A) (vx_X (fun (u : Nat) => o = .inr u) (fun E u t => E = exn u ∧ cx D dA A V L N ad xs t.heap) A) args s 1 6 A) 0 [(0, .ref (ad 11 0)), (1, .int a1)] [] [] := by
  obtain ⟨hcs1, hcs2⟩ := hcs
  unfold fc_cellAt at h
  refine z_iload_n X dX11_cellAt_0 rfl rfl ?_
  refine z_if_lt (tgt := 13) X dX11_cellAt_1 (by decide) (fun q => ?_) (fun q => ?_)
  · have h := zp q h
    obtain rfl := Option.some.inj h
    exact z_throwSW (k := 1) (ik := 199) (is := 353) (ic := 203) (text := "no such cell") X hnil cx_grow (by decide) g_326 g_19 hat_1 (by decide) dX11_cellAt_13 dX11_cellAt_16 dX11_cellAt_17 dX11_cellAt_20 dX11_cellAt_23 ⟨Nat.le_of_ble_eq_true rfl, Nat.le_of_ble_eq_true rfl, by show _ ≤ 1; omega, by show _ ≤ 6; omega⟩ (fun t hG hF => ⟨1, rfl, ⟨rfl, hG⟩, hF⟩) (by omega) (by omega)
  · have h := zn q h
    refine z_iload_n X dX11_cellAt_4 rfl rfl ?_
    refine z_aload_n X dX11_cellAt_5 rfl rfl ?_
    refine c_get X 11 1 (v := .ref (ad 27 0)) rx11_ws rfl rfl rfl h11 g_273 rfl dX11_cellAt_6 ?_
    refine c_alen X 27 (n := 8) rfl rfl rfl h11 (by decide) dX11_cellAt_9 ?_
    refine z_icmp_lt (tgt := 24) X dX11_cellAt_10 (by decide) (fun q => ?_) (fun q => ?_)
    · have h := zp q h
      refine z_aload_n X dX11_cellAt_24 rfl rfl ?_
      refine c_get X 11 1 (v := .ref (ad 27 0)) rx11_ws rfl rfl rfl h11 g_273 rfl dX11_cellAt_25 ?_
      refine z_iload_n X dX11_cellAt_28 rfl rfl ?_
      obtain ⟨q1, h⟩ := zg h
      refine c_aald X 27 rfl rfl rfl h11 q1 dX11_cellAt_29 ?_
      refine zz.pre (fun H hG => vp_of q1 (hG.2.2.2.2.2.2.2.2.1.1 h11).2.2.1) (fun (p2 : vp_in a1 (N 2)) => ?_)
      obtain rfl := Option.some.inj h
      refine zx_ret ?_
      refine zz.widen (k := 1) (n := 6) (by omega) (by omega) ?_
      exact z_aret (o := some (ad 2 a1.toNatClampNeg)) X hr (Or.inl ⟨_, rfl⟩) (fun t hG hF _ => ⟨⟨_, _, rfl, ⟨rfl, ⟨rfl, p2⟩⟩, hG⟩, hF⟩) dX11_cellAt_30
    · have h := zn q h
      obtain rfl := Option.some.inj h
      exact z_throwSW (k := 1) (ik := 199) (is := 353) (ic := 203) (text := "no such cell") X hnil cx_grow (by decide) g_326 g_19 hat_1 (by decide) dX11_cellAt_13 dX11_cellAt_16 dX11_cellAt_17 dX11_cellAt_20 dX11_cellAt_23 ⟨Nat.le_of_ble_eq_true rfl, Nat.le_of_ble_eq_true rfl, by show _ ≤ 1; omega, by show _ ≤ 6; omega⟩ (fun t hG hF => ⟨1, rfl, ⟨rfl, hG⟩, hF⟩) (by omega) (by omega)
theorem cc_cellAt (l : Launch) {D : va_G} {dA : Nat → ClassId} {A : Nat → Prop} {n : Nat} (hst : l.stackTraces = false) (hA : ∀ q, n ≤ q → A q) {V : Rho} {L : Lst} {N : Cnt} {ad : Adr} {xs : va_W} (h11 : 0 < N 11) {a1 : Int32} {o : (Int32) ⊕ Nat} (h : fc_cellAt V L N a1 = some o) : vx_Met l yX11_cellAt (.code yX11_cellAt cX11_cellAt 2 (some (.object "MeshBiller$Cell")) :: gT) ({ frames := 6, cells := 1, slots := 6, locals := 252 } : Room) (va_Pc [.ref (ad 11 0), .int a1] (zB D dA A n (cx D dA A V L N ad xs))) (va_Qq (fun r (w9 : Int32) => r = some (ad 2 w9.toNatClampNeg) ∧ o = .inl w9 ∧ vp_in w9 (N 2)) (fun (w9 : Int32) t => cx D dA A V L N ad xs t.heap) A) (vx_X (fun (u : Nat) => o = .inr u) (fun E u t => E = exn u ∧ cx D dA A V L N ad xs t.heap) A) 1 6 A :=
  zx_met (by decide) hA hst (Nat.le_of_ble_eq_true rfl) rfl rfl (fun p e s m below meth c X hml hr hnil => bc_cellAt X hml hr hnil ⟨by omega, by omega⟩ h11 h)
-- MeshBiller.isOutside(III)Z
def fc_isOutside (V : Rho) (L : Lst) (N : Cnt) (a1 : Int32) (a2 : Int32) (a3 : Int32) : Option (Int32) := (if a1 < a2 then some 1
  else (if a1 ≤ a3 then some 0
  else some 1))
set_option maxRecDepth 100000 in
set_option maxHeartbeats 4000000 in
theorem bc_isOutside {p : Program} {l : Launch} {e : Env} {s : State} {m : MethodId} {args : Array Value} {below : List Frame} {meth : Method} {c : Code} {D : va_G} {dA : Nat → ClassId} {A : Nat → Prop} {xs : va_W} {o : Int32} {V : Rho} {L : Lst} {N : Cnt} {ad : Adr} (X : zc p l s m args meth c cX11_isOutside RX11 D dA A) (hml : c.maxLocals = 3) (hr : meth.sig.returnType = (some .boolean)) (h11 : 0 < N 11) {a1 : Int32} {a2 : Int32} {a3 : Int32} (h : fc_isOutside V L N a1 a2 a3 = some o) : zz p l e ({ frames := 1, cells := 0, slots := 0, locals := 42 } : Room) s m args below meth c A (cx D dA A V L N ad xs) 0 0 (MQ below (va_Qi (fun r (w9 : Unit) => r = o ∧ True) (fun (w9 : Unit) t => cx D dA A V L N ad xs t.heap) A) args s 0 0 A) 0 [(0, .int a1), (1, .int a2), (2, .int a3)] [] [] := by
  unfold fc_isOutside at h
  refine z_iload_n X dX11_isOutside_0 rfl rfl ?_
  refine z_iload_n X dX11_isOutside_1 rfl rfl ?_
  refine z_icmp_lt (tgt := 10) X dX11_isOutside_2 (by decide) (fun q => ?_) (fun q => ?_)
  · have h := zp q h
    refine z_iconst (v := 1) X dX11_isOutside_10 (by decide) ?_
    refine z_goto (tgt := 15) X dX11_isOutside_11 (by decide) ?_
    obtain rfl := Option.some.inj h
    exact z_iret X hr rfl (fun t hG hF _ => ⟨⟨_, (), rfl, ⟨rfl, trivial⟩, hG⟩, hF⟩) dX11_isOutside_15
  · have h := zn q h
    refine z_iload_n X dX11_isOutside_5 rfl rfl ?_
    refine z_iload_n X dX11_isOutside_6 rfl rfl ?_
    refine z_icmp_le (tgt := 14) X dX11_isOutside_7 (by decide) (fun q => ?_) (fun q => ?_)
    · have h := zp q h
      refine z_iconst (v := 0) X dX11_isOutside_14 (by decide) ?_
      obtain rfl := Option.some.inj h
      exact z_iret X hr rfl (fun t hG hF _ => ⟨⟨_, (), rfl, ⟨rfl, trivial⟩, hG⟩, hF⟩) dX11_isOutside_15
    · have h := zn q h
      refine z_iconst (v := 1) X dX11_isOutside_10 (by decide) ?_
      refine z_goto (tgt := 15) X dX11_isOutside_11 (by decide) ?_
      obtain rfl := Option.some.inj h
      exact z_iret X hr rfl (fun t hG hF _ => ⟨⟨_, (), rfl, ⟨rfl, trivial⟩, hG⟩, hF⟩) dX11_isOutside_15
theorem cc_isOutside (l : Launch) {D : va_G} {dA : Nat → ClassId} {A : Nat → Prop} {n : Nat} (hst : l.stackTraces = false) (hA : ∀ q, n ≤ q → A q) {V : Rho} {L : Lst} {N : Cnt} {ad : Adr} {xs : va_W} (h11 : 0 < N 11) {a1 : Int32} {a2 : Int32} {a3 : Int32} {o : Int32} (h : fc_isOutside V L N a1 a2 a3 = some o) : Met l yX11_isOutside (.code yX11_isOutside cX11_isOutside 3 (some .boolean) :: gT) ({ frames := 1, cells := 0, slots := 0, locals := 42 } : Room) (va_Pc [.int a1, .int a2, .int a3] (zB D dA A n (cx D dA A V L N ad xs))) (va_Qi (fun r (w9 : Unit) => r = o ∧ True) (fun (w9 : Unit) t => cx D dA A V L N ad xs t.heap) A) 0 0 A :=
  z_met (by decide) hA hst (Nat.le_of_ble_eq_true rfl) rfl rfl (fun p e s m below meth c X hml hr _ => bc_isOutside X hml hr h11 h)
-- MeshBiller.setZone(II)I
def fc_setZone (V : Rho) (L : Lst) (N : Cnt) (a1 : Int32) (a2 : Int32) : Option ((Rho × Int32) ⊕ Nat) := (fc_cellAt V L N a1).bind fun o1 => Sum.elim (fun u2 => (fc_isOutside V L N a2 0 2).bind fun o4 => (if o4 = 0 then (some (if (L 13 0).length = 0 then (1 : Int32) else 0)).bind fun x5 => (if x5 = 0 then some (.inr 3)
  else (some ((V 200 (V 41 u2.toNatClampNeg).toNatClampNeg))).bind fun x7 => if a2 < 0 ∨ 3 ≤ a2.toNatClampNeg then none else (some (cs V 41 u2.toNatClampNeg a2)).bind fun V10 => some (.inl (V10, x7)))
  else some (.inr 2))) (fun e9 => some (.inr e9)) o1
set_option maxRecDepth 100000 in
set_option maxHeartbeats 4000000 in
theorem bc_setZone {p : Program} {l : Launch} {e : Env} {s : State} {m : MethodId} {args : Array Value} {below : List Frame} {meth : Method} {c : Code} {D : va_G} {dA : Nat → ClassId} {A : Nat → Prop} {xs : va_W} {o : (Rho × Int32) ⊕ Nat} {L : Lst} {N : Cnt} {ad : Adr} (X : zc p l s m args meth c cX11_setZone RX11 D dA A) (hml : c.maxLocals = 5) (hr : meth.sig.returnType = (some .int)) (hnil : ∀ x ∈ c.exceptionTable.toList, False) {cells slots : Nat} (hcs : cells + 2 ≤ 2 ∧ slots + 12 ≤ 12) {V : Rho} (h11 : 0 < N 11) {a1 : Int32} {a2 : Int32} (h : fc_setZone V L N a1 a2 = some o) : zz p l e ({ frames := 9, cells := 2, slots := 12, locals := 378 } : Room) s m args below meth c A (cx D dA A V L N ad xs) cells slots (vx_MQ below (va_Qi (fun r (w9 : Rho × Int32) => r = w9.2 ∧ o = .inl w9 ∧ True) (fun (w9 : Rho × Int32) t => cx D dA A w9.1 L N ad xs t.heap) A) (vx_X (fun (u : Nat) => o = .inr u) (fun E u t => E = exn u ∧ cx D dA A V L N ad xs t.heap) A) args s 2 12 A) 0 [(0, .ref (ad 11 0)), (1, .int a1), (2, .int a2)] [] [] := by
  obtain ⟨hcs1, hcs2⟩ := hcs
  unfold fc_setZone at h
  refine z_aload_n X dX11_setZone_0 rfl rfl ?_
  refine z_iload_n X dX11_setZone_1 rfl rfl ?_
  obtain ⟨o1, co1, h⟩ := zb2 h
  refine z_xVq (As := [.int a1]) (rest := []) (nA := 1) (mc := 1) (ms := 6) (rm := ({ frames := 6, cells := 1, slots := 6, locals := 252 } : Room)) (S := Int32) (r0 := fun u => some (ad 2 u.toNatClampNeg)) (pu := fun u => o1 = .inl u ∧ vp_in u (N 2)) (G1 := fun u => cx D dA A V L N ad xs) X hnil (cc_cellAt l X.2.2.2.2.2.2.2.2 X.2.2.2.2.2.2.1 h11 co1) g_322 g_324 gs_3 g_1 g_325 hd_yX11_cellAt ⟨rfl, rfl, Nat.le_of_ble_eq_true rfl, Nat.le_of_ble_eq_true rfl⟩ rfl (fun _ hG => cx_recv X (k := 11) (n := 9) rfl rfl h11 hG)  rfl (Nat.le_of_ble_eq_true rfl) dX11_setZone_2 ⟨by show _ ≤ 2; omega, by show _ ≤ 12; omega⟩ ⟨by omega, by omega⟩ (fun u hu t hG hF => ?_) (fun u2 hu => ?_)
  · rw [hu] at h
    obtain rfl := Option.some.inj h
    exact ⟨u, rfl, ⟨rfl, hG⟩, hF⟩
  · rw [hu.1] at h
    have p3 := hu.2
    simp only [Sum.elim_inl] at h
    refine z_astore_n (lo' := [(3, .ref (ad 2 u2.toNatClampNeg)), (0, .ref (ad 11 0)), (1, .int a1), (2, .int a2)]) X dX11_setZone_5 rfl (by rw [hml]; decide) rfl rfl ?_
    refine z_iload_n X dX11_setZone_6 rfl rfl ?_
    refine z_iconst (v := 0) X dX11_setZone_7 (by decide) ?_
    refine z_iconst (v := 2) X dX11_setZone_8 (by decide) ?_
    obtain ⟨o4, co4, h⟩ := zb2 h
    refine z_callSi (As := [.int a2, .int 0, .int 2]) (rest := []) (nA := 3) (mc := 0) (ms := 0) (rm := ({ frames := 1, cells := 0, slots := 0, locals := 42 } : Room)) (r0 := o4) (pu := fun (_ : Unit) => True) (G1 := fun _ => cx D dA A V L N ad xs) X (cc_isOutside l X.2.2.2.2.2.2.2.2 X.2.2.2.2.2.2.1 h11 co4) g_394 g_395 g_1 g_396 hd_yX11_isOutside ⟨rfl, rfl, Nat.le_of_ble_eq_true rfl, Nat.le_of_ble_eq_true rfl⟩ rfl rfl (Nat.le_of_ble_eq_true rfl) dX11_setZone_9 ⟨by show _ ≤ 2; omega, by show _ ≤ 12; omega⟩ (fun _ _ => ?_)
    refine z_if_eq (tgt := 25) X dX11_setZone_12 (by decide) (fun q => ?_) (fun q => ?_)
    · have h := zp q h
      refine z_aload_n X dX11_setZone_25 rfl rfl ?_
      refine c_get X 11 5 (v := .ref (ad 13 0)) rx11_ws rfl rfl rfl h11 g_277 rfl dX11_setZone_26 ?_
      obtain ⟨x5, ex5, h⟩ := zb h
      refine z_callVi (As := []) (rest := []) (nA := 0) (mc := 0) (ms := 0) (rm := ({ frames := 8, cells := 0, slots := 0, locals := 336 } : Room)) (r0 := (if (L 13 0).length = 0 then (1 : Int32) else 0)) (pu := fun (_ : Unit) => True) (G1 := fun _ => cx D dA A V L N ad xs) X (cl_isEmpty l X.2.2.2.2.2.2.2.2 X.2.2.2.2.2.2.1 (k := 13) (i := 0) rfl rfl h11) g_413 g_414 g_415 g_4 g_416 hd_yJx4a65c_isEmpty_aae02 ⟨rfl, rfl, Nat.le_of_ble_eq_true rfl, Nat.le_of_ble_eq_true rfl⟩ rfl (fun _ hG => cx_recvL X (k := 13) rfl rfl h11 hG) rfl (Nat.le_of_ble_eq_true rfl) dX11_setZone_29 ⟨by show _ ≤ 2; omega, by show _ ≤ 12; omega⟩ (fun _ _ => ?_)
      rw [ex5]
      refine z_if_ne (tgt := 45) X dX11_setZone_32 (by decide) (fun q => ?_) (fun q => ?_)
      · have h := zp q h
        obtain rfl := Option.some.inj h
        exact z_throwS (k := 3) (ik := 82) (is := 84) (ic := 86) (text := "a call has been begun") X hnil cx_grow (by decide) g_417 g_21 hat_3 (by decide) dX11_setZone_35 dX11_setZone_38 dX11_setZone_39 dX11_setZone_41 dX11_setZone_44 ⟨Nat.le_of_ble_eq_true rfl, Nat.le_of_ble_eq_true rfl, by show _ ≤ 2; omega, by show _ ≤ 12; omega⟩ (fun t hG hF => ⟨3, rfl, ⟨rfl, hG⟩, hF⟩) (by omega) (by omega)
      · have h := zn q h
        refine z_aload_n X dX11_setZone_45 rfl rfl ?_
        refine c_get X 2 1 (v := .ref (ad 10 (V 41 u2.toNatClampNeg).toNatClampNeg)) rx2_ws rfl rfl rfl (vp_lt p3) g_201 rfl dX11_setZone_46 ?_
        refine zz.pre (fun H hG => cx_fact (k := 2) (i := u2.toNatClampNeg) (f := 1) rfl (vp_lt p3) rfl hG) (fun (p6 : vp_in (V 41 u2.toNatClampNeg) (N 10)) => ?_)
        refine c_get X 10 0 (v := .int (V 200 (V 41 u2.toNatClampNeg).toNatClampNeg)) rx10_ws rfl rfl rfl (vp_lt p6) g_182 rfl dX11_setZone_49 ?_
        obtain ⟨x7, ex7, h⟩ := zb h
        rw [ex7]
        refine z_istore (lo' := [(4, .int x7), (3, .ref (ad 2 u2.toNatClampNeg)), (0, .ref (ad 11 0)), (1, .int a1), (2, .int a2)]) X dX11_setZone_52 (by rw [hml]; decide) rfl rfl ?_
        refine z_aload_n X dX11_setZone_54 rfl rfl ?_
        refine z_aload_n X dX11_setZone_55 rfl rfl ?_
        refine c_get X 11 0 (v := .ref (ad 26 0)) rx11_ws rfl rfl rfl h11 g_272 rfl dX11_setZone_56 ?_
        refine z_iload_n X dX11_setZone_59 rfl rfl ?_
        obtain ⟨q8, h⟩ := zg h
        refine c_aald X 26 rfl rfl rfl h11 q8 dX11_setZone_60 ?_
        refine zz.pre (fun H hG => vp_of q8 (hG.2.2.2.2.2.2.2.2.1.1 h11).2.1) (fun (p9 : vp_in a2 (N 10)) => ?_)
        obtain ⟨V10, eV10, h⟩ := zb h
        refine c_put X 2 1 (x := a2) (v := .ref (ad 10 a2.toNatClampNeg)) (ty := (.object "MeshBiller$Zone")) rx2_ws rfl tyX2_ok nmX2 rfl rfl (vp_lt p3) rfl g_201 rfl p9 rfl rfl rfl eV10 dX11_setZone_61 ?_
        refine z_iload X dX11_setZone_64 rfl ?_
        obtain rfl := Option.some.inj h
        refine zx_ret ?_
        refine zz.widen (k := 2) (n := 12) (by omega) (by omega) ?_
        exact z_iret X hr rfl (fun t hG hF _ => ⟨⟨_, _, rfl, ⟨rfl, ⟨rfl, trivial⟩⟩, hG⟩, hF⟩) dX11_setZone_66
    · have h := zn q h
      obtain rfl := Option.some.inj h
      exact z_throwS (k := 2) (ik := 71) (is := 73) (ic := 75) (text := "zone is out of range") X hnil cx_grow (by decide) g_397 g_20 hat_2 (by decide) dX11_setZone_15 dX11_setZone_18 dX11_setZone_19 dX11_setZone_21 dX11_setZone_24 ⟨Nat.le_of_ble_eq_true rfl, Nat.le_of_ble_eq_true rfl, by show _ ≤ 2; omega, by show _ ≤ 12; omega⟩ (fun t hG hF => ⟨2, rfl, ⟨rfl, hG⟩, hF⟩) (by omega) (by omega)
theorem cc_setZone (l : Launch) {D : va_G} {dA : Nat → ClassId} {A : Nat → Prop} {n : Nat} (hst : l.stackTraces = false) (hA : ∀ q, n ≤ q → A q) {V : Rho} {L : Lst} {N : Cnt} {ad : Adr} {xs : va_W} (h11 : 0 < N 11) {a1 : Int32} {a2 : Int32} {o : (Rho × Int32) ⊕ Nat} (h : fc_setZone V L N a1 a2 = some o) : vx_Met l yX11_setZone (.code yX11_setZone cX11_setZone 5 (some .int) :: gT) ({ frames := 9, cells := 2, slots := 12, locals := 378 } : Room) (va_Pc [.ref (ad 11 0), .int a1, .int a2] (zB D dA A n (cx D dA A V L N ad xs))) (va_Qi (fun r (w9 : Rho × Int32) => r = w9.2 ∧ o = .inl w9 ∧ True) (fun (w9 : Rho × Int32) t => cx D dA A w9.1 L N ad xs t.heap) A) (vx_X (fun (u : Nat) => o = .inr u) (fun E u t => E = exn u ∧ cx D dA A V L N ad xs t.heap) A) 2 12 A :=
  zx_met (by decide) hA hst (Nat.le_of_ble_eq_true rfl) rfl rfl (fun p e s m below meth c X hml hr hnil => bc_setZone X hml hr hnil ⟨by omega, by omega⟩ h11 h)
-- MeshBiller.legsIn(LMeshBiller$Cell;)I
def fc_legsIn_47 (k14 : Rho → Lst → Cnt → Int32 → Int32 → Int32 → Int32 → Option (Int32)) (V : Rho) (L : Lst) (N : Cnt) (v1 : Int32) (v2 : Int32) (v4 : Int32) (v5 : Int32) : Option (Int32) := (some (v5 + 1)).bind fun x1 => k14 V L N v1 v2 v4 x1
set_option maxRecDepth 100000 in
set_option maxHeartbeats 4000000 in
theorem bc_legsIn_47 {p : Program} {l : Launch} {e : Env} {s : State} {m : MethodId} {args : Array Value} {below : List Frame} {meth : Method} {c : Code} {D : va_G} {dA : Nat → ClassId} {A : Nat → Prop} {xs : va_W} {o : Int32} {V : Rho} {L : Lst} {N : Cnt} {ad : Adr} (X : zc p l s m args meth c cX11_legsIn RX11 D dA A) (hml : c.maxLocals = 7) (hr : meth.sig.returnType = (some .int)) {k14 : Rho → Lst → Cnt → Int32 → Int32 → Int32 → Int32 → Option (Int32)} (hk14 : ∀ (h11 : 0 < N 11) {v1 : Int32} {v2 : Int32} {v4 : Int32} {v5 : Int32} (fv1 : vp_in v1 (N 2)) , k14 V L N v1 v2 v4 v5 = some o → zz p l e ({ frames := 1, cells := 0, slots := 0, locals := 42 } : Room) s m args below meth c A (cx D dA A V L N ad xs) 0 0 (MQ below (va_Qi (fun r (w9 : Unit) => r = o ∧ True) (fun (w9 : Unit) t => cx D dA A V L N ad xs t.heap) A) args s 0 0 A) 14 [(1, .ref (ad 2 v1.toNatClampNeg)), (2, .int v2), (3, .ref (ad 29 0)), (4, .int v4), (5, .int v5)] [] []) (h11 : 0 < N 11) {v1 : Int32} {v2 : Int32} {v4 : Int32} {v5 : Int32} (fv1 : vp_in v1 (N 2)) (h : fc_legsIn_47 k14 V L N v1 v2 v4 v5 = some o) : zz p l e ({ frames := 1, cells := 0, slots := 0, locals := 42 } : Room) s m args below meth c A (cx D dA A V L N ad xs) 0 0 (MQ below (va_Qi (fun r (w9 : Unit) => r = o ∧ True) (fun (w9 : Unit) t => cx D dA A V L N ad xs t.heap) A) args s 0 0 A) 47 [(1, .ref (ad 2 v1.toNatClampNeg)), (2, .int v2), (3, .ref (ad 29 0)), (4, .int v4), (5, .int v5)] [] [] := by
  unfold fc_legsIn_47 at h
  obtain ⟨x1, ex1, h⟩ := zb h
  refine z_iinc (v := x1) (lo' := [(5, .int x1), (1, .ref (ad 2 v1.toNatClampNeg)), (2, .int v2), (3, .ref (ad 29 0)), (4, .int v4)]) X dX11_legsIn_47 rfl ex1 (by rw [hml]; decide) rfl rfl ?_
  refine z_goto (tgt := 14) X dX11_legsIn_50 (by decide) ?_
  refine zz.pick (lo' := [(1, .ref (ad 2 v1.toNatClampNeg)), (2, .int v2), (3, .ref (ad 29 0)), (4, .int v4), (5, .int x1)]) [1, 2, 3, 4, 5] rfl ?_
  exact hk14 h11 fv1 h
def fc_legsIn_14 : Nat → Rho → Lst → Cnt → Int32 → Int32 → Int32 → Int32 → Option (Int32)
  | 0, _, _, _, _, _, _, _ => none
  | n + 1, V, L, N, v1, v2, v4, v5 => (if v4 ≤ v5 then some v2
  else if v5 < 0 ∨ 10 ≤ v5.toNatClampNeg then none else (if (V 104 v5.toNatClampNeg) = -1 then fc_legsIn_47 (fc_legsIn_14 n) V L N v1 v2 v4 v5
  else (if (V 101 v5.toNatClampNeg) = v1 then (some (v2 + 1)).bind fun x6 => fc_legsIn_47 (fc_legsIn_14 n) V L N v1 x6 v4 v5
  else fc_legsIn_47 (fc_legsIn_14 n) V L N v1 v2 v4 v5)))
set_option maxRecDepth 100000 in
set_option maxHeartbeats 4000000 in
theorem bc_legsIn_14 {p : Program} {l : Launch} {e : Env} {s : State} {m : MethodId} {args : Array Value} {below : List Frame} {meth : Method} {c : Code} {D : va_G} {dA : Nat → ClassId} {A : Nat → Prop} {xs : va_W} {o : Int32} {V : Rho} {L : Lst} {N : Cnt} {ad : Adr} (X : zc p l s m args meth c cX11_legsIn RX11 D dA A) (hml : c.maxLocals = 7) (hr : meth.sig.returnType = (some .int)) : ∀ (n : Nat) (h11 : 0 < N 11) {v1 : Int32} {v2 : Int32} {v4 : Int32} {v5 : Int32} (fv1 : vp_in v1 (N 2)) , fc_legsIn_14 n V L N v1 v2 v4 v5 = some o → zz p l e ({ frames := 1, cells := 0, slots := 0, locals := 42 } : Room) s m args below meth c A (cx D dA A V L N ad xs) 0 0 (MQ below (va_Qi (fun r (w9 : Unit) => r = o ∧ True) (fun (w9 : Unit) t => cx D dA A V L N ad xs t.heap) A) args s 0 0 A) 14 [(1, .ref (ad 2 v1.toNatClampNeg)), (2, .int v2), (3, .ref (ad 29 0)), (4, .int v4), (5, .int v5)] [] [] := by
  intro n
  induction n with
  | zero => intro  h11 v1 v2 v4 v5 fv1 h; exact (nomatch (show none = some o from h))
  | succ n ih =>
    intro  h11 v1 v2 v4 v5 fv1 h
    rw [fc_legsIn_14] at h
    refine z_iload X dX11_legsIn_14 rfl ?_
    refine z_iload X dX11_legsIn_16 rfl ?_
    refine z_icmp_ge (tgt := 53) X dX11_legsIn_18 (by decide) (fun q => ?_) (fun q => ?_)
    · have h := zp q h
      refine z_iload_n X dX11_legsIn_53 rfl rfl ?_
      obtain rfl := Option.some.inj h
      exact z_iret X hr rfl (fun t hG hF _ => ⟨⟨_, (), rfl, ⟨rfl, trivial⟩, hG⟩, hF⟩) dX11_legsIn_54
    · have h := zn q h
      refine z_aload_n X dX11_legsIn_21 rfl rfl ?_
      refine z_iload X dX11_legsIn_22 rfl ?_
      obtain ⟨q1, h⟩ := zg h
      refine c_aald X 29 rfl rfl rfl h11 q1 dX11_legsIn_24 ?_
      refine zz.pre (fun H hG => vp_of q1 (hG.2.2.2.2.2.2.2.2.1.1 h11).2.2.2.2.1) (fun (p2 : vp_in v5 (N 5)) => ?_)
      refine z_astore (lo' := [(6, .ref (ad 5 v5.toNatClampNeg)), (1, .ref (ad 2 v1.toNatClampNeg)), (2, .int v2), (3, .ref (ad 29 0)), (4, .int v4), (5, .int v5)]) X dX11_legsIn_25 (by rw [hml]; decide) rfl rfl ?_
      refine z_aload X dX11_legsIn_27 rfl ?_
      refine c_get X 5 4 (v := va_rf (qn (ad 4) (V 104 v5.toNatClampNeg))) rx5_ws rfl rfl rfl (vp_lt p2) g_254 rfl dX11_legsIn_29 ?_
      refine zz.pre (fun H hG => cx_fact (k := 5) (i := v5.toNatClampNeg) (f := 4) rfl (vp_lt p2) rfl hG) (fun (p3 : (V 104 v5.toNatClampNeg) = -1 ∨ vp_in (V 104 v5.toNatClampNeg) (N 4)) => ?_)
      refine c_ifnull (tgt := 47) X dX11_legsIn_32 (by decide) (fun q => ?_) (fun q => ?_)
      · have h := zp q h
        refine zz.pick (lo' := [(1, .ref (ad 2 v1.toNatClampNeg)), (2, .int v2), (3, .ref (ad 29 0)), (4, .int v4), (5, .int v5)]) [1, 2, 3, 4, 5] rfl ?_
        exact bc_legsIn_47 X hml hr ih h11 fv1 h
      · have h := zn q h
        have p4 := p3.resolve_left q
        refine z_aload X dX11_legsIn_35 rfl ?_
        refine c_get X 5 1 (v := .ref (ad 2 (V 101 v5.toNatClampNeg).toNatClampNeg)) rx5_ws rfl rfl rfl (vp_lt p2) g_248 rfl dX11_legsIn_37 ?_
        refine zz.pre (fun H hG => cx_fact (k := 5) (i := v5.toNatClampNeg) (f := 1) rfl (vp_lt p2) rfl hG) (fun (p5 : vp_in (V 101 v5.toNatClampNeg) (N 2)) => ?_)
        refine z_aload_n X dX11_legsIn_40 rfl rfl ?_
        refine c_acmp_ne (tgt := 47) X (k := 2) rfl p5 fv1 dX11_legsIn_41 (by decide) (fun q => ?_) (fun q => ?_)
        · have h := zp q h
          obtain ⟨x6, ex6, h⟩ := zb h
          refine z_iinc (v := x6) (lo' := [(2, .int x6), (6, .ref (ad 5 v5.toNatClampNeg)), (1, .ref (ad 2 v1.toNatClampNeg)), (3, .ref (ad 29 0)), (4, .int v4), (5, .int v5)]) X dX11_legsIn_44 rfl ex6 (by rw [hml]; decide) rfl rfl ?_
          refine zz.pick (lo' := [(1, .ref (ad 2 v1.toNatClampNeg)), (2, .int x6), (3, .ref (ad 29 0)), (4, .int v4), (5, .int v5)]) [1, 2, 3, 4, 5] rfl ?_
          exact bc_legsIn_47 X hml hr ih h11 fv1 h
        · have h := zn q h
          refine zz.pick (lo' := [(1, .ref (ad 2 v1.toNatClampNeg)), (2, .int v2), (3, .ref (ad 29 0)), (4, .int v4), (5, .int v5)]) [1, 2, 3, 4, 5] rfl ?_
          exact bc_legsIn_47 X hml hr ih h11 fv1 h
def fc_legsIn (V : Rho) (L : Lst) (N : Cnt) (a1 : Int32) : Option (Int32) := fc_legsIn_14 FU V L N a1 0 10 0
set_option maxRecDepth 100000 in
set_option maxHeartbeats 4000000 in
theorem bc_legsIn {p : Program} {l : Launch} {e : Env} {s : State} {m : MethodId} {args : Array Value} {below : List Frame} {meth : Method} {c : Code} {D : va_G} {dA : Nat → ClassId} {A : Nat → Prop} {xs : va_W} {o : Int32} {V : Rho} {L : Lst} {N : Cnt} {ad : Adr} (X : zc p l s m args meth c cX11_legsIn RX11 D dA A) (hml : c.maxLocals = 7) (hr : meth.sig.returnType = (some .int)) (h11 : 0 < N 11) {a1 : Int32} (va1 : vp_in a1 (N 2)) (h : fc_legsIn V L N a1 = some o) : zz p l e ({ frames := 1, cells := 0, slots := 0, locals := 42 } : Room) s m args below meth c A (cx D dA A V L N ad xs) 0 0 (MQ below (va_Qi (fun r (w9 : Unit) => r = o ∧ True) (fun (w9 : Unit) t => cx D dA A V L N ad xs t.heap) A) args s 0 0 A) 0 [(0, .ref (ad 11 0)), (1, .ref (ad 2 a1.toNatClampNeg))] [] [] := by
  unfold fc_legsIn at h
  refine z_iconst (v := 0) X dX11_legsIn_0 (by decide) ?_
  refine z_istore_n (lo' := [(2, .int 0), (0, .ref (ad 11 0)), (1, .ref (ad 2 a1.toNatClampNeg))]) X dX11_legsIn_1 rfl (by rw [hml]; decide) rfl rfl ?_
  refine z_aload_n X dX11_legsIn_2 rfl rfl ?_
  refine c_get X 11 3 (v := .ref (ad 29 0)) rx11_ws rfl rfl rfl h11 g_275 rfl dX11_legsIn_3 ?_
  refine z_astore_n (lo' := [(3, .ref (ad 29 0)), (2, .int 0), (0, .ref (ad 11 0)), (1, .ref (ad 2 a1.toNatClampNeg))]) X dX11_legsIn_6 rfl (by rw [hml]; decide) rfl rfl ?_
  refine z_aload_n X dX11_legsIn_7 rfl rfl ?_
  refine c_alen X 29 (n := 10) rfl rfl rfl h11 (by decide) dX11_legsIn_8 ?_
  refine z_istore (lo' := [(4, .int 10), (3, .ref (ad 29 0)), (2, .int 0), (0, .ref (ad 11 0)), (1, .ref (ad 2 a1.toNatClampNeg))]) X dX11_legsIn_9 (by rw [hml]; decide) rfl rfl ?_
  refine z_iconst (v := 0) X dX11_legsIn_11 (by decide) ?_
  refine z_istore (lo' := [(5, .int 0), (4, .int 10), (3, .ref (ad 29 0)), (2, .int 0), (0, .ref (ad 11 0)), (1, .ref (ad 2 a1.toNatClampNeg))]) X dX11_legsIn_12 (by rw [hml]; decide) rfl rfl ?_
  refine zz.pick (lo' := [(1, .ref (ad 2 a1.toNatClampNeg)), (2, .int 0), (3, .ref (ad 29 0)), (4, .int 10), (5, .int 0)]) [1, 2, 3, 4, 5] rfl ?_
  exact bc_legsIn_14 X hml hr FU h11 va1 h
theorem cc_legsIn (l : Launch) {D : va_G} {dA : Nat → ClassId} {A : Nat → Prop} {n : Nat} (hst : l.stackTraces = false) (hA : ∀ q, n ≤ q → A q) {V : Rho} {L : Lst} {N : Cnt} {ad : Adr} {xs : va_W} (h11 : 0 < N 11) {a1 : Int32} (va1 : vp_in a1 (N 2)) {o : Int32} (h : fc_legsIn V L N a1 = some o) : Met l yX11_legsIn (.code yX11_legsIn cX11_legsIn 7 (some .int) :: gT) ({ frames := 1, cells := 0, slots := 0, locals := 42 } : Room) (va_Pc [.ref (ad 11 0), .ref (ad 2 a1.toNatClampNeg)] (zB D dA A n (cx D dA A V L N ad xs))) (va_Qi (fun r (w9 : Unit) => r = o ∧ True) (fun (w9 : Unit) t => cx D dA A V L N ad xs t.heap) A) 0 0 A :=
  z_met (by decide) hA hst (Nat.le_of_ble_eq_true rfl) rfl rfl (fun p e s m below meth c X hml hr _ => bc_legsIn X hml hr h11 va1 h)
-- MeshBiller.setChannels(III)I
def fc_setChannels (V : Rho) (L : Lst) (N : Cnt) (a1 : Int32) (a2 : Int32) (a3 : Int32) : Option ((Rho × Int32) ⊕ Nat) := (fc_cellAt V L N a1).bind fun o1 => Sum.elim (fun u2 => (fc_isOutside V L N a2 0 10).bind fun o4 => (if o4 = 0 then (fc_isOutside V L N a3 0 a2).bind fun o5 => (if o5 = 0 then (some (cs V 42 u2.toNatClampNeg a2)).bind fun V6 => (some (cs V6 43 u2.toNatClampNeg a3)).bind fun V7 => (fc_legsIn V7 L N u2).bind fun o8 => some (.inl (V7, o8))
  else some (.inr 2))
  else some (.inr 2))) (fun e9 => some (.inr e9)) o1
set_option maxRecDepth 100000 in
set_option maxHeartbeats 4000000 in
theorem bc_setChannels {p : Program} {l : Launch} {e : Env} {s : State} {m : MethodId} {args : Array Value} {below : List Frame} {meth : Method} {c : Code} {D : va_G} {dA : Nat → ClassId} {A : Nat → Prop} {xs : va_W} {o : (Rho × Int32) ⊕ Nat} {L : Lst} {N : Cnt} {ad : Adr} (X : zc p l s m args meth c cX11_setChannels RX11 D dA A) (hml : c.maxLocals = 5) (hr : meth.sig.returnType = (some .int)) (hnil : ∀ x ∈ c.exceptionTable.toList, False) {cells slots : Nat} (hcs : cells + 2 ≤ 2 ∧ slots + 12 ≤ 12) {V : Rho} (h11 : 0 < N 11) {a1 : Int32} {a2 : Int32} {a3 : Int32} (h : fc_setChannels V L N a1 a2 a3 = some o) : zz p l e ({ frames := 7, cells := 2, slots := 12, locals := 294 } : Room) s m args below meth c A (cx D dA A V L N ad xs) cells slots (vx_MQ below (va_Qi (fun r (w9 : Rho × Int32) => r = w9.2 ∧ o = .inl w9 ∧ True) (fun (w9 : Rho × Int32) t => cx D dA A w9.1 L N ad xs t.heap) A) (vx_X (fun (u : Nat) => o = .inr u) (fun E u t => E = exn u ∧ cx D dA A V L N ad xs t.heap) A) args s 2 12 A) 0 [(0, .ref (ad 11 0)), (1, .int a1), (2, .int a2), (3, .int a3)] [] [] := by
  obtain ⟨hcs1, hcs2⟩ := hcs
  unfold fc_setChannels at h
  refine z_aload_n X dX11_setChannels_0 rfl rfl ?_
  refine z_iload_n X dX11_setChannels_1 rfl rfl ?_
  obtain ⟨o1, co1, h⟩ := zb2 h
  refine z_xVq (As := [.int a1]) (rest := []) (nA := 1) (mc := 1) (ms := 6) (rm := ({ frames := 6, cells := 1, slots := 6, locals := 252 } : Room)) (S := Int32) (r0 := fun u => some (ad 2 u.toNatClampNeg)) (pu := fun u => o1 = .inl u ∧ vp_in u (N 2)) (G1 := fun u => cx D dA A V L N ad xs) X hnil (cc_cellAt l X.2.2.2.2.2.2.2.2 X.2.2.2.2.2.2.1 h11 co1) g_322 g_324 gs_3 g_1 g_325 hd_yX11_cellAt ⟨rfl, rfl, Nat.le_of_ble_eq_true rfl, Nat.le_of_ble_eq_true rfl⟩ rfl (fun _ hG => cx_recv X (k := 11) (n := 9) rfl rfl h11 hG)  rfl (Nat.le_of_ble_eq_true rfl) dX11_setChannels_2 ⟨by show _ ≤ 2; omega, by show _ ≤ 12; omega⟩ ⟨by omega, by omega⟩ (fun u hu t hG hF => ?_) (fun u2 hu => ?_)
  · rw [hu] at h
    obtain rfl := Option.some.inj h
    exact ⟨u, rfl, ⟨rfl, hG⟩, hF⟩
  · rw [hu.1] at h
    have p3 := hu.2
    simp only [Sum.elim_inl] at h
    refine z_astore (lo' := [(4, .ref (ad 2 u2.toNatClampNeg)), (0, .ref (ad 11 0)), (1, .int a1), (2, .int a2), (3, .int a3)]) X dX11_setChannels_5 (by rw [hml]; decide) rfl rfl ?_
    refine z_iload_n X dX11_setChannels_7 rfl rfl ?_
    refine z_iconst (v := 0) X dX11_setChannels_8 (by decide) ?_
    refine z_bipush (v := 10) X dX11_setChannels_9 (by decide) ?_
    obtain ⟨o4, co4, h⟩ := zb2 h
    refine z_callSi (As := [.int a2, .int 0, .int 10]) (rest := []) (nA := 3) (mc := 0) (ms := 0) (rm := ({ frames := 1, cells := 0, slots := 0, locals := 42 } : Room)) (r0 := o4) (pu := fun (_ : Unit) => True) (G1 := fun _ => cx D dA A V L N ad xs) X (cc_isOutside l X.2.2.2.2.2.2.2.2 X.2.2.2.2.2.2.1 h11 co4) g_394 g_395 g_1 g_396 hd_yX11_isOutside ⟨rfl, rfl, Nat.le_of_ble_eq_true rfl, Nat.le_of_ble_eq_true rfl⟩ rfl rfl (Nat.le_of_ble_eq_true rfl) dX11_setChannels_11 ⟨by show _ ≤ 2; omega, by show _ ≤ 12; omega⟩ (fun _ _ => ?_)
    refine z_if_ne (tgt := 26) X dX11_setChannels_14 (by decide) (fun q => ?_) (fun q => ?_)
    · have h := zp q h
      refine z_iload_n X dX11_setChannels_17 rfl rfl ?_
      refine z_iconst (v := 0) X dX11_setChannels_18 (by decide) ?_
      refine z_iload_n X dX11_setChannels_19 rfl rfl ?_
      obtain ⟨o5, co5, h⟩ := zb2 h
      refine z_callSi (As := [.int a3, .int 0, .int a2]) (rest := []) (nA := 3) (mc := 0) (ms := 0) (rm := ({ frames := 1, cells := 0, slots := 0, locals := 42 } : Room)) (r0 := o5) (pu := fun (_ : Unit) => True) (G1 := fun _ => cx D dA A V L N ad xs) X (cc_isOutside l X.2.2.2.2.2.2.2.2 X.2.2.2.2.2.2.1 h11 co5) g_394 g_395 g_1 g_396 hd_yX11_isOutside ⟨rfl, rfl, Nat.le_of_ble_eq_true rfl, Nat.le_of_ble_eq_true rfl⟩ rfl rfl (Nat.le_of_ble_eq_true rfl) dX11_setChannels_20 ⟨by show _ ≤ 2; omega, by show _ ≤ 12; omega⟩ (fun _ _ => ?_)
      refine z_if_eq (tgt := 36) X dX11_setChannels_23 (by decide) (fun q => ?_) (fun q => ?_)
      · have h := zp q h
        refine z_aload X dX11_setChannels_36 rfl ?_
        refine z_iload_n X dX11_setChannels_38 rfl rfl ?_
        obtain ⟨V6, eV6, h⟩ := zb h
        refine c_put X 2 2 (x := a2) (v := .int a2) (ty := .int) rx2_ws rfl tyX2_ok nmX2 rfl rfl (vp_lt p3) rfl g_203 rfl trivial rfl rfl rfl eV6 dX11_setChannels_39 ?_
        refine z_aload X dX11_setChannels_42 rfl ?_
        refine z_iload_n X dX11_setChannels_44 rfl rfl ?_
        obtain ⟨V7, eV7, h⟩ := zb h
        refine c_put X 2 3 (x := a3) (v := .int a3) (ty := .int) rx2_ws rfl tyX2_ok nmX2 rfl rfl (vp_lt p3) rfl g_205 rfl trivial rfl rfl rfl eV7 dX11_setChannels_45 ?_
        refine z_aload_n X dX11_setChannels_48 rfl rfl ?_
        refine z_aload X dX11_setChannels_49 rfl ?_
        obtain ⟨o8, co8, h⟩ := zb2 h
        refine z_callVi (As := [.ref (ad 2 u2.toNatClampNeg)]) (rest := []) (nA := 1) (mc := 0) (ms := 0) (rm := ({ frames := 1, cells := 0, slots := 0, locals := 42 } : Room)) (r0 := o8) (pu := fun (_ : Unit) => True) (G1 := fun _ => cx D dA A V7 L N ad xs) X (cc_legsIn l X.2.2.2.2.2.2.2.2 X.2.2.2.2.2.2.1 h11 p3 co8) g_441 g_443 gs_5 g_1 g_444 hd_yX11_legsIn ⟨rfl, rfl, Nat.le_of_ble_eq_true rfl, Nat.le_of_ble_eq_true rfl⟩ rfl (fun _ hG => cx_recv X (k := 11) (n := 9) rfl rfl h11 hG) rfl (Nat.le_of_ble_eq_true rfl) dX11_setChannels_51 ⟨by show _ ≤ 2; omega, by show _ ≤ 12; omega⟩ (fun _ _ => ?_)
        obtain rfl := Option.some.inj h
        refine zx_ret ?_
        refine zz.widen (k := 2) (n := 12) (by omega) (by omega) ?_
        exact z_iret X hr rfl (fun t hG hF _ => ⟨⟨_, _, rfl, ⟨rfl, ⟨rfl, trivial⟩⟩, hG⟩, hF⟩) dX11_setChannels_54
      · have h := zn q h
        obtain rfl := Option.some.inj h
        exact z_throwS (k := 2) (ik := 71) (is := 94) (ic := 75) (text := "channels or guarded is out of range") X hnil cx_grow (by decide) g_397 g_20 hat_2 (by decide) dX11_setChannels_26 dX11_setChannels_29 dX11_setChannels_30 dX11_setChannels_32 dX11_setChannels_35 ⟨Nat.le_of_ble_eq_true rfl, Nat.le_of_ble_eq_true rfl, by show _ ≤ 2; omega, by show _ ≤ 12; omega⟩ (fun t hG hF => ⟨2, rfl, ⟨rfl, hG⟩, hF⟩) (by omega) (by omega)
    · have h := zn q h
      obtain rfl := Option.some.inj h
      exact z_throwS (k := 2) (ik := 71) (is := 94) (ic := 75) (text := "channels or guarded is out of range") X hnil cx_grow (by decide) g_397 g_20 hat_2 (by decide) dX11_setChannels_26 dX11_setChannels_29 dX11_setChannels_30 dX11_setChannels_32 dX11_setChannels_35 ⟨Nat.le_of_ble_eq_true rfl, Nat.le_of_ble_eq_true rfl, by show _ ≤ 2; omega, by show _ ≤ 12; omega⟩ (fun t hG hF => ⟨2, rfl, ⟨rfl, hG⟩, hF⟩) (by omega) (by omega)
theorem cc_setChannels (l : Launch) {D : va_G} {dA : Nat → ClassId} {A : Nat → Prop} {n : Nat} (hst : l.stackTraces = false) (hA : ∀ q, n ≤ q → A q) {V : Rho} {L : Lst} {N : Cnt} {ad : Adr} {xs : va_W} (h11 : 0 < N 11) {a1 : Int32} {a2 : Int32} {a3 : Int32} {o : (Rho × Int32) ⊕ Nat} (h : fc_setChannels V L N a1 a2 a3 = some o) : vx_Met l yX11_setChannels (.code yX11_setChannels cX11_setChannels 5 (some .int) :: gT) ({ frames := 7, cells := 2, slots := 12, locals := 294 } : Room) (va_Pc [.ref (ad 11 0), .int a1, .int a2, .int a3] (zB D dA A n (cx D dA A V L N ad xs))) (va_Qi (fun r (w9 : Rho × Int32) => r = w9.2 ∧ o = .inl w9 ∧ True) (fun (w9 : Rho × Int32) t => cx D dA A w9.1 L N ad xs t.heap) A) (vx_X (fun (u : Nat) => o = .inr u) (fun E u t => E = exn u ∧ cx D dA A V L N ad xs t.heap) A) 2 12 A :=
  zx_met (by decide) hA hst (Nat.le_of_ble_eq_true rfl) rfl rfl (fun p e s m below meth c X hml hr hnil => bc_setChannels X hml hr hnil ⟨by omega, by omega⟩ h11 h)
-- MeshBiller$Zone.historyFor(Z)LMeshBiller$RateHistory;
def fc_Zone_historyFor (V : Rho) (L : Lst) (N : Cnt) (a0 : Int32) (a1 : Int32) : Option (Int32) := (if a1 = 0 then some (a0 + a0 + 1)
  else some (a0 + a0))
set_option maxRecDepth 100000 in
set_option maxHeartbeats 4000000 in
theorem bc_Zone_historyFor {p : Program} {l : Launch} {e : Env} {s : State} {m : MethodId} {args : Array Value} {below : List Frame} {meth : Method} {c : Code} {D : va_G} {dA : Nat → ClassId} {A : Nat → Prop} {xs : va_W} {o : Int32} {V : Rho} {L : Lst} {N : Cnt} {ad : Adr} (X : zc p l s m args meth c cX10_historyFor RX10 D dA A) (hml : c.maxLocals = 2) (hr : meth.sig.returnType = (some (.object "MeshBiller$RateHistory"))) (h11 : 0 < N 11) {a0 : Int32} {a1 : Int32} (va0 : vp_in a0 (N 10)) (h : fc_Zone_historyFor V L N a0 a1 = some o) : zz p l e ({ frames := 1, cells := 0, slots := 0, locals := 42 } : Room) s m args below meth c A (cx D dA A V L N ad xs) 0 0 (MQ below (va_Qq (fun r (w9 : Unit) => r = some (ad 6 o.toNatClampNeg) ∧ vp_in o (N 6)) (fun (w9 : Unit) t => cx D dA A V L N ad xs t.heap) A) args s 0 0 A) 0 [(0, .ref (ad 10 a0.toNatClampNeg)), (1, .int a1)] [] [] := by
  unfold fc_Zone_historyFor at h
  refine z_iload_n X dX10_historyFor_0 rfl rfl ?_
  refine z_if_eq (tgt := 11) X dX10_historyFor_1 (by decide) (fun q => ?_) (fun q => ?_)
  · have h := zp q h
    refine z_aload_n X dX10_historyFor_11 rfl rfl ?_
    refine c_get X 10 2 (v := .ref (ad 6 (2 * a0.toNatClampNeg + 1))) rx10_ws rfl rfl rfl (vp_lt va0) g_184 rfl dX10_historyFor_12 ?_
    refine zz.pre (fun H hG => vp_his1 va0 (hG.2.2.2.2.2.2.2.2.1.1 h11)) (fun p2 => ?_)
    have p1 := p2.1
    rw [← p2.2]
    obtain rfl := Option.some.inj h
    exact z_aret (o := some (ad 6 (a0 + a0 + 1).toNatClampNeg)) X hr (Or.inl ⟨_, rfl⟩) (fun t hG hF _ => ⟨⟨_, (), rfl, ⟨rfl, p1⟩, hG⟩, hF⟩) dX10_historyFor_15
  · have h := zn q h
    refine z_aload_n X dX10_historyFor_4 rfl rfl ?_
    refine c_get X 10 1 (v := .ref (ad 6 (2 * a0.toNatClampNeg))) rx10_ws rfl rfl rfl (vp_lt va0) g_183 rfl dX10_historyFor_5 ?_
    refine zz.pre (fun H hG => vp_his0 va0 (hG.2.2.2.2.2.2.2.2.1.1 h11)) (fun p4 => ?_)
    have p3 := p4.1
    rw [← p4.2]
    refine z_goto (tgt := 15) X dX10_historyFor_8 (by decide) ?_
    obtain rfl := Option.some.inj h
    exact z_aret (o := some (ad 6 (a0 + a0).toNatClampNeg)) X hr (Or.inl ⟨_, rfl⟩) (fun t hG hF _ => ⟨⟨_, (), rfl, ⟨rfl, p3⟩, hG⟩, hF⟩) dX10_historyFor_15
theorem cc_Zone_historyFor (l : Launch) {D : va_G} {dA : Nat → ClassId} {A : Nat → Prop} {n : Nat} (hst : l.stackTraces = false) (hA : ∀ q, n ≤ q → A q) {V : Rho} {L : Lst} {N : Cnt} {ad : Adr} {xs : va_W} (h11 : 0 < N 11) {a0 : Int32} {a1 : Int32} (va0 : vp_in a0 (N 10)) {o : Int32} (h : fc_Zone_historyFor V L N a0 a1 = some o) : Met l yX10_historyFor (.code yX10_historyFor cX10_historyFor 2 (some (.object "MeshBiller$RateHistory")) :: gT) ({ frames := 1, cells := 0, slots := 0, locals := 42 } : Room) (va_Pc [.ref (ad 10 a0.toNatClampNeg), .int a1] (zB D dA A n (cx D dA A V L N ad xs))) (va_Qq (fun r (w9 : Unit) => r = some (ad 6 o.toNatClampNeg) ∧ vp_in o (N 6)) (fun (w9 : Unit) t => cx D dA A V L N ad xs t.heap) A) 0 0 A :=
  z_met (by decide) hA hst (Nat.le_of_ble_eq_true rfl) rfl rfl (fun p e s m below meth c X hml hr _ => bc_Zone_historyFor X hml hr h11 va0 h)
-- MeshBiller.setSlice(I)I
def fc_setSlice (V : Rho) (L : Lst) (N : Cnt) (a1 : Int32) : Option ((Rho × Int32) ⊕ Nat) := (fc_isOutside V L N a1 1 100).bind fun o1 => (if o1 = 0 then (some ((V 227 0))).bind fun x2 => (some (cs V 227 0 a1)).bind fun V3 => some (.inl (V3, x2))
  else some (.inr 2))
set_option maxRecDepth 100000 in
set_option maxHeartbeats 4000000 in
theorem bc_setSlice {p : Program} {l : Launch} {e : Env} {s : State} {m : MethodId} {args : Array Value} {below : List Frame} {meth : Method} {c : Code} {D : va_G} {dA : Nat → ClassId} {A : Nat → Prop} {xs : va_W} {o : (Rho × Int32) ⊕ Nat} {L : Lst} {N : Cnt} {ad : Adr} (X : zc p l s m args meth c cX11_setSlice RX11 D dA A) (hml : c.maxLocals = 3) (hr : meth.sig.returnType = (some .int)) (hnil : ∀ x ∈ c.exceptionTable.toList, False) {cells slots : Nat} (hcs : cells + 1 ≤ 1 ∧ slots + 6 ≤ 6) {V : Rho} (h11 : 0 < N 11) {a1 : Int32} (h : fc_setSlice V L N a1 = some o) : zz p l e ({ frames := 7, cells := 1, slots := 6, locals := 294 } : Room) s m args below meth c A (cx D dA A V L N ad xs) cells slots (vx_MQ below (va_Qi (fun r (w9 : Rho × Int32) => r = w9.2 ∧ o = .inl w9 ∧ True) (fun (w9 : Rho × Int32) t => cx D dA A w9.1 L N ad xs t.heap) A) (vx_X (fun (u : Nat) => o = .inr u) (fun E u t => E = exn u ∧ cx D dA A V L N ad xs t.heap) A) args s 1 6 A) 0 [(0, .ref (ad 11 0)), (1, .int a1)] [] [] := by
  obtain ⟨hcs1, hcs2⟩ := hcs
  unfold fc_setSlice at h
  refine z_iload_n X dX11_setSlice_0 rfl rfl ?_
  refine z_iconst (v := 1) X dX11_setSlice_1 (by decide) ?_
  refine z_bipush (v := 100) X dX11_setSlice_2 (by decide) ?_
  obtain ⟨o1, co1, h⟩ := zb2 h
  refine z_callSi (As := [.int a1, .int 1, .int 100]) (rest := []) (nA := 3) (mc := 0) (ms := 0) (rm := ({ frames := 1, cells := 0, slots := 0, locals := 42 } : Room)) (r0 := o1) (pu := fun (_ : Unit) => True) (G1 := fun _ => cx D dA A V L N ad xs) X (cc_isOutside l X.2.2.2.2.2.2.2.2 X.2.2.2.2.2.2.1 h11 co1) g_394 g_395 g_1 g_396 hd_yX11_isOutside ⟨rfl, rfl, Nat.le_of_ble_eq_true rfl, Nat.le_of_ble_eq_true rfl⟩ rfl rfl (Nat.le_of_ble_eq_true rfl) dX11_setSlice_4 ⟨by show _ ≤ 1; omega, by show _ ≤ 6; omega⟩ (fun _ _ => ?_)
  refine z_if_eq (tgt := 20) X dX11_setSlice_7 (by decide) (fun q => ?_) (fun q => ?_)
  · have h := zp q h
    refine z_aload_n X dX11_setSlice_20 rfl rfl ?_
    refine c_get X 11 7 (v := .int (V 227 0)) rx11_ws rfl rfl rfl h11 g_279 rfl dX11_setSlice_21 ?_
    obtain ⟨x2, ex2, h⟩ := zb h
    rw [ex2]
    refine z_istore_n (lo' := [(2, .int x2), (0, .ref (ad 11 0)), (1, .int a1)]) X dX11_setSlice_24 rfl (by rw [hml]; decide) rfl rfl ?_
    refine z_aload_n X dX11_setSlice_25 rfl rfl ?_
    refine z_iload_n X dX11_setSlice_26 rfl rfl ?_
    obtain ⟨V3, eV3, h⟩ := zb h
    refine c_put X 11 7 (x := a1) (v := .int a1) (ty := .int) rx11_ws rfl tyX11_ok nmX11 rfl rfl h11 rfl g_279 rfl trivial rfl rfl rfl eV3 dX11_setSlice_27 ?_
    refine z_iload_n X dX11_setSlice_30 rfl rfl ?_
    obtain rfl := Option.some.inj h
    refine zx_ret ?_
    refine zz.widen (k := 1) (n := 6) (by omega) (by omega) ?_
    exact z_iret X hr rfl (fun t hG hF _ => ⟨⟨_, _, rfl, ⟨rfl, ⟨rfl, trivial⟩⟩, hG⟩, hF⟩) dX11_setSlice_31
  · have h := zn q h
    obtain rfl := Option.some.inj h
    exact z_throwS (k := 2) (ik := 71) (is := 121) (ic := 75) (text := "seconds is out of range") X hnil cx_grow (by decide) g_397 g_20 hat_2 (by decide) dX11_setSlice_10 dX11_setSlice_13 dX11_setSlice_14 dX11_setSlice_16 dX11_setSlice_19 ⟨Nat.le_of_ble_eq_true rfl, Nat.le_of_ble_eq_true rfl, by show _ ≤ 1; omega, by show _ ≤ 6; omega⟩ (fun t hG hF => ⟨2, rfl, ⟨rfl, hG⟩, hF⟩) (by omega) (by omega)
theorem cc_setSlice (l : Launch) {D : va_G} {dA : Nat → ClassId} {A : Nat → Prop} {n : Nat} (hst : l.stackTraces = false) (hA : ∀ q, n ≤ q → A q) {V : Rho} {L : Lst} {N : Cnt} {ad : Adr} {xs : va_W} (h11 : 0 < N 11) {a1 : Int32} {o : (Rho × Int32) ⊕ Nat} (h : fc_setSlice V L N a1 = some o) : vx_Met l yX11_setSlice (.code yX11_setSlice cX11_setSlice 3 (some .int) :: gT) ({ frames := 7, cells := 1, slots := 6, locals := 294 } : Room) (va_Pc [.ref (ad 11 0), .int a1] (zB D dA A n (cx D dA A V L N ad xs))) (va_Qi (fun r (w9 : Rho × Int32) => r = w9.2 ∧ o = .inl w9 ∧ True) (fun (w9 : Rho × Int32) t => cx D dA A w9.1 L N ad xs t.heap) A) (vx_X (fun (u : Nat) => o = .inr u) (fun E u t => E = exn u ∧ cx D dA A V L N ad xs t.heap) A) 1 6 A :=
  zx_met (by decide) hA hst (Nat.le_of_ble_eq_true rfl) rfl rfl (fun p e s m below meth c X hml hr hnil => bc_setSlice X hml hr hnil ⟨by omega, by omega⟩ h11 h)
-- MeshBiller.phoneAt(I)LMeshBiller$Phone;
def fc_phoneAt (V : Rho) (L : Lst) (N : Cnt) (a1 : Int32) : Option ((Int32) ⊕ Nat) := (if a1 < 0 then some (.inr 1)
  else (if a1 < 10 then if a1 < 0 ∨ 10 ≤ a1.toNatClampNeg then none else some (.inl a1)
  else some (.inr 1)))
set_option maxRecDepth 100000 in
set_option maxHeartbeats 4000000 in
theorem bc_phoneAt {p : Program} {l : Launch} {e : Env} {s : State} {m : MethodId} {args : Array Value} {below : List Frame} {meth : Method} {c : Code} {D : va_G} {dA : Nat → ClassId} {A : Nat → Prop} {xs : va_W} {o : (Int32) ⊕ Nat} {V : Rho} {L : Lst} {N : Cnt} {ad : Adr} (X : zc p l s m args meth c cX11_phoneAt RX11 D dA A) (hml : c.maxLocals = 2) (hr : meth.sig.returnType = (some (.object "MeshBiller$Phone"))) (hnil : ∀ x ∈ c.exceptionTable.toList, False) {cells slots : Nat} (hcs : cells + 1 ≤ 1 ∧ slots + 6 ≤ 6) (h11 : 0 < N 11) {a1 : Int32} (h : fc_phoneAt V L N a1 = some o) : zz p l e ({ frames := 6, cells := 1, slots := 6, locals := 252 } : Room) s m args below meth c A (cx D dA A V L N ad xs) cells slots (vx_MQ below (va_Qq (fun r (w9 : Int32) => r = some (ad 5 w9.toNatClampNeg) ∧ o = .inl w9 ∧ vp_in w9 (N 5)) (fun (w9 : Int32) t => cx D dA A V L N ad xs t.heap) A) (vx_X (fun (u : Nat) => o = .inr u) (fun E u t => E = exn u ∧ cx D dA A V L N ad xs t.heap) A) args s 1 6 A) 0 [(0, .ref (ad 11 0)), (1, .int a1)] [] [] := by
  obtain ⟨hcs1, hcs2⟩ := hcs
  unfold fc_phoneAt at h
  refine z_iload_n X dX11_phoneAt_0 rfl rfl ?_
  refine z_if_lt (tgt := 13) X dX11_phoneAt_1 (by decide) (fun q => ?_) (fun q => ?_)
  · have h := zp q h
    obtain rfl := Option.some.inj h
    exact z_throwSW (k := 1) (ik := 199) (is := 355) (ic := 203) (text := "no such phone") X hnil cx_grow (by decide) g_326 g_19 hat_1 (by decide) dX11_phoneAt_13 dX11_phoneAt_16 dX11_phoneAt_17 dX11_phoneAt_20 dX11_phoneAt_23 ⟨Nat.le_of_ble_eq_true rfl, Nat.le_of_ble_eq_true rfl, by show _ ≤ 1; omega, by show _ ≤ 6; omega⟩ (fun t hG hF => ⟨1, rfl, ⟨rfl, hG⟩, hF⟩) (by omega) (by omega)
  · have h := zn q h
    refine z_iload_n X dX11_phoneAt_4 rfl rfl ?_
    refine z_aload_n X dX11_phoneAt_5 rfl rfl ?_
    refine c_get X 11 3 (v := .ref (ad 29 0)) rx11_ws rfl rfl rfl h11 g_275 rfl dX11_phoneAt_6 ?_
    refine c_alen X 29 (n := 10) rfl rfl rfl h11 (by decide) dX11_phoneAt_9 ?_
    refine z_icmp_lt (tgt := 24) X dX11_phoneAt_10 (by decide) (fun q => ?_) (fun q => ?_)
    · have h := zp q h
      refine z_aload_n X dX11_phoneAt_24 rfl rfl ?_
      refine c_get X 11 3 (v := .ref (ad 29 0)) rx11_ws rfl rfl rfl h11 g_275 rfl dX11_phoneAt_25 ?_
      refine z_iload_n X dX11_phoneAt_28 rfl rfl ?_
      obtain ⟨q1, h⟩ := zg h
      refine c_aald X 29 rfl rfl rfl h11 q1 dX11_phoneAt_29 ?_
      refine zz.pre (fun H hG => vp_of q1 (hG.2.2.2.2.2.2.2.2.1.1 h11).2.2.2.2.1) (fun (p2 : vp_in a1 (N 5)) => ?_)
      obtain rfl := Option.some.inj h
      refine zx_ret ?_
      refine zz.widen (k := 1) (n := 6) (by omega) (by omega) ?_
      exact z_aret (o := some (ad 5 a1.toNatClampNeg)) X hr (Or.inl ⟨_, rfl⟩) (fun t hG hF _ => ⟨⟨_, _, rfl, ⟨rfl, ⟨rfl, p2⟩⟩, hG⟩, hF⟩) dX11_phoneAt_30
    · have h := zn q h
      obtain rfl := Option.some.inj h
      exact z_throwSW (k := 1) (ik := 199) (is := 355) (ic := 203) (text := "no such phone") X hnil cx_grow (by decide) g_326 g_19 hat_1 (by decide) dX11_phoneAt_13 dX11_phoneAt_16 dX11_phoneAt_17 dX11_phoneAt_20 dX11_phoneAt_23 ⟨Nat.le_of_ble_eq_true rfl, Nat.le_of_ble_eq_true rfl, by show _ ≤ 1; omega, by show _ ≤ 6; omega⟩ (fun t hG hF => ⟨1, rfl, ⟨rfl, hG⟩, hF⟩) (by omega) (by omega)
theorem cc_phoneAt (l : Launch) {D : va_G} {dA : Nat → ClassId} {A : Nat → Prop} {n : Nat} (hst : l.stackTraces = false) (hA : ∀ q, n ≤ q → A q) {V : Rho} {L : Lst} {N : Cnt} {ad : Adr} {xs : va_W} (h11 : 0 < N 11) {a1 : Int32} {o : (Int32) ⊕ Nat} (h : fc_phoneAt V L N a1 = some o) : vx_Met l yX11_phoneAt (.code yX11_phoneAt cX11_phoneAt 2 (some (.object "MeshBiller$Phone")) :: gT) ({ frames := 6, cells := 1, slots := 6, locals := 252 } : Room) (va_Pc [.ref (ad 11 0), .int a1] (zB D dA A n (cx D dA A V L N ad xs))) (va_Qq (fun r (w9 : Int32) => r = some (ad 5 w9.toNatClampNeg) ∧ o = .inl w9 ∧ vp_in w9 (N 5)) (fun (w9 : Int32) t => cx D dA A V L N ad xs t.heap) A) (vx_X (fun (u : Nat) => o = .inr u) (fun E u t => E = exn u ∧ cx D dA A V L N ad xs t.heap) A) 1 6 A :=
  zx_met (by decide) hA hst (Nat.le_of_ble_eq_true rfl) rfl rfl (fun p e s m below meth c X hml hr hnil => bc_phoneAt X hml hr hnil ⟨by omega, by omega⟩ h11 h)
-- MeshBiller.setCap(II)I
def fc_setCap_31 (V : Rho) (L : Lst) (N : Cnt) (v2 : Int32) (v3 : Int32) : Option ((Rho × Int32) ⊕ Nat) := (some ((V 103 v3.toNatClampNeg))).bind fun x1 => (some (cs V 103 v3.toNatClampNeg v2)).bind fun V2 => some (.inl (V2, x1))
set_option maxRecDepth 100000 in
set_option maxHeartbeats 4000000 in
theorem bc_setCap_31 {p : Program} {l : Launch} {e : Env} {s : State} {m : MethodId} {args : Array Value} {below : List Frame} {meth : Method} {c : Code} {D : va_G} {dA : Nat → ClassId} {A : Nat → Prop} {xs : va_W} {o : (Rho × Int32) ⊕ Nat} {L : Lst} {N : Cnt} {ad : Adr} {V0 : Rho} (X : zc p l s m args meth c cX11_setCap RX11 D dA A) (hml : c.maxLocals = 5) (hr : meth.sig.returnType = (some .int)) (hnil : ∀ x ∈ c.exceptionTable.toList, False) {cells slots : Nat} (hcs : cells + 0 ≤ 2 ∧ slots + 0 ≤ 12) {V : Rho} (h11 : 0 < N 11) {v2 : Int32} {v3 : Int32} (fv3 : vp_in v3 (N 5)) (h : fc_setCap_31 V L N v2 v3 = some o) : zz p l e ({ frames := 7, cells := 2, slots := 12, locals := 294 } : Room) s m args below meth c A (cx D dA A V L N ad xs) cells slots (vx_MQ below (va_Qi (fun r (w9 : Rho × Int32) => r = w9.2 ∧ o = .inl w9 ∧ True) (fun (w9 : Rho × Int32) t => cx D dA A w9.1 L N ad xs t.heap) A) (vx_X (fun (u : Nat) => o = .inr u) (fun E u t => E = exn u ∧ cx D dA A V0 L N ad xs t.heap) A) args s 2 12 A) 31 [(2, .int v2), (3, .ref (ad 5 v3.toNatClampNeg))] [] [] := by
  obtain ⟨hcs1, hcs2⟩ := hcs
  unfold fc_setCap_31 at h
  refine z_aload_n X dX11_setCap_31 rfl rfl ?_
  refine c_get X 5 3 (v := .int (V 103 v3.toNatClampNeg)) rx5_ws rfl rfl rfl (vp_lt fv3) g_252 rfl dX11_setCap_32 ?_
  obtain ⟨x1, ex1, h⟩ := zb h
  rw [ex1]
  refine z_istore (lo' := [(4, .int x1), (2, .int v2), (3, .ref (ad 5 v3.toNatClampNeg))]) X dX11_setCap_35 (by rw [hml]; decide) rfl rfl ?_
  refine z_aload_n X dX11_setCap_37 rfl rfl ?_
  refine z_iload_n X dX11_setCap_38 rfl rfl ?_
  obtain ⟨V2, eV2, h⟩ := zb h
  refine c_put X 5 3 (x := v2) (v := .int v2) (ty := .int) rx5_ws rfl tyX5_ok nmX5 rfl rfl (vp_lt fv3) rfl g_252 rfl trivial rfl rfl rfl eV2 dX11_setCap_39 ?_
  refine z_iload X dX11_setCap_42 rfl ?_
  obtain rfl := Option.some.inj h
  refine zx_ret ?_
  refine zz.widen (k := 2) (n := 12) (by omega) (by omega) ?_
  exact z_iret X hr rfl (fun t hG hF _ => ⟨⟨_, _, rfl, ⟨rfl, ⟨rfl, trivial⟩⟩, hG⟩, hF⟩) dX11_setCap_44
def fc_setCap (V : Rho) (L : Lst) (N : Cnt) (a1 : Int32) (a2 : Int32) : Option ((Rho × Int32) ⊕ Nat) := (fc_phoneAt V L N a1).bind fun o1 => Sum.elim (fun u2 => (if a2 = (-1) then fc_setCap_31 V L N a2 u2
  else (fc_isOutside V L N a2 0 1000000).bind fun o4 => (if o4 = 0 then fc_setCap_31 V L N a2 u2
  else some (.inr 2)))) (fun e9 => some (.inr e9)) o1
set_option maxRecDepth 100000 in
set_option maxHeartbeats 4000000 in
theorem bc_setCap {p : Program} {l : Launch} {e : Env} {s : State} {m : MethodId} {args : Array Value} {below : List Frame} {meth : Method} {c : Code} {D : va_G} {dA : Nat → ClassId} {A : Nat → Prop} {xs : va_W} {o : (Rho × Int32) ⊕ Nat} {L : Lst} {N : Cnt} {ad : Adr} (X : zc p l s m args meth c cX11_setCap RX11 D dA A) (hml : c.maxLocals = 5) (hr : meth.sig.returnType = (some .int)) (hnil : ∀ x ∈ c.exceptionTable.toList, False) {cells slots : Nat} (hcs : cells + 2 ≤ 2 ∧ slots + 12 ≤ 12) {V : Rho} (h11 : 0 < N 11) {a1 : Int32} {a2 : Int32} (h : fc_setCap V L N a1 a2 = some o) : zz p l e ({ frames := 7, cells := 2, slots := 12, locals := 294 } : Room) s m args below meth c A (cx D dA A V L N ad xs) cells slots (vx_MQ below (va_Qi (fun r (w9 : Rho × Int32) => r = w9.2 ∧ o = .inl w9 ∧ True) (fun (w9 : Rho × Int32) t => cx D dA A w9.1 L N ad xs t.heap) A) (vx_X (fun (u : Nat) => o = .inr u) (fun E u t => E = exn u ∧ cx D dA A V L N ad xs t.heap) A) args s 2 12 A) 0 [(0, .ref (ad 11 0)), (1, .int a1), (2, .int a2)] [] [] := by
  obtain ⟨hcs1, hcs2⟩ := hcs
  unfold fc_setCap at h
  refine z_aload_n X dX11_setCap_0 rfl rfl ?_
  refine z_iload_n X dX11_setCap_1 rfl rfl ?_
  obtain ⟨o1, co1, h⟩ := zb2 h
  refine z_xVq (As := [.int a1]) (rest := []) (nA := 1) (mc := 1) (ms := 6) (rm := ({ frames := 6, cells := 1, slots := 6, locals := 252 } : Room)) (S := Int32) (r0 := fun u => some (ad 5 u.toNatClampNeg)) (pu := fun u => o1 = .inl u ∧ vp_in u (N 5)) (G1 := fun u => cx D dA A V L N ad xs) X hnil (cc_phoneAt l X.2.2.2.2.2.2.2.2 X.2.2.2.2.2.2.1 h11 co1) g_477 g_479 gs_6 g_1 g_480 hd_yX11_phoneAt ⟨rfl, rfl, Nat.le_of_ble_eq_true rfl, Nat.le_of_ble_eq_true rfl⟩ rfl (fun _ hG => cx_recv X (k := 11) (n := 9) rfl rfl h11 hG)  rfl (Nat.le_of_ble_eq_true rfl) dX11_setCap_2 ⟨by show _ ≤ 2; omega, by show _ ≤ 12; omega⟩ ⟨by omega, by omega⟩ (fun u hu t hG hF => ?_) (fun u2 hu => ?_)
  · rw [hu] at h
    obtain rfl := Option.some.inj h
    exact ⟨u, rfl, ⟨rfl, hG⟩, hF⟩
  · rw [hu.1] at h
    have p3 := hu.2
    simp only [Sum.elim_inl] at h
    refine z_astore_n (lo' := [(3, .ref (ad 5 u2.toNatClampNeg)), (0, .ref (ad 11 0)), (1, .int a1), (2, .int a2)]) X dX11_setCap_5 rfl (by rw [hml]; decide) rfl rfl ?_
    refine z_iload_n X dX11_setCap_6 rfl rfl ?_
    refine z_iconst (v := (-1)) X dX11_setCap_7 (by decide) ?_
    refine z_icmp_eq (tgt := 31) X dX11_setCap_8 (by decide) (fun q => ?_) (fun q => ?_)
    · have h := zp q h
      refine zz.pick (lo' := [(2, .int a2), (3, .ref (ad 5 u2.toNatClampNeg))]) [2, 3] rfl ?_
      exact bc_setCap_31 X hml hr hnil ⟨by omega, by omega⟩ h11 p3 h
    · have h := zn q h
      refine z_iload_n X dX11_setCap_11 rfl rfl ?_
      refine z_iconst (v := 0) X dX11_setCap_12 (by decide) ?_
      refine z_ldc X g_482 dX11_setCap_13 ?_
      obtain ⟨o4, co4, h⟩ := zb2 h
      refine z_callSi (As := [.int a2, .int 0, .int 1000000]) (rest := []) (nA := 3) (mc := 0) (ms := 0) (rm := ({ frames := 1, cells := 0, slots := 0, locals := 42 } : Room)) (r0 := o4) (pu := fun (_ : Unit) => True) (G1 := fun _ => cx D dA A V L N ad xs) X (cc_isOutside l X.2.2.2.2.2.2.2.2 X.2.2.2.2.2.2.1 h11 co4) g_394 g_395 g_1 g_396 hd_yX11_isOutside ⟨rfl, rfl, Nat.le_of_ble_eq_true rfl, Nat.le_of_ble_eq_true rfl⟩ rfl rfl (Nat.le_of_ble_eq_true rfl) dX11_setCap_15 ⟨by show _ ≤ 2; omega, by show _ ≤ 12; omega⟩ (fun _ _ => ?_)
      refine z_if_eq (tgt := 31) X dX11_setCap_18 (by decide) (fun q => ?_) (fun q => ?_)
      · have h := zp q h
        refine zz.pick (lo' := [(2, .int a2), (3, .ref (ad 5 u2.toNatClampNeg))]) [2, 3] rfl ?_
        exact bc_setCap_31 X hml hr hnil ⟨by omega, by omega⟩ h11 p3 h
      · have h := zn q h
        obtain rfl := Option.some.inj h
        exact z_throwS (k := 2) (ik := 71) (is := 128) (ic := 75) (text := "cap is out of range") X hnil cx_grow (by decide) g_397 g_20 hat_2 (by decide) dX11_setCap_21 dX11_setCap_24 dX11_setCap_25 dX11_setCap_27 dX11_setCap_30 ⟨Nat.le_of_ble_eq_true rfl, Nat.le_of_ble_eq_true rfl, by show _ ≤ 2; omega, by show _ ≤ 12; omega⟩ (fun t hG hF => ⟨2, rfl, ⟨rfl, hG⟩, hF⟩) (by omega) (by omega)
theorem cc_setCap (l : Launch) {D : va_G} {dA : Nat → ClassId} {A : Nat → Prop} {n : Nat} (hst : l.stackTraces = false) (hA : ∀ q, n ≤ q → A q) {V : Rho} {L : Lst} {N : Cnt} {ad : Adr} {xs : va_W} (h11 : 0 < N 11) {a1 : Int32} {a2 : Int32} {o : (Rho × Int32) ⊕ Nat} (h : fc_setCap V L N a1 a2 = some o) : vx_Met l yX11_setCap (.code yX11_setCap cX11_setCap 5 (some .int) :: gT) ({ frames := 7, cells := 2, slots := 12, locals := 294 } : Room) (va_Pc [.ref (ad 11 0), .int a1, .int a2] (zB D dA A n (cx D dA A V L N ad xs))) (va_Qi (fun r (w9 : Rho × Int32) => r = w9.2 ∧ o = .inl w9 ∧ True) (fun (w9 : Rho × Int32) t => cx D dA A w9.1 L N ad xs t.heap) A) (vx_X (fun (u : Nat) => o = .inr u) (fun E u t => E = exn u ∧ cx D dA A V L N ad xs t.heap) A) 2 12 A :=
  zx_met (by decide) hA hst (Nat.le_of_ble_eq_true rfl) rfl rfl (fun p e s m below meth c X hml hr hnil => bc_setCap X hml hr hnil ⟨by omega, by omega⟩ h11 h)
-- MeshBiller.walletAt(I)LMeshBiller$Wallet;
def fc_walletAt (V : Rho) (L : Lst) (N : Cnt) (a1 : Int32) : Option ((Int32) ⊕ Nat) := (if a1 < 0 then some (.inr 1)
  else (if a1 < 4 then if a1 < 0 ∨ 4 ≤ a1.toNatClampNeg then none else some (.inl a1)
  else some (.inr 1)))
set_option maxRecDepth 100000 in
set_option maxHeartbeats 4000000 in
theorem bc_walletAt {p : Program} {l : Launch} {e : Env} {s : State} {m : MethodId} {args : Array Value} {below : List Frame} {meth : Method} {c : Code} {D : va_G} {dA : Nat → ClassId} {A : Nat → Prop} {xs : va_W} {o : (Int32) ⊕ Nat} {V : Rho} {L : Lst} {N : Cnt} {ad : Adr} (X : zc p l s m args meth c cX11_walletAt RX11 D dA A) (hml : c.maxLocals = 2) (hr : meth.sig.returnType = (some (.object "MeshBiller$Wallet"))) (hnil : ∀ x ∈ c.exceptionTable.toList, False) {cells slots : Nat} (hcs : cells + 1 ≤ 1 ∧ slots + 6 ≤ 6) (h11 : 0 < N 11) {a1 : Int32} (h : fc_walletAt V L N a1 = some o) : zz p l e ({ frames := 6, cells := 1, slots := 6, locals := 252 } : Room) s m args below meth c A (cx D dA A V L N ad xs) cells slots (vx_MQ below (va_Qq (fun r (w9 : Int32) => r = some (ad 9 w9.toNatClampNeg) ∧ o = .inl w9 ∧ vp_in w9 (N 9)) (fun (w9 : Int32) t => cx D dA A V L N ad xs t.heap) A) (vx_X (fun (u : Nat) => o = .inr u) (fun E u t => E = exn u ∧ cx D dA A V L N ad xs t.heap) A) args s 1 6 A) 0 [(0, .ref (ad 11 0)), (1, .int a1)] [] [] := by
  obtain ⟨hcs1, hcs2⟩ := hcs
  unfold fc_walletAt at h
  refine z_iload_n X dX11_walletAt_0 rfl rfl ?_
  refine z_if_lt (tgt := 13) X dX11_walletAt_1 (by decide) (fun q => ?_) (fun q => ?_)
  · have h := zp q h
    obtain rfl := Option.some.inj h
    exact z_throwSW (k := 1) (ik := 199) (is := 357) (ic := 203) (text := "no such wallet") X hnil cx_grow (by decide) g_326 g_19 hat_1 (by decide) dX11_walletAt_13 dX11_walletAt_16 dX11_walletAt_17 dX11_walletAt_20 dX11_walletAt_23 ⟨Nat.le_of_ble_eq_true rfl, Nat.le_of_ble_eq_true rfl, by show _ ≤ 1; omega, by show _ ≤ 6; omega⟩ (fun t hG hF => ⟨1, rfl, ⟨rfl, hG⟩, hF⟩) (by omega) (by omega)
  · have h := zn q h
    refine z_iload_n X dX11_walletAt_4 rfl rfl ?_
    refine z_aload_n X dX11_walletAt_5 rfl rfl ?_
    refine c_get X 11 2 (v := .ref (ad 28 0)) rx11_ws rfl rfl rfl h11 g_274 rfl dX11_walletAt_6 ?_
    refine c_alen X 28 (n := 4) rfl rfl rfl h11 (by decide) dX11_walletAt_9 ?_
    refine z_icmp_lt (tgt := 24) X dX11_walletAt_10 (by decide) (fun q => ?_) (fun q => ?_)
    · have h := zp q h
      refine z_aload_n X dX11_walletAt_24 rfl rfl ?_
      refine c_get X 11 2 (v := .ref (ad 28 0)) rx11_ws rfl rfl rfl h11 g_274 rfl dX11_walletAt_25 ?_
      refine z_iload_n X dX11_walletAt_28 rfl rfl ?_
      obtain ⟨q1, h⟩ := zg h
      refine c_aald X 28 rfl rfl rfl h11 q1 dX11_walletAt_29 ?_
      refine zz.pre (fun H hG => vp_of q1 (hG.2.2.2.2.2.2.2.2.1.1 h11).2.2.2.1) (fun (p2 : vp_in a1 (N 9)) => ?_)
      obtain rfl := Option.some.inj h
      refine zx_ret ?_
      refine zz.widen (k := 1) (n := 6) (by omega) (by omega) ?_
      exact z_aret (o := some (ad 9 a1.toNatClampNeg)) X hr (Or.inl ⟨_, rfl⟩) (fun t hG hF _ => ⟨⟨_, _, rfl, ⟨rfl, ⟨rfl, p2⟩⟩, hG⟩, hF⟩) dX11_walletAt_30
    · have h := zn q h
      obtain rfl := Option.some.inj h
      exact z_throwSW (k := 1) (ik := 199) (is := 357) (ic := 203) (text := "no such wallet") X hnil cx_grow (by decide) g_326 g_19 hat_1 (by decide) dX11_walletAt_13 dX11_walletAt_16 dX11_walletAt_17 dX11_walletAt_20 dX11_walletAt_23 ⟨Nat.le_of_ble_eq_true rfl, Nat.le_of_ble_eq_true rfl, by show _ ≤ 1; omega, by show _ ≤ 6; omega⟩ (fun t hG hF => ⟨1, rfl, ⟨rfl, hG⟩, hF⟩) (by omega) (by omega)
theorem cc_walletAt (l : Launch) {D : va_G} {dA : Nat → ClassId} {A : Nat → Prop} {n : Nat} (hst : l.stackTraces = false) (hA : ∀ q, n ≤ q → A q) {V : Rho} {L : Lst} {N : Cnt} {ad : Adr} {xs : va_W} (h11 : 0 < N 11) {a1 : Int32} {o : (Int32) ⊕ Nat} (h : fc_walletAt V L N a1 = some o) : vx_Met l yX11_walletAt (.code yX11_walletAt cX11_walletAt 2 (some (.object "MeshBiller$Wallet")) :: gT) ({ frames := 6, cells := 1, slots := 6, locals := 252 } : Room) (va_Pc [.ref (ad 11 0), .int a1] (zB D dA A n (cx D dA A V L N ad xs))) (va_Qq (fun r (w9 : Int32) => r = some (ad 9 w9.toNatClampNeg) ∧ o = .inl w9 ∧ vp_in w9 (N 9)) (fun (w9 : Int32) t => cx D dA A V L N ad xs t.heap) A) (vx_X (fun (u : Nat) => o = .inr u) (fun E u t => E = exn u ∧ cx D dA A V L N ad xs t.heap) A) 1 6 A :=
  zx_met (by decide) hA hst (Nat.le_of_ble_eq_true rfl) rfl rfl (fun p e s m below meth c X hml hr hnil => bc_walletAt X hml hr hnil ⟨by omega, by omega⟩ h11 h)
-- MeshBiller.setWallet(II)I
def fc_setWallet (V : Rho) (L : Lst) (N : Cnt) (a1 : Int32) (a2 : Int32) : Option ((Rho × Int32) ⊕ Nat) := (fc_phoneAt V L N a1).bind fun o1 => Sum.elim (fun u2 => (fc_walletAt V L N a2).bind fun o4 => Sum.elim (fun u5 => (if (V 104 u2.toNatClampNeg) = -1 then (some ((V 180 (V 102 u2.toNatClampNeg).toNatClampNeg))).bind fun x10 => (some (cs V 102 u2.toNatClampNeg u5)).bind fun V11 => some (.inl (V11, x10))
  else some (.inr 3))) (fun e9 => some (.inr e9)) o4) (fun e9 => some (.inr e9)) o1
set_option maxRecDepth 100000 in
set_option maxHeartbeats 4000000 in
theorem bc_setWallet {p : Program} {l : Launch} {e : Env} {s : State} {m : MethodId} {args : Array Value} {below : List Frame} {meth : Method} {c : Code} {D : va_G} {dA : Nat → ClassId} {A : Nat → Prop} {xs : va_W} {o : (Rho × Int32) ⊕ Nat} {L : Lst} {N : Cnt} {ad : Adr} (X : zc p l s m args meth c cX11_setWallet RX11 D dA A) (hml : c.maxLocals = 6) (hr : meth.sig.returnType = (some .int)) (hnil : ∀ x ∈ c.exceptionTable.toList, False) {cells slots : Nat} (hcs : cells + 3 ≤ 3 ∧ slots + 18 ≤ 18) {V : Rho} (h11 : 0 < N 11) {a1 : Int32} {a2 : Int32} (h : fc_setWallet V L N a1 a2 = some o) : zz p l e ({ frames := 7, cells := 3, slots := 18, locals := 294 } : Room) s m args below meth c A (cx D dA A V L N ad xs) cells slots (vx_MQ below (va_Qi (fun r (w9 : Rho × Int32) => r = w9.2 ∧ o = .inl w9 ∧ True) (fun (w9 : Rho × Int32) t => cx D dA A w9.1 L N ad xs t.heap) A) (vx_X (fun (u : Nat) => o = .inr u) (fun E u t => E = exn u ∧ cx D dA A V L N ad xs t.heap) A) args s 3 18 A) 0 [(0, .ref (ad 11 0)), (1, .int a1), (2, .int a2)] [] [] := by
  obtain ⟨hcs1, hcs2⟩ := hcs
  unfold fc_setWallet at h
  refine z_aload_n X dX11_setWallet_0 rfl rfl ?_
  refine z_iload_n X dX11_setWallet_1 rfl rfl ?_
  obtain ⟨o1, co1, h⟩ := zb2 h
  refine z_xVq (As := [.int a1]) (rest := []) (nA := 1) (mc := 1) (ms := 6) (rm := ({ frames := 6, cells := 1, slots := 6, locals := 252 } : Room)) (S := Int32) (r0 := fun u => some (ad 5 u.toNatClampNeg)) (pu := fun u => o1 = .inl u ∧ vp_in u (N 5)) (G1 := fun u => cx D dA A V L N ad xs) X hnil (cc_phoneAt l X.2.2.2.2.2.2.2.2 X.2.2.2.2.2.2.1 h11 co1) g_477 g_479 gs_6 g_1 g_480 hd_yX11_phoneAt ⟨rfl, rfl, Nat.le_of_ble_eq_true rfl, Nat.le_of_ble_eq_true rfl⟩ rfl (fun _ hG => cx_recv X (k := 11) (n := 9) rfl rfl h11 hG)  rfl (Nat.le_of_ble_eq_true rfl) dX11_setWallet_2 ⟨by show _ ≤ 3; omega, by show _ ≤ 18; omega⟩ ⟨by omega, by omega⟩ (fun u hu t hG hF => ?_) (fun u2 hu => ?_)
  · rw [hu] at h
    obtain rfl := Option.some.inj h
    exact ⟨u, rfl, ⟨rfl, hG⟩, hF⟩
  · rw [hu.1] at h
    have p3 := hu.2
    simp only [Sum.elim_inl] at h
    refine z_astore_n (lo' := [(3, .ref (ad 5 u2.toNatClampNeg)), (0, .ref (ad 11 0)), (1, .int a1), (2, .int a2)]) X dX11_setWallet_5 rfl (by rw [hml]; decide) rfl rfl ?_
    refine z_aload_n X dX11_setWallet_6 rfl rfl ?_
    refine z_iload_n X dX11_setWallet_7 rfl rfl ?_
    obtain ⟨o4, co4, h⟩ := zb2 h
    refine z_xVq (As := [.int a2]) (rest := []) (nA := 1) (mc := 1) (ms := 6) (rm := ({ frames := 6, cells := 1, slots := 6, locals := 252 } : Room)) (S := Int32) (r0 := fun u => some (ad 9 u.toNatClampNeg)) (pu := fun u => o4 = .inl u ∧ vp_in u (N 9)) (G1 := fun u => cx D dA A V L N ad xs) X hnil (cc_walletAt l X.2.2.2.2.2.2.2.2 X.2.2.2.2.2.2.1 h11 co4) g_491 g_493 gs_7 g_1 g_494 hd_yX11_walletAt ⟨rfl, rfl, Nat.le_of_ble_eq_true rfl, Nat.le_of_ble_eq_true rfl⟩ rfl (fun _ hG => cx_recv X (k := 11) (n := 9) rfl rfl h11 hG)  rfl (Nat.le_of_ble_eq_true rfl) dX11_setWallet_8 ⟨by show _ ≤ 3; omega, by show _ ≤ 18; omega⟩ ⟨by omega, by omega⟩ (fun u hu t hG hF => ?_) (fun u5 hu => ?_)
    · rw [hu] at h
      obtain rfl := Option.some.inj h
      exact ⟨u, rfl, ⟨rfl, hG⟩, hF⟩
    · rw [hu.1] at h
      have p6 := hu.2
      simp only [Sum.elim_inl] at h
      refine z_astore (lo' := [(4, .ref (ad 9 u5.toNatClampNeg)), (3, .ref (ad 5 u2.toNatClampNeg)), (0, .ref (ad 11 0)), (1, .int a1), (2, .int a2)]) X dX11_setWallet_11 (by rw [hml]; decide) rfl rfl ?_
      refine z_aload_n X dX11_setWallet_13 rfl rfl ?_
      refine c_get X 5 4 (v := va_rf (qn (ad 4) (V 104 u2.toNatClampNeg))) rx5_ws rfl rfl rfl (vp_lt p3) g_254 rfl dX11_setWallet_14 ?_
      refine zz.pre (fun H hG => cx_fact (k := 5) (i := u2.toNatClampNeg) (f := 4) rfl (vp_lt p3) rfl hG) (fun (p7 : (V 104 u2.toNatClampNeg) = -1 ∨ vp_in (V 104 u2.toNatClampNeg) (N 4)) => ?_)
      refine c_ifnull (tgt := 30) X dX11_setWallet_17 (by decide) (fun q => ?_) (fun q => ?_)
      · have h := zp q h
        refine z_aload_n X dX11_setWallet_30 rfl rfl ?_
        refine c_get X 5 2 (v := .ref (ad 9 (V 102 u2.toNatClampNeg).toNatClampNeg)) rx5_ws rfl rfl rfl (vp_lt p3) g_250 rfl dX11_setWallet_31 ?_
        refine zz.pre (fun H hG => cx_fact (k := 5) (i := u2.toNatClampNeg) (f := 2) rfl (vp_lt p3) rfl hG) (fun (p9 : vp_in (V 102 u2.toNatClampNeg) (N 9)) => ?_)
        refine c_get X 9 0 (v := .int (V 180 (V 102 u2.toNatClampNeg).toNatClampNeg)) rx9_ws rfl rfl rfl (vp_lt p9) g_223 rfl dX11_setWallet_34 ?_
        obtain ⟨x10, ex10, h⟩ := zb h
        rw [ex10]
        refine z_istore (lo' := [(5, .int x10), (4, .ref (ad 9 u5.toNatClampNeg)), (3, .ref (ad 5 u2.toNatClampNeg)), (0, .ref (ad 11 0)), (1, .int a1), (2, .int a2)]) X dX11_setWallet_37 (by rw [hml]; decide) rfl rfl ?_
        refine z_aload_n X dX11_setWallet_39 rfl rfl ?_
        refine z_aload X dX11_setWallet_40 rfl ?_
        obtain ⟨V11, eV11, h⟩ := zb h
        refine c_put X 5 2 (x := u5) (v := .ref (ad 9 u5.toNatClampNeg)) (ty := (.object "MeshBiller$Wallet")) rx5_ws rfl tyX5_ok nmX5 rfl rfl (vp_lt p3) rfl g_250 rfl p6 rfl rfl rfl eV11 dX11_setWallet_42 ?_
        refine z_iload X dX11_setWallet_45 rfl ?_
        obtain rfl := Option.some.inj h
        refine zx_ret ?_
        refine zz.widen (k := 3) (n := 18) (by omega) (by omega) ?_
        exact z_iret X hr rfl (fun t hG hF _ => ⟨⟨_, _, rfl, ⟨rfl, ⟨rfl, trivial⟩⟩, hG⟩, hF⟩) dX11_setWallet_47
      · have h := zn q h
        have p8 := p7.resolve_left q
        obtain rfl := Option.some.inj h
        exact z_throwS (k := 3) (ik := 82) (is := 141) (ic := 86) (text := "the phone is in a call") X hnil cx_grow (by decide) g_417 g_21 hat_3 (by decide) dX11_setWallet_20 dX11_setWallet_23 dX11_setWallet_24 dX11_setWallet_26 dX11_setWallet_29 ⟨Nat.le_of_ble_eq_true rfl, Nat.le_of_ble_eq_true rfl, by show _ ≤ 3; omega, by show _ ≤ 18; omega⟩ (fun t hG hF => ⟨3, rfl, ⟨rfl, hG⟩, hF⟩) (by omega) (by omega)
theorem cc_setWallet (l : Launch) {D : va_G} {dA : Nat → ClassId} {A : Nat → Prop} {n : Nat} (hst : l.stackTraces = false) (hA : ∀ q, n ≤ q → A q) {V : Rho} {L : Lst} {N : Cnt} {ad : Adr} {xs : va_W} (h11 : 0 < N 11) {a1 : Int32} {a2 : Int32} {o : (Rho × Int32) ⊕ Nat} (h : fc_setWallet V L N a1 a2 = some o) : vx_Met l yX11_setWallet (.code yX11_setWallet cX11_setWallet 6 (some .int) :: gT) ({ frames := 7, cells := 3, slots := 18, locals := 294 } : Room) (va_Pc [.ref (ad 11 0), .int a1, .int a2] (zB D dA A n (cx D dA A V L N ad xs))) (va_Qi (fun r (w9 : Rho × Int32) => r = w9.2 ∧ o = .inl w9 ∧ True) (fun (w9 : Rho × Int32) t => cx D dA A w9.1 L N ad xs t.heap) A) (vx_X (fun (u : Nat) => o = .inr u) (fun E u t => E = exn u ∧ cx D dA A V L N ad xs t.heap) A) 3 18 A :=
  zx_met (by decide) hA hst (Nat.le_of_ble_eq_true rfl) rfl rfl (fun p e s m below meth c X hml hr hnil => bc_setWallet X hml hr hnil ⟨by omega, by omega⟩ h11 h)
-- MeshBiller.top(II)I
def fc_top (V : Rho) (L : Lst) (N : Cnt) (a1 : Int32) (a2 : Int32) : Option ((Rho × Int32) ⊕ Nat) := (fc_walletAt V L N a1).bind fun o1 => Sum.elim (fun u2 => (fc_isOutside V L N a2 1 1000000).bind fun o4 => (if o4 = 0 then (some (cs V 182 u2.toNatClampNeg ((V 182 u2.toNatClampNeg) + a2))).bind fun V5 => some (.inl (V5, (V5 182 u2.toNatClampNeg)))
  else some (.inr 2))) (fun e9 => some (.inr e9)) o1
set_option maxRecDepth 100000 in
set_option maxHeartbeats 4000000 in
theorem bc_top {p : Program} {l : Launch} {e : Env} {s : State} {m : MethodId} {args : Array Value} {below : List Frame} {meth : Method} {c : Code} {D : va_G} {dA : Nat → ClassId} {A : Nat → Prop} {xs : va_W} {o : (Rho × Int32) ⊕ Nat} {L : Lst} {N : Cnt} {ad : Adr} (X : zc p l s m args meth c cX11_top RX11 D dA A) (hml : c.maxLocals = 4) (hr : meth.sig.returnType = (some .int)) (hnil : ∀ x ∈ c.exceptionTable.toList, False) {cells slots : Nat} (hcs : cells + 2 ≤ 2 ∧ slots + 12 ≤ 12) {V : Rho} (h11 : 0 < N 11) {a1 : Int32} {a2 : Int32} (h : fc_top V L N a1 a2 = some o) : zz p l e ({ frames := 7, cells := 2, slots := 12, locals := 294 } : Room) s m args below meth c A (cx D dA A V L N ad xs) cells slots (vx_MQ below (va_Qi (fun r (w9 : Rho × Int32) => r = w9.2 ∧ o = .inl w9 ∧ True) (fun (w9 : Rho × Int32) t => cx D dA A w9.1 L N ad xs t.heap) A) (vx_X (fun (u : Nat) => o = .inr u) (fun E u t => E = exn u ∧ cx D dA A V L N ad xs t.heap) A) args s 2 12 A) 0 [(0, .ref (ad 11 0)), (1, .int a1), (2, .int a2)] [] [] := by
  obtain ⟨hcs1, hcs2⟩ := hcs
  unfold fc_top at h
  refine z_aload_n X dX11_top_0 rfl rfl ?_
  refine z_iload_n X dX11_top_1 rfl rfl ?_
  obtain ⟨o1, co1, h⟩ := zb2 h
  refine z_xVq (As := [.int a1]) (rest := []) (nA := 1) (mc := 1) (ms := 6) (rm := ({ frames := 6, cells := 1, slots := 6, locals := 252 } : Room)) (S := Int32) (r0 := fun u => some (ad 9 u.toNatClampNeg)) (pu := fun u => o1 = .inl u ∧ vp_in u (N 9)) (G1 := fun u => cx D dA A V L N ad xs) X hnil (cc_walletAt l X.2.2.2.2.2.2.2.2 X.2.2.2.2.2.2.1 h11 co1) g_491 g_493 gs_7 g_1 g_494 hd_yX11_walletAt ⟨rfl, rfl, Nat.le_of_ble_eq_true rfl, Nat.le_of_ble_eq_true rfl⟩ rfl (fun _ hG => cx_recv X (k := 11) (n := 9) rfl rfl h11 hG)  rfl (Nat.le_of_ble_eq_true rfl) dX11_top_2 ⟨by show _ ≤ 2; omega, by show _ ≤ 12; omega⟩ ⟨by omega, by omega⟩ (fun u hu t hG hF => ?_) (fun u2 hu => ?_)
  · rw [hu] at h
    obtain rfl := Option.some.inj h
    exact ⟨u, rfl, ⟨rfl, hG⟩, hF⟩
  · rw [hu.1] at h
    have p3 := hu.2
    simp only [Sum.elim_inl] at h
    refine z_astore_n (lo' := [(3, .ref (ad 9 u2.toNatClampNeg)), (0, .ref (ad 11 0)), (1, .int a1), (2, .int a2)]) X dX11_top_5 rfl (by rw [hml]; decide) rfl rfl ?_
    refine z_iload_n X dX11_top_6 rfl rfl ?_
    refine z_iconst (v := 1) X dX11_top_7 (by decide) ?_
    refine z_ldc X g_482 dX11_top_8 ?_
    obtain ⟨o4, co4, h⟩ := zb2 h
    refine z_callSi (As := [.int a2, .int 1, .int 1000000]) (rest := []) (nA := 3) (mc := 0) (ms := 0) (rm := ({ frames := 1, cells := 0, slots := 0, locals := 42 } : Room)) (r0 := o4) (pu := fun (_ : Unit) => True) (G1 := fun _ => cx D dA A V L N ad xs) X (cc_isOutside l X.2.2.2.2.2.2.2.2 X.2.2.2.2.2.2.1 h11 co4) g_394 g_395 g_1 g_396 hd_yX11_isOutside ⟨rfl, rfl, Nat.le_of_ble_eq_true rfl, Nat.le_of_ble_eq_true rfl⟩ rfl rfl (Nat.le_of_ble_eq_true rfl) dX11_top_10 ⟨by show _ ≤ 2; omega, by show _ ≤ 12; omega⟩ (fun _ _ => ?_)
    refine z_if_eq (tgt := 26) X dX11_top_13 (by decide) (fun q => ?_) (fun q => ?_)
    · have h := zp q h
      refine z_aload_n X dX11_top_26 rfl rfl ?_
      refine z_dup X dX11_top_27 rfl ?_
      refine c_get X 9 2 (v := .int (V 182 u2.toNatClampNeg)) rx9_ws rfl rfl rfl (vp_lt p3) g_226 rfl dX11_top_28 ?_
      refine z_iload_n X dX11_top_31 rfl rfl ?_
      refine z_iadd X dX11_top_32 ?_
      obtain ⟨V5, eV5, h⟩ := zb h
      refine c_put X 9 2 (x := ((V 182 u2.toNatClampNeg) + a2)) (v := .int ((V 182 u2.toNatClampNeg) + a2)) (ty := .int) rx9_ws rfl tyX9_ok nmX9 rfl rfl (vp_lt p3) rfl g_226 rfl trivial rfl rfl rfl eV5 dX11_top_33 ?_
      refine z_aload_n X dX11_top_36 rfl rfl ?_
      refine c_get X 9 2 (v := .int (V5 182 u2.toNatClampNeg)) rx9_ws rfl rfl rfl (vp_lt p3) g_226 rfl dX11_top_37 ?_
      obtain rfl := Option.some.inj h
      refine zx_ret ?_
      refine zz.widen (k := 2) (n := 12) (by omega) (by omega) ?_
      exact z_iret X hr rfl (fun t hG hF _ => ⟨⟨_, _, rfl, ⟨rfl, ⟨rfl, trivial⟩⟩, hG⟩, hF⟩) dX11_top_40
    · have h := zn q h
      obtain rfl := Option.some.inj h
      exact z_throwS (k := 2) (ik := 71) (is := 148) (ic := 75) (text := "amount is out of range") X hnil cx_grow (by decide) g_397 g_20 hat_2 (by decide) dX11_top_16 dX11_top_19 dX11_top_20 dX11_top_22 dX11_top_25 ⟨Nat.le_of_ble_eq_true rfl, Nat.le_of_ble_eq_true rfl, by show _ ≤ 2; omega, by show _ ≤ 12; omega⟩ (fun t hG hF => ⟨2, rfl, ⟨rfl, hG⟩, hF⟩) (by omega) (by omega)
theorem cc_top (l : Launch) {D : va_G} {dA : Nat → ClassId} {A : Nat → Prop} {n : Nat} (hst : l.stackTraces = false) (hA : ∀ q, n ≤ q → A q) {V : Rho} {L : Lst} {N : Cnt} {ad : Adr} {xs : va_W} (h11 : 0 < N 11) {a1 : Int32} {a2 : Int32} {o : (Rho × Int32) ⊕ Nat} (h : fc_top V L N a1 a2 = some o) : vx_Met l yX11_top (.code yX11_top cX11_top 4 (some .int) :: gT) ({ frames := 7, cells := 2, slots := 12, locals := 294 } : Room) (va_Pc [.ref (ad 11 0), .int a1, .int a2] (zB D dA A n (cx D dA A V L N ad xs))) (va_Qi (fun r (w9 : Rho × Int32) => r = w9.2 ∧ o = .inl w9 ∧ True) (fun (w9 : Rho × Int32) t => cx D dA A w9.1 L N ad xs t.heap) A) (vx_X (fun (u : Nat) => o = .inr u) (fun E u t => E = exn u ∧ cx D dA A V L N ad xs t.heap) A) 2 12 A :=
  zx_met (by decide) hA hst (Nat.le_of_ble_eq_true rfl) rfl rfl (fun p e s m below meth c X hml hr hnil => bc_top X hml hr hnil ⟨by omega, by omega⟩ h11 h)
-- MeshBiller.give(III)I
def fc_give (V : Rho) (L : Lst) (N : Cnt) (a1 : Int32) (a2 : Int32) (a3 : Int32) : Option ((Rho × Int32) ⊕ Nat) := (fc_walletAt V L N a1).bind fun o1 => Sum.elim (fun u2 => (fc_walletAt V L N a2).bind fun o4 => Sum.elim (fun u5 => (if a1 = a2 then some (.inr 2)
  else (fc_isOutside V L N a3 1 1000000).bind fun o7 => (if o7 = 0 then (if a3 ≤ (V 182 u2.toNatClampNeg) then (some (cs V 182 u2.toNatClampNeg ((V 182 u2.toNatClampNeg) - a3))).bind fun V8 => (some (cs V8 182 u5.toNatClampNeg ((V8 182 u5.toNatClampNeg) + a3))).bind fun V9 => some (.inl (V9, (V9 182 u2.toNatClampNeg)))
  else some (.inr 3))
  else some (.inr 2)))) (fun e9 => some (.inr e9)) o4) (fun e9 => some (.inr e9)) o1
set_option maxRecDepth 100000 in
set_option maxHeartbeats 4000000 in
theorem bc_give {p : Program} {l : Launch} {e : Env} {s : State} {m : MethodId} {args : Array Value} {below : List Frame} {meth : Method} {c : Code} {D : va_G} {dA : Nat → ClassId} {A : Nat → Prop} {xs : va_W} {o : (Rho × Int32) ⊕ Nat} {L : Lst} {N : Cnt} {ad : Adr} (X : zc p l s m args meth c cX11_give RX11 D dA A) (hml : c.maxLocals = 6) (hr : meth.sig.returnType = (some .int)) (hnil : ∀ x ∈ c.exceptionTable.toList, False) {cells slots : Nat} (hcs : cells + 3 ≤ 3 ∧ slots + 18 ≤ 18) {V : Rho} (h11 : 0 < N 11) {a1 : Int32} {a2 : Int32} {a3 : Int32} (h : fc_give V L N a1 a2 a3 = some o) : zz p l e ({ frames := 7, cells := 3, slots := 18, locals := 294 } : Room) s m args below meth c A (cx D dA A V L N ad xs) cells slots (vx_MQ below (va_Qi (fun r (w9 : Rho × Int32) => r = w9.2 ∧ o = .inl w9 ∧ True) (fun (w9 : Rho × Int32) t => cx D dA A w9.1 L N ad xs t.heap) A) (vx_X (fun (u : Nat) => o = .inr u) (fun E u t => E = exn u ∧ cx D dA A V L N ad xs t.heap) A) args s 3 18 A) 0 [(0, .ref (ad 11 0)), (1, .int a1), (2, .int a2), (3, .int a3)] [] [] := by
  obtain ⟨hcs1, hcs2⟩ := hcs
  unfold fc_give at h
  refine z_aload_n X dX11_give_0 rfl rfl ?_
  refine z_iload_n X dX11_give_1 rfl rfl ?_
  obtain ⟨o1, co1, h⟩ := zb2 h
  refine z_xVq (As := [.int a1]) (rest := []) (nA := 1) (mc := 1) (ms := 6) (rm := ({ frames := 6, cells := 1, slots := 6, locals := 252 } : Room)) (S := Int32) (r0 := fun u => some (ad 9 u.toNatClampNeg)) (pu := fun u => o1 = .inl u ∧ vp_in u (N 9)) (G1 := fun u => cx D dA A V L N ad xs) X hnil (cc_walletAt l X.2.2.2.2.2.2.2.2 X.2.2.2.2.2.2.1 h11 co1) g_491 g_493 gs_7 g_1 g_494 hd_yX11_walletAt ⟨rfl, rfl, Nat.le_of_ble_eq_true rfl, Nat.le_of_ble_eq_true rfl⟩ rfl (fun _ hG => cx_recv X (k := 11) (n := 9) rfl rfl h11 hG)  rfl (Nat.le_of_ble_eq_true rfl) dX11_give_2 ⟨by show _ ≤ 3; omega, by show _ ≤ 18; omega⟩ ⟨by omega, by omega⟩ (fun u hu t hG hF => ?_) (fun u2 hu => ?_)
  · rw [hu] at h
    obtain rfl := Option.some.inj h
    exact ⟨u, rfl, ⟨rfl, hG⟩, hF⟩
  · rw [hu.1] at h
    have p3 := hu.2
    simp only [Sum.elim_inl] at h
    refine z_astore (lo' := [(4, .ref (ad 9 u2.toNatClampNeg)), (0, .ref (ad 11 0)), (1, .int a1), (2, .int a2), (3, .int a3)]) X dX11_give_5 (by rw [hml]; decide) rfl rfl ?_
    refine z_aload_n X dX11_give_7 rfl rfl ?_
    refine z_iload_n X dX11_give_8 rfl rfl ?_
    obtain ⟨o4, co4, h⟩ := zb2 h
    refine z_xVq (As := [.int a2]) (rest := []) (nA := 1) (mc := 1) (ms := 6) (rm := ({ frames := 6, cells := 1, slots := 6, locals := 252 } : Room)) (S := Int32) (r0 := fun u => some (ad 9 u.toNatClampNeg)) (pu := fun u => o4 = .inl u ∧ vp_in u (N 9)) (G1 := fun u => cx D dA A V L N ad xs) X hnil (cc_walletAt l X.2.2.2.2.2.2.2.2 X.2.2.2.2.2.2.1 h11 co4) g_491 g_493 gs_7 g_1 g_494 hd_yX11_walletAt ⟨rfl, rfl, Nat.le_of_ble_eq_true rfl, Nat.le_of_ble_eq_true rfl⟩ rfl (fun _ hG => cx_recv X (k := 11) (n := 9) rfl rfl h11 hG)  rfl (Nat.le_of_ble_eq_true rfl) dX11_give_9 ⟨by show _ ≤ 3; omega, by show _ ≤ 18; omega⟩ ⟨by omega, by omega⟩ (fun u hu t hG hF => ?_) (fun u5 hu => ?_)
    · rw [hu] at h
      obtain rfl := Option.some.inj h
      exact ⟨u, rfl, ⟨rfl, hG⟩, hF⟩
    · rw [hu.1] at h
      have p6 := hu.2
      simp only [Sum.elim_inl] at h
      refine z_astore (lo' := [(5, .ref (ad 9 u5.toNatClampNeg)), (4, .ref (ad 9 u2.toNatClampNeg)), (0, .ref (ad 11 0)), (1, .int a1), (2, .int a2), (3, .int a3)]) X dX11_give_12 (by rw [hml]; decide) rfl rfl ?_
      refine z_iload_n X dX11_give_14 rfl rfl ?_
      refine z_iload_n X dX11_give_15 rfl rfl ?_
      refine z_icmp_eq (tgt := 29) X dX11_give_16 (by decide) (fun q => ?_) (fun q => ?_)
      · have h := zp q h
        obtain rfl := Option.some.inj h
        exact z_throwS (k := 2) (ik := 71) (is := 153) (ic := 75) (text := "both wallets are the same, or amount is out of range") X hnil cx_grow (by decide) g_397 g_20 hat_2 (by decide) dX11_give_29 dX11_give_32 dX11_give_33 dX11_give_35 dX11_give_38 ⟨Nat.le_of_ble_eq_true rfl, Nat.le_of_ble_eq_true rfl, by show _ ≤ 3; omega, by show _ ≤ 18; omega⟩ (fun t hG hF => ⟨2, rfl, ⟨rfl, hG⟩, hF⟩) (by omega) (by omega)
      · have h := zn q h
        refine z_iload_n X dX11_give_19 rfl rfl ?_
        refine z_iconst (v := 1) X dX11_give_20 (by decide) ?_
        refine z_ldc X g_482 dX11_give_21 ?_
        obtain ⟨o7, co7, h⟩ := zb2 h
        refine z_callSi (As := [.int a3, .int 1, .int 1000000]) (rest := []) (nA := 3) (mc := 0) (ms := 0) (rm := ({ frames := 1, cells := 0, slots := 0, locals := 42 } : Room)) (r0 := o7) (pu := fun (_ : Unit) => True) (G1 := fun _ => cx D dA A V L N ad xs) X (cc_isOutside l X.2.2.2.2.2.2.2.2 X.2.2.2.2.2.2.1 h11 co7) g_394 g_395 g_1 g_396 hd_yX11_isOutside ⟨rfl, rfl, Nat.le_of_ble_eq_true rfl, Nat.le_of_ble_eq_true rfl⟩ rfl rfl (Nat.le_of_ble_eq_true rfl) dX11_give_23 ⟨by show _ ≤ 3; omega, by show _ ≤ 18; omega⟩ (fun _ _ => ?_)
        refine z_if_eq (tgt := 39) X dX11_give_26 (by decide) (fun q => ?_) (fun q => ?_)
        · have h := zp q h
          refine z_aload X dX11_give_39 rfl ?_
          refine c_get X 9 2 (v := .int (V 182 u2.toNatClampNeg)) rx9_ws rfl rfl rfl (vp_lt p3) g_226 rfl dX11_give_41 ?_
          refine z_iload_n X dX11_give_44 rfl rfl ?_
          refine z_icmp_ge (tgt := 58) X dX11_give_45 (by decide) (fun q => ?_) (fun q => ?_)
          · have h := zp q h
            refine z_aload X dX11_give_58 rfl ?_
            refine z_dup X dX11_give_60 rfl ?_
            refine c_get X 9 2 (v := .int (V 182 u2.toNatClampNeg)) rx9_ws rfl rfl rfl (vp_lt p3) g_226 rfl dX11_give_61 ?_
            refine z_iload_n X dX11_give_64 rfl rfl ?_
            refine z_isub X dX11_give_65 ?_
            obtain ⟨V8, eV8, h⟩ := zb h
            refine c_put X 9 2 (x := ((V 182 u2.toNatClampNeg) - a3)) (v := .int ((V 182 u2.toNatClampNeg) - a3)) (ty := .int) rx9_ws rfl tyX9_ok nmX9 rfl rfl (vp_lt p3) rfl g_226 rfl trivial rfl rfl rfl eV8 dX11_give_66 ?_
            refine z_aload X dX11_give_69 rfl ?_
            refine z_dup X dX11_give_71 rfl ?_
            refine c_get X 9 2 (v := .int (V8 182 u5.toNatClampNeg)) rx9_ws rfl rfl rfl (vp_lt p6) g_226 rfl dX11_give_72 ?_
            refine z_iload_n X dX11_give_75 rfl rfl ?_
            refine z_iadd X dX11_give_76 ?_
            obtain ⟨V9, eV9, h⟩ := zb h
            refine c_put X 9 2 (x := ((V8 182 u5.toNatClampNeg) + a3)) (v := .int ((V8 182 u5.toNatClampNeg) + a3)) (ty := .int) rx9_ws rfl tyX9_ok nmX9 rfl rfl (vp_lt p6) rfl g_226 rfl trivial rfl rfl rfl eV9 dX11_give_77 ?_
            refine z_aload X dX11_give_80 rfl ?_
            refine c_get X 9 2 (v := .int (V9 182 u2.toNatClampNeg)) rx9_ws rfl rfl rfl (vp_lt p3) g_226 rfl dX11_give_82 ?_
            obtain rfl := Option.some.inj h
            refine zx_ret ?_
            refine zz.widen (k := 3) (n := 18) (by omega) (by omega) ?_
            exact z_iret X hr rfl (fun t hG hF _ => ⟨⟨_, _, rfl, ⟨rfl, ⟨rfl, trivial⟩⟩, hG⟩, hF⟩) dX11_give_85
          · have h := zn q h
            obtain rfl := Option.some.inj h
            exact z_throwS (k := 3) (ik := 82) (is := 155) (ic := 86) (text := "too little free money") X hnil cx_grow (by decide) g_417 g_21 hat_3 (by decide) dX11_give_48 dX11_give_51 dX11_give_52 dX11_give_54 dX11_give_57 ⟨Nat.le_of_ble_eq_true rfl, Nat.le_of_ble_eq_true rfl, by show _ ≤ 3; omega, by show _ ≤ 18; omega⟩ (fun t hG hF => ⟨3, rfl, ⟨rfl, hG⟩, hF⟩) (by omega) (by omega)
        · have h := zn q h
          obtain rfl := Option.some.inj h
          exact z_throwS (k := 2) (ik := 71) (is := 153) (ic := 75) (text := "both wallets are the same, or amount is out of range") X hnil cx_grow (by decide) g_397 g_20 hat_2 (by decide) dX11_give_29 dX11_give_32 dX11_give_33 dX11_give_35 dX11_give_38 ⟨Nat.le_of_ble_eq_true rfl, Nat.le_of_ble_eq_true rfl, by show _ ≤ 3; omega, by show _ ≤ 18; omega⟩ (fun t hG hF => ⟨2, rfl, ⟨rfl, hG⟩, hF⟩) (by omega) (by omega)
theorem cc_give (l : Launch) {D : va_G} {dA : Nat → ClassId} {A : Nat → Prop} {n : Nat} (hst : l.stackTraces = false) (hA : ∀ q, n ≤ q → A q) {V : Rho} {L : Lst} {N : Cnt} {ad : Adr} {xs : va_W} (h11 : 0 < N 11) {a1 : Int32} {a2 : Int32} {a3 : Int32} {o : (Rho × Int32) ⊕ Nat} (h : fc_give V L N a1 a2 a3 = some o) : vx_Met l yX11_give (.code yX11_give cX11_give 6 (some .int) :: gT) ({ frames := 7, cells := 3, slots := 18, locals := 294 } : Room) (va_Pc [.ref (ad 11 0), .int a1, .int a2, .int a3] (zB D dA A n (cx D dA A V L N ad xs))) (va_Qi (fun r (w9 : Rho × Int32) => r = w9.2 ∧ o = .inl w9 ∧ True) (fun (w9 : Rho × Int32) t => cx D dA A w9.1 L N ad xs t.heap) A) (vx_X (fun (u : Nat) => o = .inr u) (fun E u t => E = exn u ∧ cx D dA A V L N ad xs t.heap) A) 3 18 A :=
  zx_met (by decide) hA hst (Nat.le_of_ble_eq_true rfl) rfl rfl (fun p e s m below meth c X hml hr hnil => bc_give X hml hr hnil ⟨by omega, by omega⟩ h11 h)
-- MeshBiller.dayOf(I)I
def fc_dayOf (V : Rho) (L : Lst) (N : Cnt) (a1 : Int32) : Option (Int32) := some (a1 / 2400)
set_option maxRecDepth 100000 in
set_option maxHeartbeats 4000000 in
theorem bc_dayOf {p : Program} {l : Launch} {e : Env} {s : State} {m : MethodId} {args : Array Value} {below : List Frame} {meth : Method} {c : Code} {D : va_G} {dA : Nat → ClassId} {A : Nat → Prop} {xs : va_W} {o : Int32} {V : Rho} {L : Lst} {N : Cnt} {ad : Adr} (X : zc p l s m args meth c cX11_dayOf RX11 D dA A) (hml : c.maxLocals = 1) (hr : meth.sig.returnType = (some .int)) (h11 : 0 < N 11) {a1 : Int32} (h : fc_dayOf V L N a1 = some o) : zz p l e ({ frames := 1, cells := 0, slots := 0, locals := 42 } : Room) s m args below meth c A (cx D dA A V L N ad xs) 0 0 (MQ below (va_Qi (fun r (w9 : Unit) => r = o ∧ True) (fun (w9 : Unit) t => cx D dA A V L N ad xs t.heap) A) args s 0 0 A) 0 [(0, .int a1)] [] [] := by
  unfold fc_dayOf at h
  refine z_iload_n X dX11_dayOf_0 rfl rfl ?_
  refine z_sipush (v := 2400) X dX11_dayOf_1 (by decide) ?_
  refine z_idiv X dX11_dayOf_4 (by decide) ?_
  obtain rfl := Option.some.inj h
  exact z_iret X hr rfl (fun t hG hF _ => ⟨⟨_, (), rfl, ⟨rfl, trivial⟩, hG⟩, hF⟩) dX11_dayOf_5
theorem cc_dayOf (l : Launch) {D : va_G} {dA : Nat → ClassId} {A : Nat → Prop} {n : Nat} (hst : l.stackTraces = false) (hA : ∀ q, n ≤ q → A q) {V : Rho} {L : Lst} {N : Cnt} {ad : Adr} {xs : va_W} (h11 : 0 < N 11) {a1 : Int32} {o : Int32} (h : fc_dayOf V L N a1 = some o) : Met l yX11_dayOf (.code yX11_dayOf cX11_dayOf 1 (some .int) :: gT) ({ frames := 1, cells := 0, slots := 0, locals := 42 } : Room) (va_Pc [.int a1] (zB D dA A n (cx D dA A V L N ad xs))) (va_Qi (fun r (w9 : Unit) => r = o ∧ True) (fun (w9 : Unit) t => cx D dA A V L N ad xs t.heap) A) 0 0 A :=
  z_met (by decide) hA hst (Nat.le_of_ble_eq_true rfl) rfl rfl (fun p e s m below meth c X hml hr _ => bc_dayOf X hml hr h11 h)
-- MeshBiller$Bundle.isUsedAhead(LMeshBiller$Bundle;)Z
def fc_Bundle_isUsedAhead (V : Rho) (L : Lst) (N : Cnt) (a0 : Int32) (a1 : Int32) : Option (Int32) := (if (V 2 a0.toNatClampNeg) < (V 2 a1.toNatClampNeg) then some 1
  else (if (V 2 a0.toNatClampNeg) = (V 2 a1.toNatClampNeg) then (if (V 1 a1.toNatClampNeg) ≤ (V 1 a0.toNatClampNeg) then some 0
  else some 1)
  else some 0))
set_option maxRecDepth 100000 in
set_option maxHeartbeats 4000000 in
theorem bc_Bundle_isUsedAhead {p : Program} {l : Launch} {e : Env} {s : State} {m : MethodId} {args : Array Value} {below : List Frame} {meth : Method} {c : Code} {D : va_G} {dA : Nat → ClassId} {A : Nat → Prop} {xs : va_W} {o : Int32} {V : Rho} {L : Lst} {N : Cnt} {ad : Adr} (X : zc p l s m args meth c cX0_isUsedAhead RX0 D dA A) (hml : c.maxLocals = 2) (hr : meth.sig.returnType = (some .boolean)) (h11 : 0 < N 11) {a0 : Int32} {a1 : Int32} (va0 : vp_in a0 (N 0)) (va1 : vp_in a1 (N 0)) (h : fc_Bundle_isUsedAhead V L N a0 a1 = some o) : zz p l e ({ frames := 1, cells := 0, slots := 0, locals := 42 } : Room) s m args below meth c A (cx D dA A V L N ad xs) 0 0 (MQ below (va_Qi (fun r (w9 : Unit) => r = o ∧ True) (fun (w9 : Unit) t => cx D dA A V L N ad xs t.heap) A) args s 0 0 A) 0 [(0, .ref (ad 0 a0.toNatClampNeg)), (1, .ref (ad 0 a1.toNatClampNeg))] [] [] := by
  unfold fc_Bundle_isUsedAhead at h
  refine z_aload_n X dX0_isUsedAhead_0 rfl rfl ?_
  refine c_get X 0 2 (v := .int (V 2 a0.toNatClampNeg)) rx0_ws rfl rfl rfl (vp_lt va0) g_534 rfl dX0_isUsedAhead_1 ?_
  refine z_aload_n X dX0_isUsedAhead_4 rfl rfl ?_
  refine c_get X 0 2 (v := .int (V 2 a1.toNatClampNeg)) rx0_ws rfl rfl rfl (vp_lt va1) g_534 rfl dX0_isUsedAhead_5 ?_
  refine z_icmp_lt (tgt := 33) X dX0_isUsedAhead_8 (by decide) (fun q => ?_) (fun q => ?_)
  · have h := zp q h
    refine z_iconst (v := 1) X dX0_isUsedAhead_33 (by decide) ?_
    refine z_goto (tgt := 38) X dX0_isUsedAhead_34 (by decide) ?_
    obtain rfl := Option.some.inj h
    exact z_iret X hr rfl (fun t hG hF _ => ⟨⟨_, (), rfl, ⟨rfl, trivial⟩, hG⟩, hF⟩) dX0_isUsedAhead_38
  · have h := zn q h
    refine z_aload_n X dX0_isUsedAhead_11 rfl rfl ?_
    refine c_get X 0 2 (v := .int (V 2 a0.toNatClampNeg)) rx0_ws rfl rfl rfl (vp_lt va0) g_534 rfl dX0_isUsedAhead_12 ?_
    refine z_aload_n X dX0_isUsedAhead_15 rfl rfl ?_
    refine c_get X 0 2 (v := .int (V 2 a1.toNatClampNeg)) rx0_ws rfl rfl rfl (vp_lt va1) g_534 rfl dX0_isUsedAhead_16 ?_
    refine z_icmp_ne (tgt := 37) X dX0_isUsedAhead_19 (by decide) (fun q => ?_) (fun q => ?_)
    · have h := zp q h
      refine z_aload_n X dX0_isUsedAhead_22 rfl rfl ?_
      refine c_get X 0 1 (v := .int (V 1 a0.toNatClampNeg)) rx0_ws rfl rfl rfl (vp_lt va0) g_533 rfl dX0_isUsedAhead_23 ?_
      refine z_aload_n X dX0_isUsedAhead_26 rfl rfl ?_
      refine c_get X 0 1 (v := .int (V 1 a1.toNatClampNeg)) rx0_ws rfl rfl rfl (vp_lt va1) g_533 rfl dX0_isUsedAhead_27 ?_
      refine z_icmp_ge (tgt := 37) X dX0_isUsedAhead_30 (by decide) (fun q => ?_) (fun q => ?_)
      · have h := zp q h
        refine z_iconst (v := 0) X dX0_isUsedAhead_37 (by decide) ?_
        obtain rfl := Option.some.inj h
        exact z_iret X hr rfl (fun t hG hF _ => ⟨⟨_, (), rfl, ⟨rfl, trivial⟩, hG⟩, hF⟩) dX0_isUsedAhead_38
      · have h := zn q h
        refine z_iconst (v := 1) X dX0_isUsedAhead_33 (by decide) ?_
        refine z_goto (tgt := 38) X dX0_isUsedAhead_34 (by decide) ?_
        obtain rfl := Option.some.inj h
        exact z_iret X hr rfl (fun t hG hF _ => ⟨⟨_, (), rfl, ⟨rfl, trivial⟩, hG⟩, hF⟩) dX0_isUsedAhead_38
    · have h := zn q h
      refine z_iconst (v := 0) X dX0_isUsedAhead_37 (by decide) ?_
      obtain rfl := Option.some.inj h
      exact z_iret X hr rfl (fun t hG hF _ => ⟨⟨_, (), rfl, ⟨rfl, trivial⟩, hG⟩, hF⟩) dX0_isUsedAhead_38
theorem cc_Bundle_isUsedAhead (l : Launch) {D : va_G} {dA : Nat → ClassId} {A : Nat → Prop} {n : Nat} (hst : l.stackTraces = false) (hA : ∀ q, n ≤ q → A q) {V : Rho} {L : Lst} {N : Cnt} {ad : Adr} {xs : va_W} (h11 : 0 < N 11) {a0 : Int32} {a1 : Int32} (va0 : vp_in a0 (N 0)) (va1 : vp_in a1 (N 0)) {o : Int32} (h : fc_Bundle_isUsedAhead V L N a0 a1 = some o) : Met l yX0_isUsedAhead (.code yX0_isUsedAhead cX0_isUsedAhead 2 (some .boolean) :: gT) ({ frames := 1, cells := 0, slots := 0, locals := 42 } : Room) (va_Pc [.ref (ad 0 a0.toNatClampNeg), .ref (ad 0 a1.toNatClampNeg)] (zB D dA A n (cx D dA A V L N ad xs))) (va_Qi (fun r (w9 : Unit) => r = o ∧ True) (fun (w9 : Unit) t => cx D dA A V L N ad xs t.heap) A) 0 0 A :=
  z_met (by decide) hA hst (Nat.le_of_ble_eq_true rfl) rfl rfl (fun p e s m below meth c X hml hr _ => bc_Bundle_isUsedAhead X hml hr h11 va0 va1 h)
-- MeshBiller.free(I)I
def fc_free (V : Rho) (L : Lst) (N : Cnt) (a1 : Int32) : Option ((Int32) ⊕ Nat) := (fc_walletAt V L N a1).bind fun o1 => Sum.elim (fun u2 => some (.inl (V 182 u2.toNatClampNeg))) (fun e9 => some (.inr e9)) o1
set_option maxRecDepth 100000 in
set_option maxHeartbeats 4000000 in
theorem bc_free {p : Program} {l : Launch} {e : Env} {s : State} {m : MethodId} {args : Array Value} {below : List Frame} {meth : Method} {c : Code} {D : va_G} {dA : Nat → ClassId} {A : Nat → Prop} {xs : va_W} {o : (Int32) ⊕ Nat} {V : Rho} {L : Lst} {N : Cnt} {ad : Adr} (X : zc p l s m args meth c cX11_free RX11 D dA A) (hml : c.maxLocals = 2) (hr : meth.sig.returnType = (some .int)) (hnil : ∀ x ∈ c.exceptionTable.toList, False) {cells slots : Nat} (hcs : cells + 1 ≤ 1 ∧ slots + 6 ≤ 6) (h11 : 0 < N 11) {a1 : Int32} (h : fc_free V L N a1 = some o) : zz p l e ({ frames := 7, cells := 1, slots := 6, locals := 294 } : Room) s m args below meth c A (cx D dA A V L N ad xs) cells slots (vx_MQ below (va_Qi (fun r (w9 : Int32) => r = w9 ∧ o = .inl w9 ∧ True) (fun (w9 : Int32) t => cx D dA A V L N ad xs t.heap) A) (vx_X (fun (u : Nat) => o = .inr u) (fun E u t => E = exn u ∧ cx D dA A V L N ad xs t.heap) A) args s 1 6 A) 0 [(0, .ref (ad 11 0)), (1, .int a1)] [] [] := by
  obtain ⟨hcs1, hcs2⟩ := hcs
  unfold fc_free at h
  refine z_aload_n X dX11_free_0 rfl rfl ?_
  refine z_iload_n X dX11_free_1 rfl rfl ?_
  obtain ⟨o1, co1, h⟩ := zb2 h
  refine z_xVq (As := [.int a1]) (rest := []) (nA := 1) (mc := 1) (ms := 6) (rm := ({ frames := 6, cells := 1, slots := 6, locals := 252 } : Room)) (S := Int32) (r0 := fun u => some (ad 9 u.toNatClampNeg)) (pu := fun u => o1 = .inl u ∧ vp_in u (N 9)) (G1 := fun u => cx D dA A V L N ad xs) X hnil (cc_walletAt l X.2.2.2.2.2.2.2.2 X.2.2.2.2.2.2.1 h11 co1) g_491 g_493 gs_7 g_1 g_494 hd_yX11_walletAt ⟨rfl, rfl, Nat.le_of_ble_eq_true rfl, Nat.le_of_ble_eq_true rfl⟩ rfl (fun _ hG => cx_recv X (k := 11) (n := 9) rfl rfl h11 hG)  rfl (Nat.le_of_ble_eq_true rfl) dX11_free_2 ⟨by show _ ≤ 1; omega, by show _ ≤ 6; omega⟩ ⟨by omega, by omega⟩ (fun u hu t hG hF => ?_) (fun u2 hu => ?_)
  · rw [hu] at h
    obtain rfl := Option.some.inj h
    exact ⟨u, rfl, ⟨rfl, hG⟩, hF⟩
  · rw [hu.1] at h
    have p3 := hu.2
    simp only [Sum.elim_inl] at h
    refine c_get X 9 2 (v := .int (V 182 u2.toNatClampNeg)) rx9_ws rfl rfl rfl (vp_lt p3) g_226 rfl dX11_free_5 ?_
    obtain rfl := Option.some.inj h
    refine zx_ret ?_
    refine zz.widen (k := 1) (n := 6) (by omega) (by omega) ?_
    exact z_iret X hr rfl (fun t hG hF _ => ⟨⟨_, _, rfl, ⟨rfl, ⟨rfl, trivial⟩⟩, hG⟩, hF⟩) dX11_free_8
theorem cc_free (l : Launch) {D : va_G} {dA : Nat → ClassId} {A : Nat → Prop} {n : Nat} (hst : l.stackTraces = false) (hA : ∀ q, n ≤ q → A q) {V : Rho} {L : Lst} {N : Cnt} {ad : Adr} {xs : va_W} (h11 : 0 < N 11) {a1 : Int32} {o : (Int32) ⊕ Nat} (h : fc_free V L N a1 = some o) : vx_Met l yX11_free (.code yX11_free cX11_free 2 (some .int) :: gT) ({ frames := 7, cells := 1, slots := 6, locals := 294 } : Room) (va_Pc [.ref (ad 11 0), .int a1] (zB D dA A n (cx D dA A V L N ad xs))) (va_Qi (fun r (w9 : Int32) => r = w9 ∧ o = .inl w9 ∧ True) (fun (w9 : Int32) t => cx D dA A V L N ad xs t.heap) A) (vx_X (fun (u : Nat) => o = .inr u) (fun E u t => E = exn u ∧ cx D dA A V L N ad xs t.heap) A) 1 6 A :=
  zx_met (by decide) hA hst (Nat.le_of_ble_eq_true rfl) rfl rfl (fun p e s m below meth c X hml hr hnil => bc_free X hml hr hnil ⟨by omega, by omega⟩ h11 h)
-- MeshBiller$Slice.moneyLeft()I
def fc_Slice_moneyLeft (V : Rho) (L : Lst) (N : Cnt) (a0 : Int32) : Option (Int32) := (if (V 162 a0.toNatClampNeg) = -1 then some ((V 160 a0.toNatClampNeg) * (V 161 a0.toNatClampNeg))
  else some 0)
set_option maxRecDepth 100000 in
set_option maxHeartbeats 4000000 in
theorem bc_Slice_moneyLeft {p : Program} {l : Launch} {e : Env} {s : State} {m : MethodId} {args : Array Value} {below : List Frame} {meth : Method} {c : Code} {D : va_G} {dA : Nat → ClassId} {A : Nat → Prop} {xs : va_W} {o : Int32} {V : Rho} {L : Lst} {N : Cnt} {ad : Adr} (X : zc p l s m args meth c cX8_moneyLeft RX8 D dA A) (hml : c.maxLocals = 1) (hr : meth.sig.returnType = (some .int)) (h11 : 0 < N 11) {a0 : Int32} (va0 : vp_in a0 (N 8)) (h : fc_Slice_moneyLeft V L N a0 = some o) : zz p l e ({ frames := 1, cells := 0, slots := 0, locals := 42 } : Room) s m args below meth c A (cx D dA A V L N ad xs) 0 0 (MQ below (va_Qi (fun r (w9 : Unit) => r = o ∧ True) (fun (w9 : Unit) t => cx D dA A V L N ad xs t.heap) A) args s 0 0 A) 0 [(0, .ref (ad 8 a0.toNatClampNeg))] [] [] := by
  unfold fc_Slice_moneyLeft at h
  refine z_aload_n X dX8_moneyLeft_0 rfl rfl ?_
  refine c_get X 8 2 (v := va_rf (qn (ad 0) (V 162 a0.toNatClampNeg))) rx8_ws rfl rfl rfl (vp_lt va0) g_914 rfl dX8_moneyLeft_1 ?_
  refine zz.pre (fun H hG => cx_fact (k := 8) (i := a0.toNatClampNeg) (f := 2) rfl (vp_lt va0) rfl hG) (fun (p1 : (V 162 a0.toNatClampNeg) = -1 ∨ vp_in (V 162 a0.toNatClampNeg) (N 0)) => ?_)
  refine c_ifnonnull (tgt := 19) X dX8_moneyLeft_4 (by decide) (fun q => ?_) (fun q => ?_)
  · have h := zp q h
    refine z_aload_n X dX8_moneyLeft_7 rfl rfl ?_
    refine c_get X 8 0 (v := .int (V 160 a0.toNatClampNeg)) rx8_ws rfl rfl rfl (vp_lt va0) g_909 rfl dX8_moneyLeft_8 ?_
    refine z_aload_n X dX8_moneyLeft_11 rfl rfl ?_
    refine c_get X 8 1 (v := .int (V 161 a0.toNatClampNeg)) rx8_ws rfl rfl rfl (vp_lt va0) g_912 rfl dX8_moneyLeft_12 ?_
    refine z_imul X dX8_moneyLeft_15 ?_
    refine z_goto (tgt := 20) X dX8_moneyLeft_16 (by decide) ?_
    obtain rfl := Option.some.inj h
    exact z_iret X hr rfl (fun t hG hF _ => ⟨⟨_, (), rfl, ⟨rfl, trivial⟩, hG⟩, hF⟩) dX8_moneyLeft_20
  · have h := zn q h
    have p2 := p1.resolve_left q
    refine z_iconst (v := 0) X dX8_moneyLeft_19 (by decide) ?_
    obtain rfl := Option.some.inj h
    exact z_iret X hr rfl (fun t hG hF _ => ⟨⟨_, (), rfl, ⟨rfl, trivial⟩, hG⟩, hF⟩) dX8_moneyLeft_20
theorem cc_Slice_moneyLeft (l : Launch) {D : va_G} {dA : Nat → ClassId} {A : Nat → Prop} {n : Nat} (hst : l.stackTraces = false) (hA : ∀ q, n ≤ q → A q) {V : Rho} {L : Lst} {N : Cnt} {ad : Adr} {xs : va_W} (h11 : 0 < N 11) {a0 : Int32} (va0 : vp_in a0 (N 8)) {o : Int32} (h : fc_Slice_moneyLeft V L N a0 = some o) : Met l yX8_moneyLeft (.code yX8_moneyLeft cX8_moneyLeft 1 (some .int) :: gT) ({ frames := 1, cells := 0, slots := 0, locals := 42 } : Room) (va_Pc [.ref (ad 8 a0.toNatClampNeg)] (zB D dA A n (cx D dA A V L N ad xs))) (va_Qi (fun r (w9 : Unit) => r = o ∧ True) (fun (w9 : Unit) t => cx D dA A V L N ad xs t.heap) A) 0 0 A :=
  z_met (by decide) hA hst (Nat.le_of_ble_eq_true rfl) rfl rfl (fun p e s m below meth c X hml hr _ => bc_Slice_moneyLeft X hml hr h11 va0 h)
-- MeshBiller.aside(I)I
def fc_aside_70 (k22 : Rho → Lst → Cnt → Int32 → Int32 → Int32 → Int32 → Option ((Int32) ⊕ Nat)) (V : Rho) (L : Lst) (N : Cnt) (v2 : Int32) (v3 : Int32) (v5 : Int32) (v6 : Int32) : Option ((Int32) ⊕ Nat) := (some (v6 + 1)).bind fun x1 => k22 V L N v2 v3 v5 x1
set_option maxRecDepth 100000 in
set_option maxHeartbeats 4000000 in
theorem bc_aside_70 {p : Program} {l : Launch} {e : Env} {s : State} {m : MethodId} {args : Array Value} {below : List Frame} {meth : Method} {c : Code} {D : va_G} {dA : Nat → ClassId} {A : Nat → Prop} {xs : va_W} {o : (Int32) ⊕ Nat} {V : Rho} {L : Lst} {N : Cnt} {ad : Adr} (X : zc p l s m args meth c cX11_aside RX11 D dA A) (hml : c.maxLocals = 8) (hr : meth.sig.returnType = (some .int)) (hnil : ∀ x ∈ c.exceptionTable.toList, False) {cells slots : Nat} (hcs : cells + 0 ≤ 1 ∧ slots + 0 ≤ 6) {k22 : Rho → Lst → Cnt → Int32 → Int32 → Int32 → Int32 → Option ((Int32) ⊕ Nat)} (hk22 : ∀ (h11 : 0 < N 11) {v2 : Int32} {v3 : Int32} {v5 : Int32} {v6 : Int32} (fv2 : vp_in v2 (N 9)) , k22 V L N v2 v3 v5 v6 = some o → zz p l e ({ frames := 7, cells := 1, slots := 6, locals := 294 } : Room) s m args below meth c A (cx D dA A V L N ad xs) cells slots (vx_MQ below (va_Qi (fun r (w9 : Int32) => r = w9 ∧ o = .inl w9 ∧ True) (fun (w9 : Int32) t => cx D dA A V L N ad xs t.heap) A) (vx_X (fun (u : Nat) => o = .inr u) (fun E u t => E = exn u ∧ cx D dA A V L N ad xs t.heap) A) args s 1 6 A) 22 [(2, .ref (ad 9 v2.toNatClampNeg)), (3, .int v3), (4, .ref (ad 29 0)), (5, .int v5), (6, .int v6)] [] []) (h11 : 0 < N 11) {v2 : Int32} {v3 : Int32} {v5 : Int32} {v6 : Int32} (fv2 : vp_in v2 (N 9)) (h : fc_aside_70 k22 V L N v2 v3 v5 v6 = some o) : zz p l e ({ frames := 7, cells := 1, slots := 6, locals := 294 } : Room) s m args below meth c A (cx D dA A V L N ad xs) cells slots (vx_MQ below (va_Qi (fun r (w9 : Int32) => r = w9 ∧ o = .inl w9 ∧ True) (fun (w9 : Int32) t => cx D dA A V L N ad xs t.heap) A) (vx_X (fun (u : Nat) => o = .inr u) (fun E u t => E = exn u ∧ cx D dA A V L N ad xs t.heap) A) args s 1 6 A) 70 [(2, .ref (ad 9 v2.toNatClampNeg)), (3, .int v3), (4, .ref (ad 29 0)), (5, .int v5), (6, .int v6)] [] [] := by
  obtain ⟨hcs1, hcs2⟩ := hcs
  unfold fc_aside_70 at h
  obtain ⟨x1, ex1, h⟩ := zb h
  refine z_iinc (v := x1) (lo' := [(6, .int x1), (2, .ref (ad 9 v2.toNatClampNeg)), (3, .int v3), (4, .ref (ad 29 0)), (5, .int v5)]) X dX11_aside_70 rfl ex1 (by rw [hml]; decide) rfl rfl ?_
  refine z_goto (tgt := 22) X dX11_aside_73 (by decide) ?_
  refine zz.pick (lo' := [(2, .ref (ad 9 v2.toNatClampNeg)), (3, .int v3), (4, .ref (ad 29 0)), (5, .int v5), (6, .int x1)]) [2, 3, 4, 5, 6] rfl ?_
  exact hk22 h11 fv2 h
def fc_aside_22 : Nat → Rho → Lst → Cnt → Int32 → Int32 → Int32 → Int32 → Option ((Int32) ⊕ Nat)
  | 0, _, _, _, _, _, _, _ => none
  | n + 1, V, L, N, v2, v3, v5, v6 => (if v5 ≤ v6 then some (.inl v3)
  else if v6 < 0 ∨ 10 ≤ v6.toNatClampNeg then none else (if (V 104 v6.toNatClampNeg) = -1 then fc_aside_70 (fc_aside_22 n) V L N v2 v3 v5 v6
  else (if (V 83 (V 104 v6.toNatClampNeg).toNatClampNeg) = v2 then (fc_Slice_moneyLeft V L N (V 104 v6.toNatClampNeg)).bind fun o7 => (some ((v3 + o7))).bind fun x8 => fc_aside_70 (fc_aside_22 n) V L N v2 x8 v5 v6
  else fc_aside_70 (fc_aside_22 n) V L N v2 v3 v5 v6)))
set_option maxRecDepth 100000 in
set_option maxHeartbeats 4000000 in
theorem bc_aside_22 {p : Program} {l : Launch} {e : Env} {s : State} {m : MethodId} {args : Array Value} {below : List Frame} {meth : Method} {c : Code} {D : va_G} {dA : Nat → ClassId} {A : Nat → Prop} {xs : va_W} {o : (Int32) ⊕ Nat} {V : Rho} {L : Lst} {N : Cnt} {ad : Adr} (X : zc p l s m args meth c cX11_aside RX11 D dA A) (hml : c.maxLocals = 8) (hr : meth.sig.returnType = (some .int)) (hnil : ∀ x ∈ c.exceptionTable.toList, False) {cells slots : Nat} (hcs : cells + 0 ≤ 1 ∧ slots + 0 ≤ 6) : ∀ (n : Nat) (h11 : 0 < N 11) {v2 : Int32} {v3 : Int32} {v5 : Int32} {v6 : Int32} (fv2 : vp_in v2 (N 9)) , fc_aside_22 n V L N v2 v3 v5 v6 = some o → zz p l e ({ frames := 7, cells := 1, slots := 6, locals := 294 } : Room) s m args below meth c A (cx D dA A V L N ad xs) cells slots (vx_MQ below (va_Qi (fun r (w9 : Int32) => r = w9 ∧ o = .inl w9 ∧ True) (fun (w9 : Int32) t => cx D dA A V L N ad xs t.heap) A) (vx_X (fun (u : Nat) => o = .inr u) (fun E u t => E = exn u ∧ cx D dA A V L N ad xs t.heap) A) args s 1 6 A) 22 [(2, .ref (ad 9 v2.toNatClampNeg)), (3, .int v3), (4, .ref (ad 29 0)), (5, .int v5), (6, .int v6)] [] [] := by
  obtain ⟨hcs1, hcs2⟩ := hcs
  intro n
  induction n with
  | zero => intro  h11 v2 v3 v5 v6 fv2 h; exact (nomatch (show none = some o from h))
  | succ n ih =>
    intro  h11 v2 v3 v5 v6 fv2 h
    rw [fc_aside_22] at h
    refine z_iload X dX11_aside_22 rfl ?_
    refine z_iload X dX11_aside_24 rfl ?_
    refine z_icmp_ge (tgt := 76) X dX11_aside_26 (by decide) (fun q => ?_) (fun q => ?_)
    · have h := zp q h
      refine z_iload_n X dX11_aside_76 rfl rfl ?_
      obtain rfl := Option.some.inj h
      refine zx_ret ?_
      refine zz.widen (k := 1) (n := 6) (by omega) (by omega) ?_
      exact z_iret X hr rfl (fun t hG hF _ => ⟨⟨_, _, rfl, ⟨rfl, ⟨rfl, trivial⟩⟩, hG⟩, hF⟩) dX11_aside_77
    · have h := zn q h
      refine z_aload X dX11_aside_29 rfl ?_
      refine z_iload X dX11_aside_31 rfl ?_
      obtain ⟨q1, h⟩ := zg h
      refine c_aald X 29 rfl rfl rfl h11 q1 dX11_aside_33 ?_
      refine zz.pre (fun H hG => vp_of q1 (hG.2.2.2.2.2.2.2.2.1.1 h11).2.2.2.2.1) (fun (p2 : vp_in v6 (N 5)) => ?_)
      refine z_astore (lo' := [(7, .ref (ad 5 v6.toNatClampNeg)), (2, .ref (ad 9 v2.toNatClampNeg)), (3, .int v3), (4, .ref (ad 29 0)), (5, .int v5), (6, .int v6)]) X dX11_aside_34 (by rw [hml]; decide) rfl rfl ?_
      refine z_aload X dX11_aside_36 rfl ?_
      refine c_get X 5 4 (v := va_rf (qn (ad 4) (V 104 v6.toNatClampNeg))) rx5_ws rfl rfl rfl (vp_lt p2) g_254 rfl dX11_aside_38 ?_
      refine zz.pre (fun H hG => cx_fact (k := 5) (i := v6.toNatClampNeg) (f := 4) rfl (vp_lt p2) rfl hG) (fun (p3 : (V 104 v6.toNatClampNeg) = -1 ∨ vp_in (V 104 v6.toNatClampNeg) (N 4)) => ?_)
      refine c_ifnull (tgt := 70) X dX11_aside_41 (by decide) (fun q => ?_) (fun q => ?_)
      · have h := zp q h
        refine zz.pick (lo' := [(2, .ref (ad 9 v2.toNatClampNeg)), (3, .int v3), (4, .ref (ad 29 0)), (5, .int v5), (6, .int v6)]) [2, 3, 4, 5, 6] rfl ?_
        exact bc_aside_70 X hml hr hnil ⟨by omega, by omega⟩ ih h11 fv2 h
      · have h := zn q h
        have p4 := p3.resolve_left q
        refine z_aload X dX11_aside_44 rfl ?_
        refine c_get X 5 4 (v := va_rf (qn (ad 4) (V 104 v6.toNatClampNeg))) rx5_ws rfl rfl rfl (vp_lt p2) g_254 rfl dX11_aside_46 ?_
        rw [qn_ref (vp_ne p4)]
        refine c_get X 4 3 (v := .ref (ad 9 (V 83 (V 104 v6.toNatClampNeg).toNatClampNeg).toNatClampNeg)) rx4_ws rfl rfl rfl (vp_lt p4) g_933 rfl dX11_aside_49 ?_
        refine zz.pre (fun H hG => cx_fact (k := 4) (i := (V 104 v6.toNatClampNeg).toNatClampNeg) (f := 3) rfl (vp_lt p4) rfl hG) (fun (p5 : vp_in (V 83 (V 104 v6.toNatClampNeg).toNatClampNeg) (N 9)) => ?_)
        refine z_aload_n X dX11_aside_52 rfl rfl ?_
        refine c_acmp_ne (tgt := 70) X (k := 9) rfl p5 fv2 dX11_aside_53 (by decide) (fun q => ?_) (fun q => ?_)
        · have h := zp q h
          refine z_iload_n X dX11_aside_56 rfl rfl ?_
          refine z_aload X dX11_aside_57 rfl ?_
          refine c_get X 5 4 (v := va_rf (qn (ad 4) (V 104 v6.toNatClampNeg))) rx5_ws rfl rfl rfl (vp_lt p2) g_254 rfl dX11_aside_59 ?_
          rw [qn_ref (vp_ne p4)]
          refine c_get X 4 5 (v := .ref (ad 8 (V 104 v6.toNatClampNeg).toNatClampNeg)) rx4_ws rfl rfl rfl (vp_lt p4) g_936 rfl dX11_aside_62 ?_
          refine zz.pre (fun H hG => vp_mono p4 hG.2.2.2.2.2.2.2.2.1.2.1) (fun (p6 : vp_in (V 104 v6.toNatClampNeg) (N 8)) => ?_)
          obtain ⟨o7, co7, h⟩ := zb2 h
          refine z_callVi (As := []) (rest := [.int v3]) (nA := 0) (mc := 0) (ms := 0) (rm := ({ frames := 1, cells := 0, slots := 0, locals := 42 } : Room)) (r0 := o7) (pu := fun (_ : Unit) => True) (G1 := fun _ => cx D dA A V L N ad xs) X (cc_Slice_moneyLeft l X.2.2.2.2.2.2.2.2 X.2.2.2.2.2.2.1 h11 p6 co7) g_833 g_834 g_835 g_34 g_836 hd_yX8_moneyLeft ⟨rfl, rfl, Nat.le_of_ble_eq_true rfl, Nat.le_of_ble_eq_true rfl⟩ rfl (fun _ hG => cx_recv X (k := 8) (n := 3) rfl rfl (vp_lt p6) hG) rfl (Nat.le_of_ble_eq_true rfl) dX11_aside_65 ⟨by show _ ≤ 1; omega, by show _ ≤ 6; omega⟩ (fun _ _ => ?_)
          refine z_iadd X dX11_aside_68 ?_
          obtain ⟨x8, ex8, h⟩ := zb h
          rw [ex8]
          refine z_istore_n (lo' := [(3, .int x8), (7, .ref (ad 5 v6.toNatClampNeg)), (2, .ref (ad 9 v2.toNatClampNeg)), (4, .ref (ad 29 0)), (5, .int v5), (6, .int v6)]) X dX11_aside_69 rfl (by rw [hml]; decide) rfl rfl ?_
          refine zz.pick (lo' := [(2, .ref (ad 9 v2.toNatClampNeg)), (3, .int x8), (4, .ref (ad 29 0)), (5, .int v5), (6, .int v6)]) [2, 3, 4, 5, 6] rfl ?_
          exact bc_aside_70 X hml hr hnil ⟨by omega, by omega⟩ ih h11 fv2 h
        · have h := zn q h
          refine zz.pick (lo' := [(2, .ref (ad 9 v2.toNatClampNeg)), (3, .int v3), (4, .ref (ad 29 0)), (5, .int v5), (6, .int v6)]) [2, 3, 4, 5, 6] rfl ?_
          exact bc_aside_70 X hml hr hnil ⟨by omega, by omega⟩ ih h11 fv2 h
def fc_aside (V : Rho) (L : Lst) (N : Cnt) (a1 : Int32) : Option ((Int32) ⊕ Nat) := (fc_walletAt V L N a1).bind fun o1 => Sum.elim (fun u2 => fc_aside_22 FU V L N u2 0 10 0) (fun e9 => some (.inr e9)) o1
set_option maxRecDepth 100000 in
set_option maxHeartbeats 4000000 in
theorem bc_aside {p : Program} {l : Launch} {e : Env} {s : State} {m : MethodId} {args : Array Value} {below : List Frame} {meth : Method} {c : Code} {D : va_G} {dA : Nat → ClassId} {A : Nat → Prop} {xs : va_W} {o : (Int32) ⊕ Nat} {V : Rho} {L : Lst} {N : Cnt} {ad : Adr} (X : zc p l s m args meth c cX11_aside RX11 D dA A) (hml : c.maxLocals = 8) (hr : meth.sig.returnType = (some .int)) (hnil : ∀ x ∈ c.exceptionTable.toList, False) {cells slots : Nat} (hcs : cells + 1 ≤ 1 ∧ slots + 6 ≤ 6) (h11 : 0 < N 11) {a1 : Int32} (h : fc_aside V L N a1 = some o) : zz p l e ({ frames := 7, cells := 1, slots := 6, locals := 294 } : Room) s m args below meth c A (cx D dA A V L N ad xs) cells slots (vx_MQ below (va_Qi (fun r (w9 : Int32) => r = w9 ∧ o = .inl w9 ∧ True) (fun (w9 : Int32) t => cx D dA A V L N ad xs t.heap) A) (vx_X (fun (u : Nat) => o = .inr u) (fun E u t => E = exn u ∧ cx D dA A V L N ad xs t.heap) A) args s 1 6 A) 0 [(0, .ref (ad 11 0)), (1, .int a1)] [] [] := by
  obtain ⟨hcs1, hcs2⟩ := hcs
  unfold fc_aside at h
  refine z_aload_n X dX11_aside_0 rfl rfl ?_
  refine z_iload_n X dX11_aside_1 rfl rfl ?_
  obtain ⟨o1, co1, h⟩ := zb2 h
  refine z_xVq (As := [.int a1]) (rest := []) (nA := 1) (mc := 1) (ms := 6) (rm := ({ frames := 6, cells := 1, slots := 6, locals := 252 } : Room)) (S := Int32) (r0 := fun u => some (ad 9 u.toNatClampNeg)) (pu := fun u => o1 = .inl u ∧ vp_in u (N 9)) (G1 := fun u => cx D dA A V L N ad xs) X hnil (cc_walletAt l X.2.2.2.2.2.2.2.2 X.2.2.2.2.2.2.1 h11 co1) g_491 g_493 gs_7 g_1 g_494 hd_yX11_walletAt ⟨rfl, rfl, Nat.le_of_ble_eq_true rfl, Nat.le_of_ble_eq_true rfl⟩ rfl (fun _ hG => cx_recv X (k := 11) (n := 9) rfl rfl h11 hG)  rfl (Nat.le_of_ble_eq_true rfl) dX11_aside_2 ⟨by show _ ≤ 1; omega, by show _ ≤ 6; omega⟩ ⟨by omega, by omega⟩ (fun u hu t hG hF => ?_) (fun u2 hu => ?_)
  · rw [hu] at h
    obtain rfl := Option.some.inj h
    exact ⟨u, rfl, ⟨rfl, hG⟩, hF⟩
  · rw [hu.1] at h
    have p3 := hu.2
    simp only [Sum.elim_inl] at h
    refine z_astore_n (lo' := [(2, .ref (ad 9 u2.toNatClampNeg)), (0, .ref (ad 11 0)), (1, .int a1)]) X dX11_aside_5 rfl (by rw [hml]; decide) rfl rfl ?_
    refine z_iconst (v := 0) X dX11_aside_6 (by decide) ?_
    refine z_istore_n (lo' := [(3, .int 0), (2, .ref (ad 9 u2.toNatClampNeg)), (0, .ref (ad 11 0)), (1, .int a1)]) X dX11_aside_7 rfl (by rw [hml]; decide) rfl rfl ?_
    refine z_aload_n X dX11_aside_8 rfl rfl ?_
    refine c_get X 11 3 (v := .ref (ad 29 0)) rx11_ws rfl rfl rfl h11 g_275 rfl dX11_aside_9 ?_
    refine z_astore (lo' := [(4, .ref (ad 29 0)), (3, .int 0), (2, .ref (ad 9 u2.toNatClampNeg)), (0, .ref (ad 11 0)), (1, .int a1)]) X dX11_aside_12 (by rw [hml]; decide) rfl rfl ?_
    refine z_aload X dX11_aside_14 rfl ?_
    refine c_alen X 29 (n := 10) rfl rfl rfl h11 (by decide) dX11_aside_16 ?_
    refine z_istore (lo' := [(5, .int 10), (4, .ref (ad 29 0)), (3, .int 0), (2, .ref (ad 9 u2.toNatClampNeg)), (0, .ref (ad 11 0)), (1, .int a1)]) X dX11_aside_17 (by rw [hml]; decide) rfl rfl ?_
    refine z_iconst (v := 0) X dX11_aside_19 (by decide) ?_
    refine z_istore (lo' := [(6, .int 0), (5, .int 10), (4, .ref (ad 29 0)), (3, .int 0), (2, .ref (ad 9 u2.toNatClampNeg)), (0, .ref (ad 11 0)), (1, .int a1)]) X dX11_aside_20 (by rw [hml]; decide) rfl rfl ?_
    refine zz.pick (lo' := [(2, .ref (ad 9 u2.toNatClampNeg)), (3, .int 0), (4, .ref (ad 29 0)), (5, .int 10), (6, .int 0)]) [2, 3, 4, 5, 6] rfl ?_
    exact bc_aside_22 X hml hr hnil ⟨by omega, by omega⟩ FU h11 p3 h
theorem cc_aside (l : Launch) {D : va_G} {dA : Nat → ClassId} {A : Nat → Prop} {n : Nat} (hst : l.stackTraces = false) (hA : ∀ q, n ≤ q → A q) {V : Rho} {L : Lst} {N : Cnt} {ad : Adr} {xs : va_W} (h11 : 0 < N 11) {a1 : Int32} {o : (Int32) ⊕ Nat} (h : fc_aside V L N a1 = some o) : vx_Met l yX11_aside (.code yX11_aside cX11_aside 8 (some .int) :: gT) ({ frames := 7, cells := 1, slots := 6, locals := 294 } : Room) (va_Pc [.ref (ad 11 0), .int a1] (zB D dA A n (cx D dA A V L N ad xs))) (va_Qi (fun r (w9 : Int32) => r = w9 ∧ o = .inl w9 ∧ True) (fun (w9 : Int32) t => cx D dA A V L N ad xs t.heap) A) (vx_X (fun (u : Nat) => o = .inr u) (fun E u t => E = exn u ∧ cx D dA A V L N ad xs t.heap) A) 1 6 A :=
  zx_met (by decide) hA hst (Nat.le_of_ble_eq_true rfl) rfl rfl (fun p e s m below meth c X hml hr hnil => bc_aside X hml hr hnil ⟨by omega, by omega⟩ h11 h)
-- MeshBiller.spent(I)I
def fc_spent (V : Rho) (L : Lst) (N : Cnt) (a1 : Int32) : Option ((Int32) ⊕ Nat) := (fc_walletAt V L N a1).bind fun o1 => Sum.elim (fun u2 => some (.inl (V 183 u2.toNatClampNeg))) (fun e9 => some (.inr e9)) o1
set_option maxRecDepth 100000 in
set_option maxHeartbeats 4000000 in
theorem bc_spent {p : Program} {l : Launch} {e : Env} {s : State} {m : MethodId} {args : Array Value} {below : List Frame} {meth : Method} {c : Code} {D : va_G} {dA : Nat → ClassId} {A : Nat → Prop} {xs : va_W} {o : (Int32) ⊕ Nat} {V : Rho} {L : Lst} {N : Cnt} {ad : Adr} (X : zc p l s m args meth c cX11_spent RX11 D dA A) (hml : c.maxLocals = 2) (hr : meth.sig.returnType = (some .int)) (hnil : ∀ x ∈ c.exceptionTable.toList, False) {cells slots : Nat} (hcs : cells + 1 ≤ 1 ∧ slots + 6 ≤ 6) (h11 : 0 < N 11) {a1 : Int32} (h : fc_spent V L N a1 = some o) : zz p l e ({ frames := 7, cells := 1, slots := 6, locals := 294 } : Room) s m args below meth c A (cx D dA A V L N ad xs) cells slots (vx_MQ below (va_Qi (fun r (w9 : Int32) => r = w9 ∧ o = .inl w9 ∧ True) (fun (w9 : Int32) t => cx D dA A V L N ad xs t.heap) A) (vx_X (fun (u : Nat) => o = .inr u) (fun E u t => E = exn u ∧ cx D dA A V L N ad xs t.heap) A) args s 1 6 A) 0 [(0, .ref (ad 11 0)), (1, .int a1)] [] [] := by
  obtain ⟨hcs1, hcs2⟩ := hcs
  unfold fc_spent at h
  refine z_aload_n X dX11_spent_0 rfl rfl ?_
  refine z_iload_n X dX11_spent_1 rfl rfl ?_
  obtain ⟨o1, co1, h⟩ := zb2 h
  refine z_xVq (As := [.int a1]) (rest := []) (nA := 1) (mc := 1) (ms := 6) (rm := ({ frames := 6, cells := 1, slots := 6, locals := 252 } : Room)) (S := Int32) (r0 := fun u => some (ad 9 u.toNatClampNeg)) (pu := fun u => o1 = .inl u ∧ vp_in u (N 9)) (G1 := fun u => cx D dA A V L N ad xs) X hnil (cc_walletAt l X.2.2.2.2.2.2.2.2 X.2.2.2.2.2.2.1 h11 co1) g_491 g_493 gs_7 g_1 g_494 hd_yX11_walletAt ⟨rfl, rfl, Nat.le_of_ble_eq_true rfl, Nat.le_of_ble_eq_true rfl⟩ rfl (fun _ hG => cx_recv X (k := 11) (n := 9) rfl rfl h11 hG)  rfl (Nat.le_of_ble_eq_true rfl) dX11_spent_2 ⟨by show _ ≤ 1; omega, by show _ ≤ 6; omega⟩ ⟨by omega, by omega⟩ (fun u hu t hG hF => ?_) (fun u2 hu => ?_)
  · rw [hu] at h
    obtain rfl := Option.some.inj h
    exact ⟨u, rfl, ⟨rfl, hG⟩, hF⟩
  · rw [hu.1] at h
    have p3 := hu.2
    simp only [Sum.elim_inl] at h
    refine c_get X 9 3 (v := .int (V 183 u2.toNatClampNeg)) rx9_ws rfl rfl rfl (vp_lt p3) g_229 rfl dX11_spent_5 ?_
    obtain rfl := Option.some.inj h
    refine zx_ret ?_
    refine zz.widen (k := 1) (n := 6) (by omega) (by omega) ?_
    exact z_iret X hr rfl (fun t hG hF _ => ⟨⟨_, _, rfl, ⟨rfl, ⟨rfl, trivial⟩⟩, hG⟩, hF⟩) dX11_spent_8
theorem cc_spent (l : Launch) {D : va_G} {dA : Nat → ClassId} {A : Nat → Prop} {n : Nat} (hst : l.stackTraces = false) (hA : ∀ q, n ≤ q → A q) {V : Rho} {L : Lst} {N : Cnt} {ad : Adr} {xs : va_W} (h11 : 0 < N 11) {a1 : Int32} {o : (Int32) ⊕ Nat} (h : fc_spent V L N a1 = some o) : vx_Met l yX11_spent (.code yX11_spent cX11_spent 2 (some .int) :: gT) ({ frames := 7, cells := 1, slots := 6, locals := 294 } : Room) (va_Pc [.ref (ad 11 0), .int a1] (zB D dA A n (cx D dA A V L N ad xs))) (va_Qi (fun r (w9 : Int32) => r = w9 ∧ o = .inl w9 ∧ True) (fun (w9 : Int32) t => cx D dA A V L N ad xs t.heap) A) (vx_X (fun (u : Nat) => o = .inr u) (fun E u t => E = exn u ∧ cx D dA A V L N ad xs t.heap) A) 1 6 A :=
  zx_met (by decide) hA hst (Nat.le_of_ble_eq_true rfl) rfl rfl (fun p e s m below meth c X hml hr hnil => bc_spent X hml hr hnil ⟨by omega, by omega⟩ h11 h)
-- MeshBiller$Bundle.isOver(I)Z
def fc_Bundle_isOver (V : Rho) (L : Lst) (N : Cnt) (a0 : Int32) (a1 : Int32) : Option (Int32) := (if a1 < (V 1 a0.toNatClampNeg) then some 0
  else some 1)
set_option maxRecDepth 100000 in
set_option maxHeartbeats 4000000 in
theorem bc_Bundle_isOver {p : Program} {l : Launch} {e : Env} {s : State} {m : MethodId} {args : Array Value} {below : List Frame} {meth : Method} {c : Code} {D : va_G} {dA : Nat → ClassId} {A : Nat → Prop} {xs : va_W} {o : Int32} {V : Rho} {L : Lst} {N : Cnt} {ad : Adr} (X : zc p l s m args meth c cX0_isOver RX0 D dA A) (hml : c.maxLocals = 2) (hr : meth.sig.returnType = (some .boolean)) (h11 : 0 < N 11) {a0 : Int32} {a1 : Int32} (va0 : vp_in a0 (N 0)) (h : fc_Bundle_isOver V L N a0 a1 = some o) : zz p l e ({ frames := 1, cells := 0, slots := 0, locals := 42 } : Room) s m args below meth c A (cx D dA A V L N ad xs) 0 0 (MQ below (va_Qi (fun r (w9 : Unit) => r = o ∧ True) (fun (w9 : Unit) t => cx D dA A V L N ad xs t.heap) A) args s 0 0 A) 0 [(0, .ref (ad 0 a0.toNatClampNeg)), (1, .int a1)] [] [] := by
  unfold fc_Bundle_isOver at h
  refine z_iload_n X dX0_isOver_0 rfl rfl ?_
  refine z_aload_n X dX0_isOver_1 rfl rfl ?_
  refine c_get X 0 1 (v := .int (V 1 a0.toNatClampNeg)) rx0_ws rfl rfl rfl (vp_lt va0) g_533 rfl dX0_isOver_2 ?_
  refine z_icmp_lt (tgt := 12) X dX0_isOver_5 (by decide) (fun q => ?_) (fun q => ?_)
  · have h := zp q h
    refine z_iconst (v := 0) X dX0_isOver_12 (by decide) ?_
    obtain rfl := Option.some.inj h
    exact z_iret X hr rfl (fun t hG hF _ => ⟨⟨_, (), rfl, ⟨rfl, trivial⟩, hG⟩, hF⟩) dX0_isOver_13
  · have h := zn q h
    refine z_iconst (v := 1) X dX0_isOver_8 (by decide) ?_
    refine z_goto (tgt := 13) X dX0_isOver_9 (by decide) ?_
    obtain rfl := Option.some.inj h
    exact z_iret X hr rfl (fun t hG hF _ => ⟨⟨_, (), rfl, ⟨rfl, trivial⟩, hG⟩, hF⟩) dX0_isOver_13
theorem cc_Bundle_isOver (l : Launch) {D : va_G} {dA : Nat → ClassId} {A : Nat → Prop} {n : Nat} (hst : l.stackTraces = false) (hA : ∀ q, n ≤ q → A q) {V : Rho} {L : Lst} {N : Cnt} {ad : Adr} {xs : va_W} (h11 : 0 < N 11) {a0 : Int32} {a1 : Int32} (va0 : vp_in a0 (N 0)) {o : Int32} (h : fc_Bundle_isOver V L N a0 a1 = some o) : Met l yX0_isOver (.code yX0_isOver cX0_isOver 2 (some .boolean) :: gT) ({ frames := 1, cells := 0, slots := 0, locals := 42 } : Room) (va_Pc [.ref (ad 0 a0.toNatClampNeg), .int a1] (zB D dA A n (cx D dA A V L N ad xs))) (va_Qi (fun r (w9 : Unit) => r = o ∧ True) (fun (w9 : Unit) t => cx D dA A V L N ad xs t.heap) A) 0 0 A :=
  z_met (by decide) hA hst (Nat.le_of_ble_eq_true rfl) rfl rfl (fun p e s m below meth c X hml hr _ => bc_Bundle_isOver X hml hr h11 va0 h)
-- MeshBiller.left(I)I
def fc_left (V : Rho) (L : Lst) (N : Cnt) (a1 : Int32) : Option ((Int32) ⊕ Nat) := (if a1 < 0 then some (.inr 1)
  else (some (nI (L 12 0).length)).bind fun x1 => (if a1 < x1 then if a1 < 0 ∨ (L 12 0).length ≤ (a1).toNatClampNeg then none else (some ((L 12 0).getD a1.toNatClampNeg 0)).bind fun x3 => (fc_dayOf V L N (V 228 0)).bind fun o5 => (fc_Bundle_isOver V L N x3 o5).bind fun o6 => (if o6 = 0 then some (.inl (V 3 x3.toNatClampNeg))
  else some (.inl 0))
  else some (.inr 1)))
set_option maxRecDepth 100000 in
set_option maxHeartbeats 4000000 in
theorem bc_left {p : Program} {l : Launch} {e : Env} {s : State} {m : MethodId} {args : Array Value} {below : List Frame} {meth : Method} {c : Code} {D : va_G} {dA : Nat → ClassId} {A : Nat → Prop} {xs : va_W} {o : (Int32) ⊕ Nat} {V : Rho} {L : Lst} {N : Cnt} {ad : Adr} (X : zc p l s m args meth c cX11_left RX11 D dA A) (hml : c.maxLocals = 3) (hr : meth.sig.returnType = (some .int)) (hnil : ∀ x ∈ c.exceptionTable.toList, False) {cells slots : Nat} (hcs : cells + 1 ≤ 1 ∧ slots + 6 ≤ 6) (h11 : 0 < N 11) {a1 : Int32} (h : fc_left V L N a1 = some o) : zz p l e ({ frames := 9, cells := 1, slots := 6, locals := 378 } : Room) s m args below meth c A (cx D dA A V L N ad xs) cells slots (vx_MQ below (va_Qi (fun r (w9 : Int32) => r = w9 ∧ o = .inl w9 ∧ True) (fun (w9 : Int32) t => cx D dA A V L N ad xs t.heap) A) (vx_X (fun (u : Nat) => o = .inr u) (fun E u t => E = exn u ∧ cx D dA A V L N ad xs t.heap) A) args s 1 6 A) 0 [(0, .ref (ad 11 0)), (1, .int a1)] [] [] := by
  obtain ⟨hcs1, hcs2⟩ := hcs
  unfold fc_left at h
  refine z_iload_n X dX11_left_0 rfl rfl ?_
  refine z_if_lt (tgt := 15) X dX11_left_1 (by decide) (fun q => ?_) (fun q => ?_)
  · have h := zp q h
    obtain rfl := Option.some.inj h
    exact z_throwS (k := 1) (ik := 199) (is := 201) (ic := 203) (text := "no such bundle") X hnil cx_grow (by decide) g_326 g_19 hat_1 (by decide) dX11_left_15 dX11_left_18 dX11_left_19 dX11_left_21 dX11_left_24 ⟨Nat.le_of_ble_eq_true rfl, Nat.le_of_ble_eq_true rfl, by show _ ≤ 1; omega, by show _ ≤ 6; omega⟩ (fun t hG hF => ⟨1, rfl, ⟨rfl, hG⟩, hF⟩) (by omega) (by omega)
  · have h := zn q h
    refine z_iload_n X dX11_left_4 rfl rfl ?_
    refine z_aload_n X dX11_left_5 rfl rfl ?_
    refine c_get X 11 4 (v := .ref (ad 12 0)) rx11_ws rfl rfl rfl h11 g_276 rfl dX11_left_6 ?_
    obtain ⟨x1, ex1, h⟩ := zb h
    refine z_callVi (As := []) (rest := [.int a1]) (nA := 0) (mc := 0) (ms := 0) (rm := ({ frames := 8, cells := 0, slots := 0, locals := 336 } : Room)) (r0 := (nI (L 12 0).length)) (pu := fun (_ : Unit) => True) (G1 := fun _ => cx D dA A V L N ad xs) X (cl_size l X.2.2.2.2.2.2.2.2 X.2.2.2.2.2.2.1 (k := 12) (i := 0) rfl rfl h11) g_308 g_309 g_310 g_4 g_311 hd_yJx4a65c_size_8abf5 ⟨rfl, rfl, Nat.le_of_ble_eq_true rfl, Nat.le_of_ble_eq_true rfl⟩ rfl (fun _ hG => cx_recvL X (k := 12) rfl rfl h11 hG) rfl (Nat.le_of_ble_eq_true rfl) dX11_left_9 ⟨by show _ ≤ 1; omega, by show _ ≤ 6; omega⟩ (fun _ _ => ?_)
    rw [ex1]
    refine z_icmp_lt (tgt := 25) X dX11_left_12 (by decide) (fun q => ?_) (fun q => ?_)
    · have h := zp q h
      refine z_aload_n X dX11_left_25 rfl rfl ?_
      refine c_get X 11 4 (v := .ref (ad 12 0)) rx11_ws rfl rfl rfl h11 g_276 rfl dX11_left_26 ?_
      refine z_iload_n X dX11_left_29 rfl rfl ?_
      obtain ⟨q2, h⟩ := zg h
      obtain ⟨x3, ex3, h⟩ := zb h
      refine z_callVq (As := [.int a1]) (rest := []) (nA := 1) (mc := 0) (ms := 0) (rm := ({ frames := 8, cells := 0, slots := 0, locals := 336 } : Room)) (ro := fun _ => some (ad 0 ((L 12 0).getD a1.toNatClampNeg 0).toNatClampNeg)) (pu := fun (_ : Unit) => True) (G1 := fun _ => cx D dA A V L N ad xs) X (cl_get l X.2.2.2.2.2.2.2.2 X.2.2.2.2.2.2.1 (k := 12) (i := 0) (x := a1) rfl rfl h11 q2) g_852 g_554 g_555 g_4 g_556 hd_yJx4a65c_get_915e3 ⟨rfl, rfl, Nat.le_of_ble_eq_true rfl, Nat.le_of_ble_eq_true rfl⟩ rfl (fun _ hG => cx_recvL X (k := 12) rfl rfl h11 hG) rfl (Nat.le_of_ble_eq_true rfl) dX11_left_30 ⟨by show _ ≤ 1; omega, by show _ ≤ 6; omega⟩ (fun _ _ => ?_)
      rw [ex3]
      refine zz.pre (fun H hG => cx_elt (k := 12) rfl rfl h11 q2 hG) (fun p4 => ?_)
      rw [ex3] at p4
      refine c_cast X (k := 0) (n := 4) rfl rfl (vp_lt p4) g_523 dX11_left_33 ?_
      refine z_astore_n (lo' := [(2, .ref (ad 0 x3.toNatClampNeg)), (0, .ref (ad 11 0)), (1, .int a1)]) X dX11_left_36 rfl (by rw [hml]; decide) rfl rfl ?_
      refine z_aload_n X dX11_left_37 rfl rfl ?_
      refine z_aload_n X dX11_left_38 rfl rfl ?_
      refine c_get X 11 8 (v := .int (V 228 0)) rx11_ws rfl rfl rfl h11 g_280 rfl dX11_left_39 ?_
      obtain ⟨o5, co5, h⟩ := zb2 h
      refine z_callSi (As := [.int (V 228 0)]) (rest := [.ref (ad 0 x3.toNatClampNeg)]) (nA := 1) (mc := 0) (ms := 0) (rm := ({ frames := 1, cells := 0, slots := 0, locals := 42 } : Room)) (r0 := o5) (pu := fun (_ : Unit) => True) (G1 := fun _ => cx D dA A V L N ad xs) X (cc_dayOf l X.2.2.2.2.2.2.2.2 X.2.2.2.2.2.2.1 h11 co5) g_525 g_526 g_1 g_527 hd_yX11_dayOf ⟨rfl, rfl, Nat.le_of_ble_eq_true rfl, Nat.le_of_ble_eq_true rfl⟩ rfl rfl (Nat.le_of_ble_eq_true rfl) dX11_left_42 ⟨by show _ ≤ 1; omega, by show _ ≤ 6; omega⟩ (fun _ _ => ?_)
      obtain ⟨o6, co6, h⟩ := zb2 h
      refine z_callVi (As := [.int o5]) (rest := []) (nA := 1) (mc := 0) (ms := 0) (rm := ({ frames := 1, cells := 0, slots := 0, locals := 42 } : Room)) (r0 := o6) (pu := fun (_ : Unit) => True) (G1 := fun _ => cx D dA A V L N ad xs) X (cc_Bundle_isOver l X.2.2.2.2.2.2.2.2 X.2.2.2.2.2.2.1 h11 p4 co6) g_853 g_854 g_855 g_22 g_856 hd_yX0_isOver ⟨rfl, rfl, Nat.le_of_ble_eq_true rfl, Nat.le_of_ble_eq_true rfl⟩ rfl (fun _ hG => cx_recv X (k := 0) (n := 4) rfl rfl (vp_lt p4) hG) rfl (Nat.le_of_ble_eq_true rfl) dX11_left_45 ⟨by show _ ≤ 1; omega, by show _ ≤ 6; omega⟩ (fun _ _ => ?_)
      refine z_if_eq (tgt := 55) X dX11_left_48 (by decide) (fun q => ?_) (fun q => ?_)
      · have h := zp q h
        refine z_aload_n X dX11_left_55 rfl rfl ?_
        refine c_get X 0 3 (v := .int (V 3 x3.toNatClampNeg)) rx0_ws rfl rfl rfl (vp_lt p4) g_538 rfl dX11_left_56 ?_
        obtain rfl := Option.some.inj h
        refine zx_ret ?_
        refine zz.widen (k := 1) (n := 6) (by omega) (by omega) ?_
        exact z_iret X hr rfl (fun t hG hF _ => ⟨⟨_, _, rfl, ⟨rfl, ⟨rfl, trivial⟩⟩, hG⟩, hF⟩) dX11_left_59
      · have h := zn q h
        refine z_iconst (v := 0) X dX11_left_51 (by decide) ?_
        refine z_goto (tgt := 59) X dX11_left_52 (by decide) ?_
        obtain rfl := Option.some.inj h
        refine zx_ret ?_
        refine zz.widen (k := 1) (n := 6) (by omega) (by omega) ?_
        exact z_iret X hr rfl (fun t hG hF _ => ⟨⟨_, _, rfl, ⟨rfl, ⟨rfl, trivial⟩⟩, hG⟩, hF⟩) dX11_left_59
    · have h := zn q h
      obtain rfl := Option.some.inj h
      exact z_throwS (k := 1) (ik := 199) (is := 201) (ic := 203) (text := "no such bundle") X hnil cx_grow (by decide) g_326 g_19 hat_1 (by decide) dX11_left_15 dX11_left_18 dX11_left_19 dX11_left_21 dX11_left_24 ⟨Nat.le_of_ble_eq_true rfl, Nat.le_of_ble_eq_true rfl, by show _ ≤ 1; omega, by show _ ≤ 6; omega⟩ (fun t hG hF => ⟨1, rfl, ⟨rfl, hG⟩, hF⟩) (by omega) (by omega)
theorem cc_left (l : Launch) {D : va_G} {dA : Nat → ClassId} {A : Nat → Prop} {n : Nat} (hst : l.stackTraces = false) (hA : ∀ q, n ≤ q → A q) {V : Rho} {L : Lst} {N : Cnt} {ad : Adr} {xs : va_W} (h11 : 0 < N 11) {a1 : Int32} {o : (Int32) ⊕ Nat} (h : fc_left V L N a1 = some o) : vx_Met l yX11_left (.code yX11_left cX11_left 3 (some .int) :: gT) ({ frames := 9, cells := 1, slots := 6, locals := 378 } : Room) (va_Pc [.ref (ad 11 0), .int a1] (zB D dA A n (cx D dA A V L N ad xs))) (va_Qi (fun r (w9 : Int32) => r = w9 ∧ o = .inl w9 ∧ True) (fun (w9 : Int32) t => cx D dA A V L N ad xs t.heap) A) (vx_X (fun (u : Nat) => o = .inr u) (fun E u t => E = exn u ∧ cx D dA A V L N ad xs t.heap) A) 1 6 A :=
  zx_met (by decide) hA hst (Nat.le_of_ble_eq_true rfl) rfl rfl (fun p e s m below meth c X hml hr hnil => bc_left X hml hr hnil ⟨by omega, by omega⟩ h11 h)
-- MeshBiller.openChannels(LMeshBiller$Cell;)I
def fc_openChannels (V : Rho) (L : Lst) (N : Cnt) (a1 : Int32) : Option (Int32) := (fc_legsIn V L N a1).bind fun o1 => some (((V 42 a1.toNatClampNeg) - (V 43 a1.toNatClampNeg)) - o1)
set_option maxRecDepth 100000 in
set_option maxHeartbeats 4000000 in
theorem bc_openChannels {p : Program} {l : Launch} {e : Env} {s : State} {m : MethodId} {args : Array Value} {below : List Frame} {meth : Method} {c : Code} {D : va_G} {dA : Nat → ClassId} {A : Nat → Prop} {xs : va_W} {o : Int32} {V : Rho} {L : Lst} {N : Cnt} {ad : Adr} (X : zc p l s m args meth c cX11_openChannels RX11 D dA A) (hml : c.maxLocals = 2) (hr : meth.sig.returnType = (some .int)) (h11 : 0 < N 11) {a1 : Int32} (va1 : vp_in a1 (N 2)) (h : fc_openChannels V L N a1 = some o) : zz p l e ({ frames := 2, cells := 0, slots := 0, locals := 84 } : Room) s m args below meth c A (cx D dA A V L N ad xs) 0 0 (MQ below (va_Qi (fun r (w9 : Unit) => r = o ∧ True) (fun (w9 : Unit) t => cx D dA A V L N ad xs t.heap) A) args s 0 0 A) 0 [(0, .ref (ad 11 0)), (1, .ref (ad 2 a1.toNatClampNeg))] [] [] := by
  unfold fc_openChannels at h
  refine z_aload_n X dX11_openChannels_0 rfl rfl ?_
  refine c_get X 2 2 (v := .int (V 42 a1.toNatClampNeg)) rx2_ws rfl rfl rfl (vp_lt va1) g_203 rfl dX11_openChannels_1 ?_
  refine z_aload_n X dX11_openChannels_4 rfl rfl ?_
  refine c_get X 2 3 (v := .int (V 43 a1.toNatClampNeg)) rx2_ws rfl rfl rfl (vp_lt va1) g_205 rfl dX11_openChannels_5 ?_
  refine z_isub X dX11_openChannels_8 ?_
  refine z_aload_n X dX11_openChannels_9 rfl rfl ?_
  refine z_aload_n X dX11_openChannels_10 rfl rfl ?_
  obtain ⟨o1, co1, h⟩ := zb2 h
  refine z_callVi (As := [.ref (ad 2 a1.toNatClampNeg)]) (rest := [.int ((V 42 a1.toNatClampNeg) - (V 43 a1.toNatClampNeg))]) (nA := 1) (mc := 0) (ms := 0) (rm := ({ frames := 1, cells := 0, slots := 0, locals := 42 } : Room)) (r0 := o1) (pu := fun (_ : Unit) => True) (G1 := fun _ => cx D dA A V L N ad xs) X (cc_legsIn l X.2.2.2.2.2.2.2.2 X.2.2.2.2.2.2.1 h11 va1 co1) g_441 g_443 gs_5 g_1 g_444 hd_yX11_legsIn ⟨rfl, rfl, Nat.le_of_ble_eq_true rfl, Nat.le_of_ble_eq_true rfl⟩ rfl (fun _ hG => cx_recv X (k := 11) (n := 9) rfl rfl h11 hG) rfl (Nat.le_of_ble_eq_true rfl) dX11_openChannels_11 ⟨Nat.le_refl _, Nat.le_refl _⟩ (fun _ _ => ?_)
  refine z_isub X dX11_openChannels_14 ?_
  obtain rfl := Option.some.inj h
  exact z_iret X hr rfl (fun t hG hF _ => ⟨⟨_, (), rfl, ⟨rfl, trivial⟩, hG⟩, hF⟩) dX11_openChannels_15
theorem cc_openChannels (l : Launch) {D : va_G} {dA : Nat → ClassId} {A : Nat → Prop} {n : Nat} (hst : l.stackTraces = false) (hA : ∀ q, n ≤ q → A q) {V : Rho} {L : Lst} {N : Cnt} {ad : Adr} {xs : va_W} (h11 : 0 < N 11) {a1 : Int32} (va1 : vp_in a1 (N 2)) {o : Int32} (h : fc_openChannels V L N a1 = some o) : Met l yX11_openChannels (.code yX11_openChannels cX11_openChannels 2 (some .int) :: gT) ({ frames := 2, cells := 0, slots := 0, locals := 84 } : Room) (va_Pc [.ref (ad 11 0), .ref (ad 2 a1.toNatClampNeg)] (zB D dA A n (cx D dA A V L N ad xs))) (va_Qi (fun r (w9 : Unit) => r = o ∧ True) (fun (w9 : Unit) t => cx D dA A V L N ad xs t.heap) A) 0 0 A :=
  z_met (by decide) hA hst (Nat.le_of_ble_eq_true rfl) rfl rfl (fun p e s m below meth c X hml hr _ => bc_openChannels X hml hr h11 va1 h)
-- MeshBiller$Bundle.isFor(LMeshBiller$Zone;)Z
def fc_Bundle_isFor (V : Rho) (L : Lst) (N : Cnt) (a0 : Int32) (a1 : Int32) : Option (Int32) := (if (((V 0 a0.toNatClampNeg) >>> ((V 200 a1.toNatClampNeg) &&& 31)) &&& 1) = 1 then some 1
  else some 0)
set_option maxRecDepth 100000 in
set_option maxHeartbeats 4000000 in
theorem bc_Bundle_isFor {p : Program} {l : Launch} {e : Env} {s : State} {m : MethodId} {args : Array Value} {below : List Frame} {meth : Method} {c : Code} {D : va_G} {dA : Nat → ClassId} {A : Nat → Prop} {xs : va_W} {o : Int32} {V : Rho} {L : Lst} {N : Cnt} {ad : Adr} (X : zc p l s m args meth c cX0_isFor RX0 D dA A) (hml : c.maxLocals = 2) (hr : meth.sig.returnType = (some .boolean)) (h11 : 0 < N 11) {a0 : Int32} {a1 : Int32} (va0 : vp_in a0 (N 0)) (va1 : vp_in a1 (N 10)) (h : fc_Bundle_isFor V L N a0 a1 = some o) : zz p l e ({ frames := 1, cells := 0, slots := 0, locals := 42 } : Room) s m args below meth c A (cx D dA A V L N ad xs) 0 0 (MQ below (va_Qi (fun r (w9 : Unit) => r = o ∧ True) (fun (w9 : Unit) t => cx D dA A V L N ad xs t.heap) A) args s 0 0 A) 0 [(0, .ref (ad 0 a0.toNatClampNeg)), (1, .ref (ad 10 a1.toNatClampNeg))] [] [] := by
  unfold fc_Bundle_isFor at h
  refine z_aload_n X dX0_isFor_0 rfl rfl ?_
  refine c_get X 0 0 (v := .int (V 0 a0.toNatClampNeg)) rx0_ws rfl rfl rfl (vp_lt va0) g_532 rfl dX0_isFor_1 ?_
  refine z_aload_n X dX0_isFor_4 rfl rfl ?_
  refine c_get X 10 0 (v := .int (V 200 a1.toNatClampNeg)) rx10_ws rfl rfl rfl (vp_lt va1) g_181 rfl dX0_isFor_5 ?_
  refine z_ishr X dX0_isFor_8 ?_
  refine z_iconst (v := 1) X dX0_isFor_9 (by decide) ?_
  refine z_iand X dX0_isFor_10 ?_
  refine z_iconst (v := 1) X dX0_isFor_11 (by decide) ?_
  refine z_icmp_ne (tgt := 19) X dX0_isFor_12 (by decide) (fun q => ?_) (fun q => ?_)
  · have h := zp q h
    refine z_iconst (v := 1) X dX0_isFor_15 (by decide) ?_
    refine z_goto (tgt := 20) X dX0_isFor_16 (by decide) ?_
    obtain rfl := Option.some.inj h
    exact z_iret X hr rfl (fun t hG hF _ => ⟨⟨_, (), rfl, ⟨rfl, trivial⟩, hG⟩, hF⟩) dX0_isFor_20
  · have h := zn q h
    refine z_iconst (v := 0) X dX0_isFor_19 (by decide) ?_
    obtain rfl := Option.some.inj h
    exact z_iret X hr rfl (fun t hG hF _ => ⟨⟨_, (), rfl, ⟨rfl, trivial⟩, hG⟩, hF⟩) dX0_isFor_20
theorem cc_Bundle_isFor (l : Launch) {D : va_G} {dA : Nat → ClassId} {A : Nat → Prop} {n : Nat} (hst : l.stackTraces = false) (hA : ∀ q, n ≤ q → A q) {V : Rho} {L : Lst} {N : Cnt} {ad : Adr} {xs : va_W} (h11 : 0 < N 11) {a0 : Int32} {a1 : Int32} (va0 : vp_in a0 (N 0)) (va1 : vp_in a1 (N 10)) {o : Int32} (h : fc_Bundle_isFor V L N a0 a1 = some o) : Met l yX0_isFor (.code yX0_isFor cX0_isFor 2 (some .boolean) :: gT) ({ frames := 1, cells := 0, slots := 0, locals := 42 } : Room) (va_Pc [.ref (ad 0 a0.toNatClampNeg), .ref (ad 10 a1.toNatClampNeg)] (zB D dA A n (cx D dA A V L N ad xs))) (va_Qi (fun r (w9 : Unit) => r = o ∧ True) (fun (w9 : Unit) t => cx D dA A V L N ad xs t.heap) A) 0 0 A :=
  z_met (by decide) hA hst (Nat.le_of_ble_eq_true rfl) rfl rfl (fun p e s m below meth c X hml hr _ => bc_Bundle_isFor X hml hr h11 va0 va1 h)
-- MeshBiller$Wallet.findBundle(LMeshBiller$Zone;I)LMeshBiller$Bundle;
def fc_Wallet_findBundle_55 (k2 : Rho → Lst → Cnt → Int32 → Int32 → Int32 → Int32 → Option (Int32)) (V : Rho) (L : Lst) (N : Cnt) (v0 : Int32) (v1 : Int32) (v2 : Int32) (v3 : Int32) : Option (Int32) := (some (v3 + 1)).bind fun x1 => k2 V L N v0 v1 v2 x1
set_option maxRecDepth 100000 in
set_option maxHeartbeats 4000000 in
theorem bc_Wallet_findBundle_55 {p : Program} {l : Launch} {e : Env} {s : State} {m : MethodId} {args : Array Value} {below : List Frame} {meth : Method} {c : Code} {D : va_G} {dA : Nat → ClassId} {A : Nat → Prop} {xs : va_W} {o : Int32} {V : Rho} {L : Lst} {N : Cnt} {ad : Adr} (X : zc p l s m args meth c cX9_findBundle RX9 D dA A) (hml : c.maxLocals = 5) (hr : meth.sig.returnType = (some (.object "MeshBiller$Bundle"))) {k2 : Rho → Lst → Cnt → Int32 → Int32 → Int32 → Int32 → Option (Int32)} (hk2 : ∀ (h11 : 0 < N 11) {v0 : Int32} {v1 : Int32} {v2 : Int32} {v3 : Int32} (fv0 : vp_in v0 (N 9)) (fv1 : vp_in v1 (N 10)) , k2 V L N v0 v1 v2 v3 = some o → zz p l e ({ frames := 9, cells := 0, slots := 0, locals := 378 } : Room) s m args below meth c A (cx D dA A V L N ad xs) 0 0 (MQ below (va_Qq (fun r (w9 : Unit) => r = qn (ad 0) o ∧ (o = -1 ∨ vp_in o (N 0))) (fun (w9 : Unit) t => cx D dA A V L N ad xs t.heap) A) args s 0 0 A) 2 [(0, .ref (ad 9 v0.toNatClampNeg)), (1, .ref (ad 10 v1.toNatClampNeg)), (2, .int v2), (3, .int v3)] [] []) (h11 : 0 < N 11) {v0 : Int32} {v1 : Int32} {v2 : Int32} {v3 : Int32} (fv0 : vp_in v0 (N 9)) (fv1 : vp_in v1 (N 10)) (h : fc_Wallet_findBundle_55 k2 V L N v0 v1 v2 v3 = some o) : zz p l e ({ frames := 9, cells := 0, slots := 0, locals := 378 } : Room) s m args below meth c A (cx D dA A V L N ad xs) 0 0 (MQ below (va_Qq (fun r (w9 : Unit) => r = qn (ad 0) o ∧ (o = -1 ∨ vp_in o (N 0))) (fun (w9 : Unit) t => cx D dA A V L N ad xs t.heap) A) args s 0 0 A) 55 [(0, .ref (ad 9 v0.toNatClampNeg)), (1, .ref (ad 10 v1.toNatClampNeg)), (2, .int v2), (3, .int v3)] [] [] := by
  unfold fc_Wallet_findBundle_55 at h
  obtain ⟨x1, ex1, h⟩ := zb h
  refine z_iinc (v := x1) (lo' := [(3, .int x1), (0, .ref (ad 9 v0.toNatClampNeg)), (1, .ref (ad 10 v1.toNatClampNeg)), (2, .int v2)]) X dX9_findBundle_55 rfl ex1 (by rw [hml]; decide) rfl rfl ?_
  refine z_goto (tgt := 2) X dX9_findBundle_58 (by decide) ?_
  refine zz.pick (lo' := [(0, .ref (ad 9 v0.toNatClampNeg)), (1, .ref (ad 10 v1.toNatClampNeg)), (2, .int v2), (3, .int x1)]) [0, 1, 2, 3] rfl ?_
  exact hk2 h11 fv0 fv1 h
def fc_Wallet_findBundle_2 : Nat → Rho → Lst → Cnt → Int32 → Int32 → Int32 → Int32 → Option (Int32)
  | 0, _, _, _, _, _, _, _ => none
  | n + 1, V, L, N, v0, v1, v2, v3 => (some (nI (L 15 v0.toNatClampNeg).length)).bind fun x1 => (if x1 ≤ v3 then some (-1)
  else if v3 < 0 ∨ (L 15 v0.toNatClampNeg).length ≤ (v3).toNatClampNeg then none else (some ((L 15 v0.toNatClampNeg).getD v3.toNatClampNeg 0)).bind fun x3 => (fc_Bundle_isFor V L N x3 v1).bind fun o5 => (if o5 = 0 then fc_Wallet_findBundle_55 (fc_Wallet_findBundle_2 n) V L N v0 v1 v2 v3
  else (fc_Bundle_isOver V L N x3 v2).bind fun o6 => (if o6 = 0 then (if (V 3 x3.toNatClampNeg) ≤ 0 then fc_Wallet_findBundle_55 (fc_Wallet_findBundle_2 n) V L N v0 v1 v2 v3
  else some x3)
  else fc_Wallet_findBundle_55 (fc_Wallet_findBundle_2 n) V L N v0 v1 v2 v3)))
set_option maxRecDepth 100000 in
set_option maxHeartbeats 4000000 in
theorem bc_Wallet_findBundle_2 {p : Program} {l : Launch} {e : Env} {s : State} {m : MethodId} {args : Array Value} {below : List Frame} {meth : Method} {c : Code} {D : va_G} {dA : Nat → ClassId} {A : Nat → Prop} {xs : va_W} {o : Int32} {V : Rho} {L : Lst} {N : Cnt} {ad : Adr} (X : zc p l s m args meth c cX9_findBundle RX9 D dA A) (hml : c.maxLocals = 5) (hr : meth.sig.returnType = (some (.object "MeshBiller$Bundle"))) : ∀ (n : Nat) (h11 : 0 < N 11) {v0 : Int32} {v1 : Int32} {v2 : Int32} {v3 : Int32} (fv0 : vp_in v0 (N 9)) (fv1 : vp_in v1 (N 10)) , fc_Wallet_findBundle_2 n V L N v0 v1 v2 v3 = some o → zz p l e ({ frames := 9, cells := 0, slots := 0, locals := 378 } : Room) s m args below meth c A (cx D dA A V L N ad xs) 0 0 (MQ below (va_Qq (fun r (w9 : Unit) => r = qn (ad 0) o ∧ (o = -1 ∨ vp_in o (N 0))) (fun (w9 : Unit) t => cx D dA A V L N ad xs t.heap) A) args s 0 0 A) 2 [(0, .ref (ad 9 v0.toNatClampNeg)), (1, .ref (ad 10 v1.toNatClampNeg)), (2, .int v2), (3, .int v3)] [] [] := by
  intro n
  induction n with
  | zero => intro  h11 v0 v1 v2 v3 fv0 fv1 h; exact (nomatch (show none = some o from h))
  | succ n ih =>
    intro  h11 v0 v1 v2 v3 fv0 fv1 h
    rw [fc_Wallet_findBundle_2] at h
    refine z_iload_n X dX9_findBundle_2 rfl rfl ?_
    refine z_aload_n X dX9_findBundle_3 rfl rfl ?_
    refine c_get X 9 1 (v := .ref (ad 15 v0.toNatClampNeg)) rx9_ws rfl rfl rfl (vp_lt fv0) g_224 rfl dX9_findBundle_4 ?_
    obtain ⟨x1, ex1, h⟩ := zb h
    refine z_callVi (As := []) (rest := [.int v3]) (nA := 0) (mc := 0) (ms := 0) (rm := ({ frames := 8, cells := 0, slots := 0, locals := 336 } : Room)) (r0 := (nI (L 15 v0.toNatClampNeg).length)) (pu := fun (_ : Unit) => True) (G1 := fun _ => cx D dA A V L N ad xs) X (cl_size l X.2.2.2.2.2.2.2.2 X.2.2.2.2.2.2.1 (k := 15) (i := v0.toNatClampNeg) rfl rfl (vp_lt fv0)) g_552 g_309 g_310 g_4 g_311 hd_yJx4a65c_size_8abf5 ⟨rfl, rfl, Nat.le_of_ble_eq_true rfl, Nat.le_of_ble_eq_true rfl⟩ rfl (fun _ hG => cx_recvL X (k := 15) rfl rfl (vp_lt fv0) hG) rfl (Nat.le_of_ble_eq_true rfl) dX9_findBundle_7 ⟨Nat.le_refl _, Nat.le_refl _⟩ (fun _ _ => ?_)
    rw [ex1]
    refine z_icmp_ge (tgt := 61) X dX9_findBundle_10 (by decide) (fun q => ?_) (fun q => ?_)
    · have h := zp q h
      refine z_null X dX9_findBundle_61 ?_
      obtain rfl := Option.some.inj h
      exact z_aret (o := none) X hr (Or.inl ⟨_, rfl⟩) (fun t hG hF _ => ⟨⟨_, (), rfl, ⟨qn_null.symm, Or.inl rfl⟩, hG⟩, hF⟩) dX9_findBundle_62
    · have h := zn q h
      refine z_aload_n X dX9_findBundle_13 rfl rfl ?_
      refine c_get X 9 1 (v := .ref (ad 15 v0.toNatClampNeg)) rx9_ws rfl rfl rfl (vp_lt fv0) g_224 rfl dX9_findBundle_14 ?_
      refine z_iload_n X dX9_findBundle_17 rfl rfl ?_
      obtain ⟨q2, h⟩ := zg h
      obtain ⟨x3, ex3, h⟩ := zb h
      refine z_callVq (As := [.int v3]) (rest := []) (nA := 1) (mc := 0) (ms := 0) (rm := ({ frames := 8, cells := 0, slots := 0, locals := 336 } : Room)) (ro := fun _ => some (ad 0 ((L 15 v0.toNatClampNeg).getD v3.toNatClampNeg 0).toNatClampNeg)) (pu := fun (_ : Unit) => True) (G1 := fun _ => cx D dA A V L N ad xs) X (cl_get l X.2.2.2.2.2.2.2.2 X.2.2.2.2.2.2.1 (k := 15) (i := v0.toNatClampNeg) (x := v3) rfl rfl (vp_lt fv0) q2) g_553 g_554 g_555 g_4 g_556 hd_yJx4a65c_get_915e3 ⟨rfl, rfl, Nat.le_of_ble_eq_true rfl, Nat.le_of_ble_eq_true rfl⟩ rfl (fun _ hG => cx_recvL X (k := 15) rfl rfl (vp_lt fv0) hG) rfl (Nat.le_of_ble_eq_true rfl) dX9_findBundle_18 ⟨Nat.le_refl _, Nat.le_refl _⟩ (fun _ _ => ?_)
      rw [ex3]
      refine zz.pre (fun H hG => cx_elt (k := 15) rfl rfl (vp_lt fv0) q2 hG) (fun p4 => ?_)
      rw [ex3] at p4
      refine c_cast X (k := 0) (n := 4) rfl rfl (vp_lt p4) g_567 dX9_findBundle_21 ?_
      refine z_astore (lo' := [(4, .ref (ad 0 x3.toNatClampNeg)), (0, .ref (ad 9 v0.toNatClampNeg)), (1, .ref (ad 10 v1.toNatClampNeg)), (2, .int v2), (3, .int v3)]) X dX9_findBundle_24 (by rw [hml]; decide) rfl rfl ?_
      refine z_aload X dX9_findBundle_26 rfl ?_
      refine z_aload_n X dX9_findBundle_28 rfl rfl ?_
      obtain ⟨o5, co5, h⟩ := zb2 h
      refine z_callVi (As := [.ref (ad 10 v1.toNatClampNeg)]) (rest := []) (nA := 1) (mc := 0) (ms := 0) (rm := ({ frames := 1, cells := 0, slots := 0, locals := 42 } : Room)) (r0 := o5) (pu := fun (_ : Unit) => True) (G1 := fun _ => cx D dA A V L N ad xs) X (cc_Bundle_isFor l X.2.2.2.2.2.2.2.2 X.2.2.2.2.2.2.1 h11 p4 fv1 co5) g_1015 g_1016 g_1017 g_22 g_1018 hd_yX0_isFor ⟨rfl, rfl, Nat.le_of_ble_eq_true rfl, Nat.le_of_ble_eq_true rfl⟩ rfl (fun _ hG => cx_recv X (k := 0) (n := 4) rfl rfl (vp_lt p4) hG) rfl (Nat.le_of_ble_eq_true rfl) dX9_findBundle_29 ⟨Nat.le_refl _, Nat.le_refl _⟩ (fun _ _ => ?_)
      refine z_if_eq (tgt := 55) X dX9_findBundle_32 (by decide) (fun q => ?_) (fun q => ?_)
      · have h := zp q h
        refine zz.pick (lo' := [(0, .ref (ad 9 v0.toNatClampNeg)), (1, .ref (ad 10 v1.toNatClampNeg)), (2, .int v2), (3, .int v3)]) [0, 1, 2, 3] rfl ?_
        exact bc_Wallet_findBundle_55 X hml hr ih h11 fv0 fv1 h
      · have h := zn q h
        refine z_aload X dX9_findBundle_35 rfl ?_
        refine z_iload_n X dX9_findBundle_37 rfl rfl ?_
        obtain ⟨o6, co6, h⟩ := zb2 h
        refine z_callVi (As := [.int v2]) (rest := []) (nA := 1) (mc := 0) (ms := 0) (rm := ({ frames := 1, cells := 0, slots := 0, locals := 42 } : Room)) (r0 := o6) (pu := fun (_ : Unit) => True) (G1 := fun _ => cx D dA A V L N ad xs) X (cc_Bundle_isOver l X.2.2.2.2.2.2.2.2 X.2.2.2.2.2.2.1 h11 p4 co6) g_1019 g_854 g_855 g_22 g_856 hd_yX0_isOver ⟨rfl, rfl, Nat.le_of_ble_eq_true rfl, Nat.le_of_ble_eq_true rfl⟩ rfl (fun _ hG => cx_recv X (k := 0) (n := 4) rfl rfl (vp_lt p4) hG) rfl (Nat.le_of_ble_eq_true rfl) dX9_findBundle_38 ⟨Nat.le_refl _, Nat.le_refl _⟩ (fun _ _ => ?_)
        refine z_if_ne (tgt := 55) X dX9_findBundle_41 (by decide) (fun q => ?_) (fun q => ?_)
        · have h := zp q h
          refine z_aload X dX9_findBundle_44 rfl ?_
          refine c_get X 0 3 (v := .int (V 3 x3.toNatClampNeg)) rx0_ws rfl rfl rfl (vp_lt p4) g_537 rfl dX9_findBundle_46 ?_
          refine z_if_le (tgt := 55) X dX9_findBundle_49 (by decide) (fun q => ?_) (fun q => ?_)
          · have h := zp q h
            refine zz.pick (lo' := [(0, .ref (ad 9 v0.toNatClampNeg)), (1, .ref (ad 10 v1.toNatClampNeg)), (2, .int v2), (3, .int v3)]) [0, 1, 2, 3] rfl ?_
            exact bc_Wallet_findBundle_55 X hml hr ih h11 fv0 fv1 h
          · have h := zn q h
            refine z_aload X dX9_findBundle_52 rfl ?_
            obtain rfl := Option.some.inj h
            exact z_aret (o := some (ad 0 x3.toNatClampNeg)) X hr (Or.inl ⟨_, rfl⟩) (fun t hG hF _ => ⟨⟨_, (), rfl, ⟨(qn_some (vp_ne p4)).symm, Or.inr p4⟩, hG⟩, hF⟩) dX9_findBundle_54
        · have h := zn q h
          refine zz.pick (lo' := [(0, .ref (ad 9 v0.toNatClampNeg)), (1, .ref (ad 10 v1.toNatClampNeg)), (2, .int v2), (3, .int v3)]) [0, 1, 2, 3] rfl ?_
          exact bc_Wallet_findBundle_55 X hml hr ih h11 fv0 fv1 h
def fc_Wallet_findBundle (V : Rho) (L : Lst) (N : Cnt) (a0 : Int32) (a1 : Int32) (a2 : Int32) : Option (Int32) := fc_Wallet_findBundle_2 FU V L N a0 a1 a2 0
set_option maxRecDepth 100000 in
set_option maxHeartbeats 4000000 in
theorem bc_Wallet_findBundle {p : Program} {l : Launch} {e : Env} {s : State} {m : MethodId} {args : Array Value} {below : List Frame} {meth : Method} {c : Code} {D : va_G} {dA : Nat → ClassId} {A : Nat → Prop} {xs : va_W} {o : Int32} {V : Rho} {L : Lst} {N : Cnt} {ad : Adr} (X : zc p l s m args meth c cX9_findBundle RX9 D dA A) (hml : c.maxLocals = 5) (hr : meth.sig.returnType = (some (.object "MeshBiller$Bundle"))) (h11 : 0 < N 11) {a0 : Int32} {a1 : Int32} {a2 : Int32} (va0 : vp_in a0 (N 9)) (va1 : vp_in a1 (N 10)) (h : fc_Wallet_findBundle V L N a0 a1 a2 = some o) : zz p l e ({ frames := 9, cells := 0, slots := 0, locals := 378 } : Room) s m args below meth c A (cx D dA A V L N ad xs) 0 0 (MQ below (va_Qq (fun r (w9 : Unit) => r = qn (ad 0) o ∧ (o = -1 ∨ vp_in o (N 0))) (fun (w9 : Unit) t => cx D dA A V L N ad xs t.heap) A) args s 0 0 A) 0 [(0, .ref (ad 9 a0.toNatClampNeg)), (1, .ref (ad 10 a1.toNatClampNeg)), (2, .int a2)] [] [] := by
  unfold fc_Wallet_findBundle at h
  refine z_iconst (v := 0) X dX9_findBundle_0 (by decide) ?_
  refine z_istore_n (lo' := [(3, .int 0), (0, .ref (ad 9 a0.toNatClampNeg)), (1, .ref (ad 10 a1.toNatClampNeg)), (2, .int a2)]) X dX9_findBundle_1 rfl (by rw [hml]; decide) rfl rfl ?_
  refine zz.pick (lo' := [(0, .ref (ad 9 a0.toNatClampNeg)), (1, .ref (ad 10 a1.toNatClampNeg)), (2, .int a2), (3, .int 0)]) [0, 1, 2, 3] rfl ?_
  exact bc_Wallet_findBundle_2 X hml hr FU h11 va0 va1 h
theorem cc_Wallet_findBundle (l : Launch) {D : va_G} {dA : Nat → ClassId} {A : Nat → Prop} {n : Nat} (hst : l.stackTraces = false) (hA : ∀ q, n ≤ q → A q) {V : Rho} {L : Lst} {N : Cnt} {ad : Adr} {xs : va_W} (h11 : 0 < N 11) {a0 : Int32} {a1 : Int32} {a2 : Int32} (va0 : vp_in a0 (N 9)) (va1 : vp_in a1 (N 10)) {o : Int32} (h : fc_Wallet_findBundle V L N a0 a1 a2 = some o) : Met l yX9_findBundle (.code yX9_findBundle cX9_findBundle 5 (some (.object "MeshBiller$Bundle")) :: gT) ({ frames := 9, cells := 0, slots := 0, locals := 378 } : Room) (va_Pc [.ref (ad 9 a0.toNatClampNeg), .ref (ad 10 a1.toNatClampNeg), .int a2] (zB D dA A n (cx D dA A V L N ad xs))) (va_Qq (fun r (w9 : Unit) => r = qn (ad 0) o ∧ (o = -1 ∨ vp_in o (N 0))) (fun (w9 : Unit) t => cx D dA A V L N ad xs t.heap) A) 0 0 A :=
  z_met (by decide) hA hst (Nat.le_of_ble_eq_true rfl) rfl rfl (fun p e s m below meth c X hml hr _ => bc_Wallet_findBundle X hml hr h11 va0 va1 h)
-- MeshBiller$Slice.takeFromBundle(LMeshBiller$Bundle;I)V
def fc_Slice_takeFromBundle (V : Rho) (L : Lst) (N : Cnt) (a0 : Int32) (a1 : Int32) (a2 : Int32) : Option (Rho) := (some (cs V 3 a1.toNatClampNeg ((V 3 a1.toNatClampNeg) - a2))).bind fun V1 => (some (cs V1 162 a0.toNatClampNeg a1)).bind fun V2 => (some (cs V2 161 a0.toNatClampNeg 0)).bind fun V3 => (some (cs V3 160 a0.toNatClampNeg a2)).bind fun V4 => some V4
set_option maxRecDepth 100000 in
set_option maxHeartbeats 4000000 in
theorem bc_Slice_takeFromBundle {p : Program} {l : Launch} {e : Env} {s : State} {m : MethodId} {args : Array Value} {below : List Frame} {meth : Method} {c : Code} {D : va_G} {dA : Nat → ClassId} {A : Nat → Prop} {xs : va_W} {o : Rho} {L : Lst} {N : Cnt} {ad : Adr} (X : zc p l s m args meth c cX8_takeFromBundle RX8 D dA A) (hml : c.maxLocals = 3) (hr : meth.sig.returnType = none) {V : Rho} (h11 : 0 < N 11) {a0 : Int32} {a1 : Int32} {a2 : Int32} (va0 : vp_in a0 (N 8)) (va1 : vp_in a1 (N 0)) (h : fc_Slice_takeFromBundle V L N a0 a1 a2 = some o) : zz p l e ({ frames := 1, cells := 0, slots := 0, locals := 42 } : Room) s m args below meth c A (cx D dA A V L N ad xs) 0 0 (MQ below (va_Qv (fun (w9 : Unit) => True) (fun (w9 : Unit) t => cx D dA A o L N ad xs t.heap) A) args s 0 0 A) 0 [(0, .ref (ad 8 a0.toNatClampNeg)), (1, .ref (ad 0 a1.toNatClampNeg)), (2, .int a2)] [] [] := by
  unfold fc_Slice_takeFromBundle at h
  refine z_aload_n X dX8_takeFromBundle_0 rfl rfl ?_
  refine z_dup X dX8_takeFromBundle_1 rfl ?_
  refine c_get X 0 3 (v := .int (V 3 a1.toNatClampNeg)) rx0_ws rfl rfl rfl (vp_lt va1) g_536 rfl dX8_takeFromBundle_2 ?_
  refine z_iload_n X dX8_takeFromBundle_5 rfl rfl ?_
  refine z_isub X dX8_takeFromBundle_6 ?_
  obtain ⟨V1, eV1, h⟩ := zb h
  refine c_put X 0 3 (x := ((V 3 a1.toNatClampNeg) - a2)) (v := .int ((V 3 a1.toNatClampNeg) - a2)) (ty := .int) rx0_ws rfl tyX0_ok nmX0 rfl rfl (vp_lt va1) rfl g_536 rfl trivial rfl rfl rfl eV1 dX8_takeFromBundle_7 ?_
  refine z_aload_n X dX8_takeFromBundle_10 rfl rfl ?_
  refine z_aload_n X dX8_takeFromBundle_11 rfl rfl ?_
  obtain ⟨V2, eV2, h⟩ := zb h
  refine c_put X 8 2 (x := a1) (v := .ref (ad 0 a1.toNatClampNeg)) (ty := (.object "MeshBiller$Bundle")) rx8_ws rfl tyX8_ok nmX8 rfl rfl (vp_lt va0) rfl g_914 (qn_ref (vp_ne va1)) (Or.inr va1) rfl rfl rfl eV2 dX8_takeFromBundle_12 ?_
  refine z_aload_n X dX8_takeFromBundle_15 rfl rfl ?_
  refine z_iconst (v := 0) X dX8_takeFromBundle_16 (by decide) ?_
  obtain ⟨V3, eV3, h⟩ := zb h
  refine c_put X 8 1 (x := 0) (v := .int 0) (ty := .int) rx8_ws rfl tyX8_ok nmX8 rfl rfl (vp_lt va0) rfl g_912 rfl trivial rfl rfl rfl eV3 dX8_takeFromBundle_17 ?_
  refine z_aload_n X dX8_takeFromBundle_20 rfl rfl ?_
  refine z_iload_n X dX8_takeFromBundle_21 rfl rfl ?_
  obtain ⟨V4, eV4, h⟩ := zb h
  refine c_put X 8 0 (x := a2) (v := .int a2) (ty := .int) rx8_ws rfl tyX8_ok nmX8 rfl rfl (vp_lt va0) rfl g_909 rfl trivial rfl rfl rfl eV4 dX8_takeFromBundle_22 ?_
  obtain rfl := Option.some.inj h
  exact z_vret X hr (fun t hG hF _ => ⟨⟨(), rfl, trivial, hG⟩, hF⟩) dX8_takeFromBundle_25
theorem cc_Slice_takeFromBundle (l : Launch) {D : va_G} {dA : Nat → ClassId} {A : Nat → Prop} {n : Nat} (hst : l.stackTraces = false) (hA : ∀ q, n ≤ q → A q) {V : Rho} {L : Lst} {N : Cnt} {ad : Adr} {xs : va_W} (h11 : 0 < N 11) {a0 : Int32} {a1 : Int32} {a2 : Int32} (va0 : vp_in a0 (N 8)) (va1 : vp_in a1 (N 0)) {o : Rho} (h : fc_Slice_takeFromBundle V L N a0 a1 a2 = some o) : Met l yX8_takeFromBundle (.code yX8_takeFromBundle cX8_takeFromBundle 3 none :: gT) ({ frames := 1, cells := 0, slots := 0, locals := 42 } : Room) (va_Pc [.ref (ad 8 a0.toNatClampNeg), .ref (ad 0 a1.toNatClampNeg), .int a2] (zB D dA A n (cx D dA A V L N ad xs))) (va_Qv (fun (w9 : Unit) => True) (fun (w9 : Unit) t => cx D dA A o L N ad xs t.heap) A) 0 0 A :=
  z_met (by decide) hA hst (Nat.le_of_ble_eq_true rfl) rfl rfl (fun p e s m below meth c X hml hr _ => bc_Slice_takeFromBundle X hml hr h11 va0 va1 h)
-- MeshBiller.isPeakAt(I)Z
def fc_isPeakAt (V : Rho) (L : Lst) (N : Cnt) (a1 : Int32) : Option (Int32) := (some (((a1 / 100) - (a1 / 100) / 24 * 24))).bind fun x1 => (if x1 < 8 then some 0
  else (if 19 < x1 then some 0
  else some 1))
set_option maxRecDepth 100000 in
set_option maxHeartbeats 4000000 in
theorem bc_isPeakAt {p : Program} {l : Launch} {e : Env} {s : State} {m : MethodId} {args : Array Value} {below : List Frame} {meth : Method} {c : Code} {D : va_G} {dA : Nat → ClassId} {A : Nat → Prop} {xs : va_W} {o : Int32} {V : Rho} {L : Lst} {N : Cnt} {ad : Adr} (X : zc p l s m args meth c cX11_isPeakAt RX11 D dA A) (hml : c.maxLocals = 2) (hr : meth.sig.returnType = (some .boolean)) (h11 : 0 < N 11) {a1 : Int32} (h : fc_isPeakAt V L N a1 = some o) : zz p l e ({ frames := 1, cells := 0, slots := 0, locals := 42 } : Room) s m args below meth c A (cx D dA A V L N ad xs) 0 0 (MQ below (va_Qi (fun r (w9 : Unit) => r = o ∧ True) (fun (w9 : Unit) t => cx D dA A V L N ad xs t.heap) A) args s 0 0 A) 0 [(0, .int a1)] [] [] := by
  unfold fc_isPeakAt at h
  refine z_iload_n X dX11_isPeakAt_0 rfl rfl ?_
  refine z_bipush (v := 100) X dX11_isPeakAt_1 (by decide) ?_
  refine z_idiv X dX11_isPeakAt_3 (by decide) ?_
  refine z_bipush (v := 24) X dX11_isPeakAt_4 (by decide) ?_
  refine z_irem X dX11_isPeakAt_6 (by decide) ?_
  obtain ⟨x1, ex1, h⟩ := zb h
  rw [ex1]
  refine z_istore_n (lo' := [(1, .int x1), (0, .int a1)]) X dX11_isPeakAt_7 rfl (by rw [hml]; decide) rfl rfl ?_
  refine z_iload_n X dX11_isPeakAt_8 rfl rfl ?_
  refine z_bipush (v := 8) X dX11_isPeakAt_9 (by decide) ?_
  refine z_icmp_lt (tgt := 24) X dX11_isPeakAt_11 (by decide) (fun q => ?_) (fun q => ?_)
  · have h := zp q h
    refine z_iconst (v := 0) X dX11_isPeakAt_24 (by decide) ?_
    obtain rfl := Option.some.inj h
    exact z_iret X hr rfl (fun t hG hF _ => ⟨⟨_, (), rfl, ⟨rfl, trivial⟩, hG⟩, hF⟩) dX11_isPeakAt_25
  · have h := zn q h
    refine z_iload_n X dX11_isPeakAt_14 rfl rfl ?_
    refine z_bipush (v := 19) X dX11_isPeakAt_15 (by decide) ?_
    refine z_icmp_gt (tgt := 24) X dX11_isPeakAt_17 (by decide) (fun q => ?_) (fun q => ?_)
    · have h := zp q h
      refine z_iconst (v := 0) X dX11_isPeakAt_24 (by decide) ?_
      obtain rfl := Option.some.inj h
      exact z_iret X hr rfl (fun t hG hF _ => ⟨⟨_, (), rfl, ⟨rfl, trivial⟩, hG⟩, hF⟩) dX11_isPeakAt_25
    · have h := zn q h
      refine z_iconst (v := 1) X dX11_isPeakAt_20 (by decide) ?_
      refine z_goto (tgt := 25) X dX11_isPeakAt_21 (by decide) ?_
      obtain rfl := Option.some.inj h
      exact z_iret X hr rfl (fun t hG hF _ => ⟨⟨_, (), rfl, ⟨rfl, trivial⟩, hG⟩, hF⟩) dX11_isPeakAt_25
theorem cc_isPeakAt (l : Launch) {D : va_G} {dA : Nat → ClassId} {A : Nat → Prop} {n : Nat} (hst : l.stackTraces = false) (hA : ∀ q, n ≤ q → A q) {V : Rho} {L : Lst} {N : Cnt} {ad : Adr} {xs : va_W} (h11 : 0 < N 11) {a1 : Int32} {o : Int32} (h : fc_isPeakAt V L N a1 = some o) : Met l yX11_isPeakAt (.code yX11_isPeakAt cX11_isPeakAt 2 (some .boolean) :: gT) ({ frames := 1, cells := 0, slots := 0, locals := 42 } : Room) (va_Pc [.int a1] (zB D dA A n (cx D dA A V L N ad xs))) (va_Qi (fun r (w9 : Unit) => r = o ∧ True) (fun (w9 : Unit) t => cx D dA A V L N ad xs t.heap) A) 0 0 A :=
  z_met (by decide) hA hst (Nat.le_of_ble_eq_true rfl) rfl rfl (fun p e s m below meth c X hml hr _ => bc_isPeakAt X hml hr h11 h)
-- MeshBiller.rateNow(LMeshBiller$Phone;)I
def fc_rateNow (V : Rho) (L : Lst) (N : Cnt) (a1 : Int32) : Option (Int32) := (fc_isPeakAt V L N (V 228 0)).bind fun o3 => (fc_Zone_historyFor V L N (V 41 (V 101 a1.toNatClampNeg).toNatClampNeg) o3).bind fun o4 => some (V 121 o4.toNatClampNeg)
set_option maxRecDepth 100000 in
set_option maxHeartbeats 4000000 in
theorem bc_rateNow {p : Program} {l : Launch} {e : Env} {s : State} {m : MethodId} {args : Array Value} {below : List Frame} {meth : Method} {c : Code} {D : va_G} {dA : Nat → ClassId} {A : Nat → Prop} {xs : va_W} {o : Int32} {V : Rho} {L : Lst} {N : Cnt} {ad : Adr} (X : zc p l s m args meth c cX11_rateNow RX11 D dA A) (hml : c.maxLocals = 2) (hr : meth.sig.returnType = (some .int)) (h11 : 0 < N 11) {a1 : Int32} (va1 : vp_in a1 (N 5)) (h : fc_rateNow V L N a1 = some o) : zz p l e ({ frames := 2, cells := 0, slots := 0, locals := 84 } : Room) s m args below meth c A (cx D dA A V L N ad xs) 0 0 (MQ below (va_Qi (fun r (w9 : Unit) => r = o ∧ True) (fun (w9 : Unit) t => cx D dA A V L N ad xs t.heap) A) args s 0 0 A) 0 [(0, .ref (ad 11 0)), (1, .ref (ad 5 a1.toNatClampNeg))] [] [] := by
  unfold fc_rateNow at h
  refine z_aload_n X dX11_rateNow_0 rfl rfl ?_
  refine c_get X 5 1 (v := .ref (ad 2 (V 101 a1.toNatClampNeg).toNatClampNeg)) rx5_ws rfl rfl rfl (vp_lt va1) g_248 rfl dX11_rateNow_1 ?_
  refine zz.pre (fun H hG => cx_fact (k := 5) (i := a1.toNatClampNeg) (f := 1) rfl (vp_lt va1) rfl hG) (fun (p1 : vp_in (V 101 a1.toNatClampNeg) (N 2)) => ?_)
  refine c_get X 2 1 (v := .ref (ad 10 (V 41 (V 101 a1.toNatClampNeg).toNatClampNeg).toNatClampNeg)) rx2_ws rfl rfl rfl (vp_lt p1) g_201 rfl dX11_rateNow_4 ?_
  refine zz.pre (fun H hG => cx_fact (k := 2) (i := (V 101 a1.toNatClampNeg).toNatClampNeg) (f := 1) rfl (vp_lt p1) rfl hG) (fun (p2 : vp_in (V 41 (V 101 a1.toNatClampNeg).toNatClampNeg) (N 10)) => ?_)
  refine z_aload_n X dX11_rateNow_7 rfl rfl ?_
  refine c_get X 11 8 (v := .int (V 228 0)) rx11_ws rfl rfl rfl h11 g_280 rfl dX11_rateNow_8 ?_
  obtain ⟨o3, co3, h⟩ := zb2 h
  refine z_callSi (As := [.int (V 228 0)]) (rest := [.ref (ad 10 (V 41 (V 101 a1.toNatClampNeg).toNatClampNeg).toNatClampNeg)]) (nA := 1) (mc := 0) (ms := 0) (rm := ({ frames := 1, cells := 0, slots := 0, locals := 42 } : Room)) (r0 := o3) (pu := fun (_ : Unit) => True) (G1 := fun _ => cx D dA A V L N ad xs) X (cc_isPeakAt l X.2.2.2.2.2.2.2.2 X.2.2.2.2.2.2.1 h11 co3) g_1029 g_1030 g_1 g_1031 hd_yX11_isPeakAt ⟨rfl, rfl, Nat.le_of_ble_eq_true rfl, Nat.le_of_ble_eq_true rfl⟩ rfl rfl (Nat.le_of_ble_eq_true rfl) dX11_rateNow_11 ⟨Nat.le_refl _, Nat.le_refl _⟩ (fun _ _ => ?_)
  obtain ⟨o4, co4, h⟩ := zb2 h
  refine z_callVq (As := [.int o3]) (rest := []) (nA := 1) (mc := 0) (ms := 0) (rm := ({ frames := 1, cells := 0, slots := 0, locals := 42 } : Room)) (ro := fun _ => some (ad 6 o4.toNatClampNeg)) (pu := fun (_ : Unit) => vp_in o4 (N 6)) (G1 := fun _ => cx D dA A V L N ad xs) X (cc_Zone_historyFor l X.2.2.2.2.2.2.2.2 X.2.2.2.2.2.2.1 h11 p2 co4) g_453 g_454 g_455 g_5 g_456 hd_yX10_historyFor ⟨rfl, rfl, Nat.le_of_ble_eq_true rfl, Nat.le_of_ble_eq_true rfl⟩ rfl (fun _ hG => cx_recv X (k := 10) (n := 3) rfl rfl (vp_lt p2) hG) rfl (Nat.le_of_ble_eq_true rfl) dX11_rateNow_14 ⟨Nat.le_refl _, Nat.le_refl _⟩ (fun _ p5 => ?_)
  refine c_get X 6 1 (v := .int (V 121 o4.toNatClampNeg)) rx6_ws rfl rfl rfl (vp_lt p5) g_174 rfl dX11_rateNow_17 ?_
  obtain rfl := Option.some.inj h
  exact z_iret X hr rfl (fun t hG hF _ => ⟨⟨_, (), rfl, ⟨rfl, trivial⟩, hG⟩, hF⟩) dX11_rateNow_20
theorem cc_rateNow (l : Launch) {D : va_G} {dA : Nat → ClassId} {A : Nat → Prop} {n : Nat} (hst : l.stackTraces = false) (hA : ∀ q, n ≤ q → A q) {V : Rho} {L : Lst} {N : Cnt} {ad : Adr} {xs : va_W} (h11 : 0 < N 11) {a1 : Int32} (va1 : vp_in a1 (N 5)) {o : Int32} (h : fc_rateNow V L N a1 = some o) : Met l yX11_rateNow (.code yX11_rateNow cX11_rateNow 2 (some .int) :: gT) ({ frames := 2, cells := 0, slots := 0, locals := 84 } : Room) (va_Pc [.ref (ad 11 0), .ref (ad 5 a1.toNatClampNeg)] (zB D dA A n (cx D dA A V L N ad xs))) (va_Qi (fun r (w9 : Unit) => r = o ∧ True) (fun (w9 : Unit) t => cx D dA A V L N ad xs t.heap) A) 0 0 A :=
  z_met (by decide) hA hst (Nat.le_of_ble_eq_true rfl) rfl rfl (fun p e s m below meth c X hml hr _ => bc_rateNow X hml hr h11 va1 h)
-- MeshBiller$Phone.mostByCap(I)I
def fc_Phone_mostByCap (V : Rho) (L : Lst) (N : Cnt) (a0 : Int32) (a1 : Int32) : Option (Int32) := (if (V 103 a0.toNatClampNeg) = (-1) then some 100000
  else (if (V 105 a0.toNatClampNeg) = a1 then some ((V 103 a0.toNatClampNeg) - (V 106 a0.toNatClampNeg))
  else some (V 103 a0.toNatClampNeg)))
set_option maxRecDepth 100000 in
set_option maxHeartbeats 4000000 in
theorem bc_Phone_mostByCap {p : Program} {l : Launch} {e : Env} {s : State} {m : MethodId} {args : Array Value} {below : List Frame} {meth : Method} {c : Code} {D : va_G} {dA : Nat → ClassId} {A : Nat → Prop} {xs : va_W} {o : Int32} {V : Rho} {L : Lst} {N : Cnt} {ad : Adr} (X : zc p l s m args meth c cX5_mostByCap RX5 D dA A) (hml : c.maxLocals = 2) (hr : meth.sig.returnType = (some .int)) (h11 : 0 < N 11) {a0 : Int32} {a1 : Int32} (va0 : vp_in a0 (N 5)) (h : fc_Phone_mostByCap V L N a0 a1 = some o) : zz p l e ({ frames := 1, cells := 0, slots := 0, locals := 42 } : Room) s m args below meth c A (cx D dA A V L N ad xs) 0 0 (MQ below (va_Qi (fun r (w9 : Unit) => r = o ∧ True) (fun (w9 : Unit) t => cx D dA A V L N ad xs t.heap) A) args s 0 0 A) 0 [(0, .ref (ad 5 a0.toNatClampNeg)), (1, .int a1)] [] [] := by
  unfold fc_Phone_mostByCap at h
  refine z_aload_n X dX5_mostByCap_0 rfl rfl ?_
  refine c_get X 5 3 (v := .int (V 103 a0.toNatClampNeg)) rx5_ws rfl rfl rfl (vp_lt va0) g_251 rfl dX5_mostByCap_1 ?_
  refine z_iconst (v := (-1)) X dX5_mostByCap_4 (by decide) ?_
  refine z_icmp_ne (tgt := 11) X dX5_mostByCap_5 (by decide) (fun q => ?_) (fun q => ?_)
  · have h := zp q h
    refine z_ldc X g_1036 dX5_mostByCap_8 ?_
    obtain rfl := Option.some.inj h
    exact z_iret X hr rfl (fun t hG hF _ => ⟨⟨_, (), rfl, ⟨rfl, trivial⟩, hG⟩, hF⟩) dX5_mostByCap_10
  · have h := zn q h
    refine z_aload_n X dX5_mostByCap_11 rfl rfl ?_
    refine c_get X 5 5 (v := .int (V 105 a0.toNatClampNeg)) rx5_ws rfl rfl rfl (vp_lt va0) g_255 rfl dX5_mostByCap_12 ?_
    refine z_iload_n X dX5_mostByCap_15 rfl rfl ?_
    refine z_icmp_ne (tgt := 31) X dX5_mostByCap_16 (by decide) (fun q => ?_) (fun q => ?_)
    · have h := zp q h
      refine z_aload_n X dX5_mostByCap_19 rfl rfl ?_
      refine c_get X 5 3 (v := .int (V 103 a0.toNatClampNeg)) rx5_ws rfl rfl rfl (vp_lt va0) g_251 rfl dX5_mostByCap_20 ?_
      refine z_aload_n X dX5_mostByCap_23 rfl rfl ?_
      refine c_get X 5 6 (v := .int (V 106 a0.toNatClampNeg)) rx5_ws rfl rfl rfl (vp_lt va0) g_256 rfl dX5_mostByCap_24 ?_
      refine z_isub X dX5_mostByCap_27 ?_
      refine z_goto (tgt := 35) X dX5_mostByCap_28 (by decide) ?_
      obtain rfl := Option.some.inj h
      exact z_iret X hr rfl (fun t hG hF _ => ⟨⟨_, (), rfl, ⟨rfl, trivial⟩, hG⟩, hF⟩) dX5_mostByCap_35
    · have h := zn q h
      refine z_aload_n X dX5_mostByCap_31 rfl rfl ?_
      refine c_get X 5 3 (v := .int (V 103 a0.toNatClampNeg)) rx5_ws rfl rfl rfl (vp_lt va0) g_251 rfl dX5_mostByCap_32 ?_
      obtain rfl := Option.some.inj h
      exact z_iret X hr rfl (fun t hG hF _ => ⟨⟨_, (), rfl, ⟨rfl, trivial⟩, hG⟩, hF⟩) dX5_mostByCap_35
theorem cc_Phone_mostByCap (l : Launch) {D : va_G} {dA : Nat → ClassId} {A : Nat → Prop} {n : Nat} (hst : l.stackTraces = false) (hA : ∀ q, n ≤ q → A q) {V : Rho} {L : Lst} {N : Cnt} {ad : Adr} {xs : va_W} (h11 : 0 < N 11) {a0 : Int32} {a1 : Int32} (va0 : vp_in a0 (N 5)) {o : Int32} (h : fc_Phone_mostByCap V L N a0 a1 = some o) : Met l yX5_mostByCap (.code yX5_mostByCap cX5_mostByCap 2 (some .int) :: gT) ({ frames := 1, cells := 0, slots := 0, locals := 42 } : Room) (va_Pc [.ref (ad 5 a0.toNatClampNeg), .int a1] (zB D dA A n (cx D dA A V L N ad xs))) (va_Qi (fun r (w9 : Unit) => r = o ∧ True) (fun (w9 : Unit) t => cx D dA A V L N ad xs t.heap) A) 0 0 A :=
  z_met (by decide) hA hst (Nat.le_of_ble_eq_true rfl) rfl rfl (fun p e s m below meth c X hml hr _ => bc_Phone_mostByCap X hml hr h11 va0 h)
-- MeshBiller.findRichestOther(LMeshBiller$Leg;)LMeshBiller$Leg;
def fc_findRichestOther_98 (k18 : Rho → Lst → Cnt → Int32 → Int32 → Int32 → Int32 → Int32 → Option (Int32)) (V : Rho) (L : Lst) (N : Cnt) (v1 : Int32) (v2 : Int32) (v3 : Int32) (v5 : Int32) (v6 : Int32) : Option (Int32) := (some (v6 + 1)).bind fun x1 => k18 V L N v1 v2 v3 v5 x1
set_option maxRecDepth 100000 in
set_option maxHeartbeats 4000000 in
theorem bc_findRichestOther_98 {p : Program} {l : Launch} {e : Env} {s : State} {m : MethodId} {args : Array Value} {below : List Frame} {meth : Method} {c : Code} {D : va_G} {dA : Nat → ClassId} {A : Nat → Prop} {xs : va_W} {o : Int32} {V : Rho} {L : Lst} {N : Cnt} {ad : Adr} (X : zc p l s m args meth c cX11_findRichestOther RX11 D dA A) (hml : c.maxLocals = 9) (hr : meth.sig.returnType = (some (.object "MeshBiller$Leg"))) {k18 : Rho → Lst → Cnt → Int32 → Int32 → Int32 → Int32 → Int32 → Option (Int32)} (hk18 : ∀ (h11 : 0 < N 11) {v1 : Int32} {v2 : Int32} {v3 : Int32} {v5 : Int32} {v6 : Int32} (fv1 : vp_in v1 (N 4)) (fv2 : v2 = -1 ∨ vp_in v2 (N 4)) , k18 V L N v1 v2 v3 v5 v6 = some o → zz p l e ({ frames := 2, cells := 0, slots := 0, locals := 84 } : Room) s m args below meth c A (cx D dA A V L N ad xs) 0 0 (MQ below (va_Qq (fun r (w9 : Unit) => r = qn (ad 4) o ∧ (o = -1 ∨ vp_in o (N 4))) (fun (w9 : Unit) t => cx D dA A V L N ad xs t.heap) A) args s 0 0 A) 18 [(1, .ref (ad 4 v1.toNatClampNeg)), (2, va_rf (qn (ad 4) v2)), (3, .int v3), (4, .ref (ad 29 0)), (5, .int v5), (6, .int v6)] [] []) (h11 : 0 < N 11) {v1 : Int32} {v2 : Int32} {v3 : Int32} {v5 : Int32} {v6 : Int32} (fv1 : vp_in v1 (N 4)) (fv2 : v2 = -1 ∨ vp_in v2 (N 4)) (h : fc_findRichestOther_98 k18 V L N v1 v2 v3 v5 v6 = some o) : zz p l e ({ frames := 2, cells := 0, slots := 0, locals := 84 } : Room) s m args below meth c A (cx D dA A V L N ad xs) 0 0 (MQ below (va_Qq (fun r (w9 : Unit) => r = qn (ad 4) o ∧ (o = -1 ∨ vp_in o (N 4))) (fun (w9 : Unit) t => cx D dA A V L N ad xs t.heap) A) args s 0 0 A) 98 [(1, .ref (ad 4 v1.toNatClampNeg)), (2, va_rf (qn (ad 4) v2)), (3, .int v3), (4, .ref (ad 29 0)), (5, .int v5), (6, .int v6)] [] [] := by
  unfold fc_findRichestOther_98 at h
  obtain ⟨x1, ex1, h⟩ := zb h
  refine z_iinc (v := x1) (lo' := [(6, .int x1), (1, .ref (ad 4 v1.toNatClampNeg)), (2, va_rf (qn (ad 4) v2)), (3, .int v3), (4, .ref (ad 29 0)), (5, .int v5)]) X dX11_findRichestOther_98 rfl ex1 (by rw [hml]; decide) rfl rfl ?_
  refine z_goto (tgt := 18) X dX11_findRichestOther_101 (by decide) ?_
  refine zz.pick (lo' := [(1, .ref (ad 4 v1.toNatClampNeg)), (2, va_rf (qn (ad 4) v2)), (3, .int v3), (4, .ref (ad 29 0)), (5, .int v5), (6, .int x1)]) [1, 2, 3, 4, 5, 6] rfl ?_
  exact hk18 h11 fv1 fv2 h
def fc_findRichestOther_18 : Nat → Rho → Lst → Cnt → Int32 → Int32 → Int32 → Int32 → Int32 → Option (Int32)
  | 0, _, _, _, _, _, _, _, _ => none
  | n + 1, V, L, N, v1, v2, v3, v5, v6 => (if v5 ≤ v6 then some v2
  else if v6 < 0 ∨ 10 ≤ v6.toNatClampNeg then none else (if (V 104 v6.toNatClampNeg) = -1 then fc_findRichestOther_98 (fc_findRichestOther_18 n) V L N v1 v2 v3 v5 v6
  else (if (V 104 v6.toNatClampNeg) = v1 then fc_findRichestOther_98 (fc_findRichestOther_18 n) V L N v1 v2 v3 v5 v6
  else (if (V 83 (V 104 v6.toNatClampNeg).toNatClampNeg) = (V 83 v1.toNatClampNeg) then (if (V 160 (V 104 v6.toNatClampNeg).toNatClampNeg) < 2 then fc_findRichestOther_98 (fc_findRichestOther_18 n) V L N v1 v2 v3 v5 v6
  else (fc_Slice_moneyLeft V L N (V 104 v6.toNatClampNeg)).bind fun o8 => (if o8 ≤ v3 then fc_findRichestOther_98 (fc_findRichestOther_18 n) V L N v1 v2 v3 v5 v6
  else (fc_Slice_moneyLeft V L N (V 104 v6.toNatClampNeg)).bind fun o9 => fc_findRichestOther_98 (fc_findRichestOther_18 n) V L N v1 (V 104 v6.toNatClampNeg) o9 v5 v6))
  else fc_findRichestOther_98 (fc_findRichestOther_18 n) V L N v1 v2 v3 v5 v6))))
set_option maxRecDepth 100000 in
set_option maxHeartbeats 4000000 in
theorem bc_findRichestOther_18 {p : Program} {l : Launch} {e : Env} {s : State} {m : MethodId} {args : Array Value} {below : List Frame} {meth : Method} {c : Code} {D : va_G} {dA : Nat → ClassId} {A : Nat → Prop} {xs : va_W} {o : Int32} {V : Rho} {L : Lst} {N : Cnt} {ad : Adr} (X : zc p l s m args meth c cX11_findRichestOther RX11 D dA A) (hml : c.maxLocals = 9) (hr : meth.sig.returnType = (some (.object "MeshBiller$Leg"))) : ∀ (n : Nat) (h11 : 0 < N 11) {v1 : Int32} {v2 : Int32} {v3 : Int32} {v5 : Int32} {v6 : Int32} (fv1 : vp_in v1 (N 4)) (fv2 : v2 = -1 ∨ vp_in v2 (N 4)) , fc_findRichestOther_18 n V L N v1 v2 v3 v5 v6 = some o → zz p l e ({ frames := 2, cells := 0, slots := 0, locals := 84 } : Room) s m args below meth c A (cx D dA A V L N ad xs) 0 0 (MQ below (va_Qq (fun r (w9 : Unit) => r = qn (ad 4) o ∧ (o = -1 ∨ vp_in o (N 4))) (fun (w9 : Unit) t => cx D dA A V L N ad xs t.heap) A) args s 0 0 A) 18 [(1, .ref (ad 4 v1.toNatClampNeg)), (2, va_rf (qn (ad 4) v2)), (3, .int v3), (4, .ref (ad 29 0)), (5, .int v5), (6, .int v6)] [] [] := by
  intro n
  induction n with
  | zero => intro  h11 v1 v2 v3 v5 v6 fv1 fv2 h; exact (nomatch (show none = some o from h))
  | succ n ih =>
    intro  h11 v1 v2 v3 v5 v6 fv1 fv2 h
    rw [fc_findRichestOther_18] at h
    refine z_iload X dX11_findRichestOther_18 rfl ?_
    refine z_iload X dX11_findRichestOther_20 rfl ?_
    refine z_icmp_ge (tgt := 104) X dX11_findRichestOther_22 (by decide) (fun q => ?_) (fun q => ?_)
    · have h := zp q h
      refine z_aloadq_n X dX11_findRichestOther_104 rfl rfl ?_
      obtain rfl := Option.some.inj h
      exact z_aret (o := qn (ad 4) v2) X hr (Or.inl ⟨_, rfl⟩) (fun t hG hF _ => ⟨⟨_, (), rfl, ⟨rfl, fv2⟩, hG⟩, hF⟩) dX11_findRichestOther_105
    · have h := zn q h
      refine z_aload X dX11_findRichestOther_25 rfl ?_
      refine z_iload X dX11_findRichestOther_27 rfl ?_
      obtain ⟨q1, h⟩ := zg h
      refine c_aald X 29 rfl rfl rfl h11 q1 dX11_findRichestOther_29 ?_
      refine zz.pre (fun H hG => vp_of q1 (hG.2.2.2.2.2.2.2.2.1.1 h11).2.2.2.2.1) (fun (p2 : vp_in v6 (N 5)) => ?_)
      refine z_astore (lo' := [(7, .ref (ad 5 v6.toNatClampNeg)), (1, .ref (ad 4 v1.toNatClampNeg)), (2, va_rf (qn (ad 4) v2)), (3, .int v3), (4, .ref (ad 29 0)), (5, .int v5), (6, .int v6)]) X dX11_findRichestOther_30 (by rw [hml]; decide) rfl rfl ?_
      refine z_aload X dX11_findRichestOther_32 rfl ?_
      refine c_get X 5 4 (v := va_rf (qn (ad 4) (V 104 v6.toNatClampNeg))) rx5_ws rfl rfl rfl (vp_lt p2) g_254 rfl dX11_findRichestOther_34 ?_
      refine zz.pre (fun H hG => cx_fact (k := 5) (i := v6.toNatClampNeg) (f := 4) rfl (vp_lt p2) rfl hG) (fun (p3 : (V 104 v6.toNatClampNeg) = -1 ∨ vp_in (V 104 v6.toNatClampNeg) (N 4)) => ?_)
      refine z_astoreq (lo' := [(8, va_rf (qn (ad 4) (V 104 v6.toNatClampNeg))), (7, .ref (ad 5 v6.toNatClampNeg)), (1, .ref (ad 4 v1.toNatClampNeg)), (2, va_rf (qn (ad 4) v2)), (3, .int v3), (4, .ref (ad 29 0)), (5, .int v5), (6, .int v6)]) X dX11_findRichestOther_37 (by rw [hml]; decide) rfl rfl ?_
      refine z_aloadq X dX11_findRichestOther_39 rfl ?_
      refine c_ifnull (tgt := 98) X dX11_findRichestOther_41 (by decide) (fun q => ?_) (fun q => ?_)
      · have h := zp q h
        refine zz.pick (lo' := [(1, .ref (ad 4 v1.toNatClampNeg)), (2, va_rf (qn (ad 4) v2)), (3, .int v3), (4, .ref (ad 29 0)), (5, .int v5), (6, .int v6)]) [1, 2, 3, 4, 5, 6] rfl ?_
        exact bc_findRichestOther_98 X hml hr ih h11 fv1 fv2 h
      · have h := zn q h
        have p4 := p3.resolve_left q
        rw [qn_ref q]
        refine z_aload X dX11_findRichestOther_44 rfl ?_
        refine z_aload_n X dX11_findRichestOther_46 rfl rfl ?_
        refine c_acmp_eq (tgt := 98) X (k := 4) rfl p4 fv1 dX11_findRichestOther_47 (by decide) (fun q => ?_) (fun q => ?_)
        · have h := zp q h
          refine zz.pick (lo' := [(1, .ref (ad 4 v1.toNatClampNeg)), (2, va_rf (qn (ad 4) v2)), (3, .int v3), (4, .ref (ad 29 0)), (5, .int v5), (6, .int v6)]) [1, 2, 3, 4, 5, 6] rfl ?_
          exact bc_findRichestOther_98 X hml hr ih h11 fv1 fv2 h
        · have h := zn q h
          refine z_aload X dX11_findRichestOther_50 rfl ?_
          refine c_get X 4 3 (v := .ref (ad 9 (V 83 (V 104 v6.toNatClampNeg).toNatClampNeg).toNatClampNeg)) rx4_ws rfl rfl rfl (vp_lt p4) g_933 rfl dX11_findRichestOther_52 ?_
          refine zz.pre (fun H hG => cx_fact (k := 4) (i := (V 104 v6.toNatClampNeg).toNatClampNeg) (f := 3) rfl (vp_lt p4) rfl hG) (fun (p5 : vp_in (V 83 (V 104 v6.toNatClampNeg).toNatClampNeg) (N 9)) => ?_)
          refine z_aload_n X dX11_findRichestOther_55 rfl rfl ?_
          refine c_get X 4 3 (v := .ref (ad 9 (V 83 v1.toNatClampNeg).toNatClampNeg)) rx4_ws rfl rfl rfl (vp_lt fv1) g_933 rfl dX11_findRichestOther_56 ?_
          refine zz.pre (fun H hG => cx_fact (k := 4) (i := v1.toNatClampNeg) (f := 3) rfl (vp_lt fv1) rfl hG) (fun (p6 : vp_in (V 83 v1.toNatClampNeg) (N 9)) => ?_)
          refine c_acmp_ne (tgt := 98) X (k := 9) rfl p5 p6 dX11_findRichestOther_59 (by decide) (fun q => ?_) (fun q => ?_)
          · have h := zp q h
            refine z_aload X dX11_findRichestOther_62 rfl ?_
            refine c_get X 4 5 (v := .ref (ad 8 (V 104 v6.toNatClampNeg).toNatClampNeg)) rx4_ws rfl rfl rfl (vp_lt p4) g_936 rfl dX11_findRichestOther_64 ?_
            refine zz.pre (fun H hG => vp_mono p4 hG.2.2.2.2.2.2.2.2.1.2.1) (fun (p7 : vp_in (V 104 v6.toNatClampNeg) (N 8)) => ?_)
            refine c_get X 8 0 (v := .int (V 160 (V 104 v6.toNatClampNeg).toNatClampNeg)) rx8_ws rfl rfl rfl (vp_lt p7) g_911 rfl dX11_findRichestOther_67 ?_
            refine z_iconst (v := 2) X dX11_findRichestOther_70 (by decide) ?_
            refine z_icmp_lt (tgt := 98) X dX11_findRichestOther_71 (by decide) (fun q => ?_) (fun q => ?_)
            · have h := zp q h
              refine zz.pick (lo' := [(1, .ref (ad 4 v1.toNatClampNeg)), (2, va_rf (qn (ad 4) v2)), (3, .int v3), (4, .ref (ad 29 0)), (5, .int v5), (6, .int v6)]) [1, 2, 3, 4, 5, 6] rfl ?_
              exact bc_findRichestOther_98 X hml hr ih h11 fv1 fv2 h
            · have h := zn q h
              refine z_aload X dX11_findRichestOther_74 rfl ?_
              refine c_get X 4 5 (v := .ref (ad 8 (V 104 v6.toNatClampNeg).toNatClampNeg)) rx4_ws rfl rfl rfl (vp_lt p4) g_936 rfl dX11_findRichestOther_76 ?_
              obtain ⟨o8, co8, h⟩ := zb2 h
              refine z_callVi (As := []) (rest := []) (nA := 0) (mc := 0) (ms := 0) (rm := ({ frames := 1, cells := 0, slots := 0, locals := 42 } : Room)) (r0 := o8) (pu := fun (_ : Unit) => True) (G1 := fun _ => cx D dA A V L N ad xs) X (cc_Slice_moneyLeft l X.2.2.2.2.2.2.2.2 X.2.2.2.2.2.2.1 h11 p7 co8) g_833 g_834 g_835 g_34 g_836 hd_yX8_moneyLeft ⟨rfl, rfl, Nat.le_of_ble_eq_true rfl, Nat.le_of_ble_eq_true rfl⟩ rfl (fun _ hG => cx_recv X (k := 8) (n := 3) rfl rfl (vp_lt p7) hG) rfl (Nat.le_of_ble_eq_true rfl) dX11_findRichestOther_79 ⟨Nat.le_refl _, Nat.le_refl _⟩ (fun _ _ => ?_)
              refine z_iload_n X dX11_findRichestOther_82 rfl rfl ?_
              refine z_icmp_le (tgt := 98) X dX11_findRichestOther_83 (by decide) (fun q => ?_) (fun q => ?_)
              · have h := zp q h
                refine zz.pick (lo' := [(1, .ref (ad 4 v1.toNatClampNeg)), (2, va_rf (qn (ad 4) v2)), (3, .int v3), (4, .ref (ad 29 0)), (5, .int v5), (6, .int v6)]) [1, 2, 3, 4, 5, 6] rfl ?_
                exact bc_findRichestOther_98 X hml hr ih h11 fv1 fv2 h
              · have h := zn q h
                refine z_aload X dX11_findRichestOther_86 rfl ?_
                refine z_astore_n (lo' := [(2, .ref (ad 4 (V 104 v6.toNatClampNeg).toNatClampNeg)), (8, .ref (ad 4 (V 104 v6.toNatClampNeg).toNatClampNeg)), (7, .ref (ad 5 v6.toNatClampNeg)), (1, .ref (ad 4 v1.toNatClampNeg)), (3, .int v3), (4, .ref (ad 29 0)), (5, .int v5), (6, .int v6)]) X dX11_findRichestOther_88 rfl (by rw [hml]; decide) rfl rfl ?_
                refine z_aload X dX11_findRichestOther_89 rfl ?_
                refine c_get X 4 5 (v := .ref (ad 8 (V 104 v6.toNatClampNeg).toNatClampNeg)) rx4_ws rfl rfl rfl (vp_lt p4) g_936 rfl dX11_findRichestOther_91 ?_
                obtain ⟨o9, co9, h⟩ := zb2 h
                refine z_callVi (As := []) (rest := []) (nA := 0) (mc := 0) (ms := 0) (rm := ({ frames := 1, cells := 0, slots := 0, locals := 42 } : Room)) (r0 := o9) (pu := fun (_ : Unit) => True) (G1 := fun _ => cx D dA A V L N ad xs) X (cc_Slice_moneyLeft l X.2.2.2.2.2.2.2.2 X.2.2.2.2.2.2.1 h11 p7 co9) g_833 g_834 g_835 g_34 g_836 hd_yX8_moneyLeft ⟨rfl, rfl, Nat.le_of_ble_eq_true rfl, Nat.le_of_ble_eq_true rfl⟩ rfl (fun _ hG => cx_recv X (k := 8) (n := 3) rfl rfl (vp_lt p7) hG) rfl (Nat.le_of_ble_eq_true rfl) dX11_findRichestOther_94 ⟨Nat.le_refl _, Nat.le_refl _⟩ (fun _ _ => ?_)
                refine z_istore_n (lo' := [(3, .int o9), (2, .ref (ad 4 (V 104 v6.toNatClampNeg).toNatClampNeg)), (8, .ref (ad 4 (V 104 v6.toNatClampNeg).toNatClampNeg)), (7, .ref (ad 5 v6.toNatClampNeg)), (1, .ref (ad 4 v1.toNatClampNeg)), (4, .ref (ad 29 0)), (5, .int v5), (6, .int v6)]) X dX11_findRichestOther_97 rfl (by rw [hml]; decide) rfl rfl ?_
                refine zz.pick (lo' := [(1, .ref (ad 4 v1.toNatClampNeg)), (2, va_rf (qn (ad 4) (V 104 v6.toNatClampNeg))), (3, .int o9), (4, .ref (ad 29 0)), (5, .int v5), (6, .int v6)]) [1, 2, 3, 4, 5, 6] (by rw [qn_ref (vp_ne p4)]; rfl) ?_
                exact bc_findRichestOther_98 X hml hr ih h11 fv1 (Or.inr p4) h
          · have h := zn q h
            refine zz.pick (lo' := [(1, .ref (ad 4 v1.toNatClampNeg)), (2, va_rf (qn (ad 4) v2)), (3, .int v3), (4, .ref (ad 29 0)), (5, .int v5), (6, .int v6)]) [1, 2, 3, 4, 5, 6] rfl ?_
            exact bc_findRichestOther_98 X hml hr ih h11 fv1 fv2 h
def fc_findRichestOther (V : Rho) (L : Lst) (N : Cnt) (a1 : Int32) : Option (Int32) := fc_findRichestOther_18 FU V L N a1 (-1) 0 10 0
set_option maxRecDepth 100000 in
set_option maxHeartbeats 4000000 in
theorem bc_findRichestOther {p : Program} {l : Launch} {e : Env} {s : State} {m : MethodId} {args : Array Value} {below : List Frame} {meth : Method} {c : Code} {D : va_G} {dA : Nat → ClassId} {A : Nat → Prop} {xs : va_W} {o : Int32} {V : Rho} {L : Lst} {N : Cnt} {ad : Adr} (X : zc p l s m args meth c cX11_findRichestOther RX11 D dA A) (hml : c.maxLocals = 9) (hr : meth.sig.returnType = (some (.object "MeshBiller$Leg"))) (h11 : 0 < N 11) {a1 : Int32} (va1 : vp_in a1 (N 4)) (h : fc_findRichestOther V L N a1 = some o) : zz p l e ({ frames := 2, cells := 0, slots := 0, locals := 84 } : Room) s m args below meth c A (cx D dA A V L N ad xs) 0 0 (MQ below (va_Qq (fun r (w9 : Unit) => r = qn (ad 4) o ∧ (o = -1 ∨ vp_in o (N 4))) (fun (w9 : Unit) t => cx D dA A V L N ad xs t.heap) A) args s 0 0 A) 0 [(0, .ref (ad 11 0)), (1, .ref (ad 4 a1.toNatClampNeg))] [] [] := by
  unfold fc_findRichestOther at h
  refine z_null X dX11_findRichestOther_0 ?_
  refine z_astoreq_n (o := none) (lo' := [(2, .null), (0, .ref (ad 11 0)), (1, .ref (ad 4 a1.toNatClampNeg))]) X dX11_findRichestOther_1 rfl (by rw [hml]; decide) rfl rfl ?_
  refine z_iconst (v := 0) X dX11_findRichestOther_2 (by decide) ?_
  refine z_istore_n (lo' := [(3, .int 0), (2, .null), (0, .ref (ad 11 0)), (1, .ref (ad 4 a1.toNatClampNeg))]) X dX11_findRichestOther_3 rfl (by rw [hml]; decide) rfl rfl ?_
  refine z_aload_n X dX11_findRichestOther_4 rfl rfl ?_
  refine c_get X 11 3 (v := .ref (ad 29 0)) rx11_ws rfl rfl rfl h11 g_275 rfl dX11_findRichestOther_5 ?_
  refine z_astore (lo' := [(4, .ref (ad 29 0)), (3, .int 0), (2, .null), (0, .ref (ad 11 0)), (1, .ref (ad 4 a1.toNatClampNeg))]) X dX11_findRichestOther_8 (by rw [hml]; decide) rfl rfl ?_
  refine z_aload X dX11_findRichestOther_10 rfl ?_
  refine c_alen X 29 (n := 10) rfl rfl rfl h11 (by decide) dX11_findRichestOther_12 ?_
  refine z_istore (lo' := [(5, .int 10), (4, .ref (ad 29 0)), (3, .int 0), (2, .null), (0, .ref (ad 11 0)), (1, .ref (ad 4 a1.toNatClampNeg))]) X dX11_findRichestOther_13 (by rw [hml]; decide) rfl rfl ?_
  refine z_iconst (v := 0) X dX11_findRichestOther_15 (by decide) ?_
  refine z_istore (lo' := [(6, .int 0), (5, .int 10), (4, .ref (ad 29 0)), (3, .int 0), (2, .null), (0, .ref (ad 11 0)), (1, .ref (ad 4 a1.toNatClampNeg))]) X dX11_findRichestOther_16 (by rw [hml]; decide) rfl rfl ?_
  refine zz.pick (lo' := [(1, .ref (ad 4 a1.toNatClampNeg)), (2, va_rf (qn (ad 4) (-1))), (3, .int 0), (4, .ref (ad 29 0)), (5, .int 10), (6, .int 0)]) [1, 2, 3, 4, 5, 6] (by rw [qn_null]; rfl) ?_
  exact bc_findRichestOther_18 X hml hr FU h11 va1 (Or.inl rfl) h
theorem cc_findRichestOther (l : Launch) {D : va_G} {dA : Nat → ClassId} {A : Nat → Prop} {n : Nat} (hst : l.stackTraces = false) (hA : ∀ q, n ≤ q → A q) {V : Rho} {L : Lst} {N : Cnt} {ad : Adr} {xs : va_W} (h11 : 0 < N 11) {a1 : Int32} (va1 : vp_in a1 (N 4)) {o : Int32} (h : fc_findRichestOther V L N a1 = some o) : Met l yX11_findRichestOther (.code yX11_findRichestOther cX11_findRichestOther 9 (some (.object "MeshBiller$Leg")) :: gT) ({ frames := 2, cells := 0, slots := 0, locals := 84 } : Room) (va_Pc [.ref (ad 11 0), .ref (ad 4 a1.toNatClampNeg)] (zB D dA A n (cx D dA A V L N ad xs))) (va_Qq (fun r (w9 : Unit) => r = qn (ad 4) o ∧ (o = -1 ∨ vp_in o (N 4))) (fun (w9 : Unit) t => cx D dA A V L N ad xs t.heap) A) 0 0 A :=
  z_met (by decide) hA hst (Nat.le_of_ble_eq_true rfl) rfl rfl (fun p e s m below meth c X hml hr _ => bc_findRichestOther X hml hr h11 va1 h)
-- MeshBiller.raiseMoney(LMeshBiller$Leg;I)V
def fc_raiseMoney_2 : Nat → Rho → Lst → Cnt → Int32 → Int32 → Int32 → Option (Rho)
  | 0, _, _, _, _, _, _ => none
  | n + 1, V, L, N, v1, v2, v3 => (if 1000 ≤ v3 then some V
  else (if v2 ≤ (V 182 (V 83 v1.toNatClampNeg).toNatClampNeg) then some V
  else (fc_findRichestOther V L N v1).bind fun o2 => (if o2 = -1 then some V
  else (some (((V 160 o2.toNatClampNeg) / 2))).bind fun x6 => (some (cs V 160 o2.toNatClampNeg ((V 160 o2.toNatClampNeg) - x6))).bind fun V7 => (some (cs V7 182 (V7 83 v1.toNatClampNeg).toNatClampNeg ((V7 182 (V7 83 v1.toNatClampNeg).toNatClampNeg) + (x6 * (V7 161 o2.toNatClampNeg))))).bind fun V9 => (some (v3 + 1)).bind fun x10 => fc_raiseMoney_2 n V9 L N v1 v2 x10)))
set_option maxRecDepth 100000 in
set_option maxHeartbeats 4000000 in
theorem bc_raiseMoney_2 {p : Program} {l : Launch} {e : Env} {s : State} {m : MethodId} {args : Array Value} {below : List Frame} {meth : Method} {c : Code} {D : va_G} {dA : Nat → ClassId} {A : Nat → Prop} {xs : va_W} {o : Rho} {L : Lst} {N : Cnt} {ad : Adr} (X : zc p l s m args meth c cX11_raiseMoney RX11 D dA A) (hml : c.maxLocals = 6) (hr : meth.sig.returnType = none) : ∀ (n : Nat) {V : Rho} (h11 : 0 < N 11) {v1 : Int32} {v2 : Int32} {v3 : Int32} (fv1 : vp_in v1 (N 4)) , fc_raiseMoney_2 n V L N v1 v2 v3 = some o → zz p l e ({ frames := 3, cells := 0, slots := 0, locals := 126 } : Room) s m args below meth c A (cx D dA A V L N ad xs) 0 0 (MQ below (va_Qv (fun (w9 : Unit) => True) (fun (w9 : Unit) t => cx D dA A o L N ad xs t.heap) A) args s 0 0 A) 2 [(0, .ref (ad 11 0)), (1, .ref (ad 4 v1.toNatClampNeg)), (2, .int v2), (3, .int v3)] [] [] := by
  intro n
  induction n with
  | zero => intro V h11 v1 v2 v3 fv1 h; exact (nomatch (show none = some o from h))
  | succ n ih =>
    intro V h11 v1 v2 v3 fv1 h
    rw [fc_raiseMoney_2] at h
    refine z_iload_n X dX11_raiseMoney_2 rfl rfl ?_
    refine z_sipush (v := 1000) X dX11_raiseMoney_3 (by decide) ?_
    refine z_icmp_ge (tgt := 89) X dX11_raiseMoney_6 (by decide) (fun q => ?_) (fun q => ?_)
    · have h := zp q h
      obtain rfl := Option.some.inj h
      exact z_vret X hr (fun t hG hF _ => ⟨⟨(), rfl, trivial, hG⟩, hF⟩) dX11_raiseMoney_89
    · have h := zn q h
      refine z_aload_n X dX11_raiseMoney_9 rfl rfl ?_
      refine c_get X 4 3 (v := .ref (ad 9 (V 83 v1.toNatClampNeg).toNatClampNeg)) rx4_ws rfl rfl rfl (vp_lt fv1) g_933 rfl dX11_raiseMoney_10 ?_
      refine zz.pre (fun H hG => cx_fact (k := 4) (i := v1.toNatClampNeg) (f := 3) rfl (vp_lt fv1) rfl hG) (fun (p1 : vp_in (V 83 v1.toNatClampNeg) (N 9)) => ?_)
      refine c_get X 9 2 (v := .int (V 182 (V 83 v1.toNatClampNeg).toNatClampNeg)) rx9_ws rfl rfl rfl (vp_lt p1) g_226 rfl dX11_raiseMoney_13 ?_
      refine z_iload_n X dX11_raiseMoney_16 rfl rfl ?_
      refine z_icmp_ge (tgt := 89) X dX11_raiseMoney_17 (by decide) (fun q => ?_) (fun q => ?_)
      · have h := zp q h
        obtain rfl := Option.some.inj h
        exact z_vret X hr (fun t hG hF _ => ⟨⟨(), rfl, trivial, hG⟩, hF⟩) dX11_raiseMoney_89
      · have h := zn q h
        refine z_aload_n X dX11_raiseMoney_20 rfl rfl ?_
        refine z_aload_n X dX11_raiseMoney_21 rfl rfl ?_
        obtain ⟨o2, co2, h⟩ := zb2 h
        refine z_callVq (As := [.ref (ad 4 v1.toNatClampNeg)]) (rest := []) (nA := 1) (mc := 0) (ms := 0) (rm := ({ frames := 2, cells := 0, slots := 0, locals := 84 } : Room)) (ro := fun _ => qn (ad 4) o2) (pu := fun (_ : Unit) => (o2 = -1 ∨ vp_in o2 (N 4))) (G1 := fun _ => cx D dA A V L N ad xs) X (cc_findRichestOther l X.2.2.2.2.2.2.2.2 X.2.2.2.2.2.2.1 h11 fv1 co2) g_1041 g_1043 gs_16 g_1 g_1044 hd_yX11_findRichestOther ⟨rfl, rfl, Nat.le_of_ble_eq_true rfl, Nat.le_of_ble_eq_true rfl⟩ rfl (fun _ hG => cx_recv X (k := 11) (n := 9) rfl rfl h11 hG) rfl (Nat.le_of_ble_eq_true rfl) dX11_raiseMoney_22 ⟨Nat.le_refl _, Nat.le_refl _⟩ (fun _ p3 => ?_)
        refine z_astoreq (lo' := [(4, va_rf (qn (ad 4) o2)), (0, .ref (ad 11 0)), (1, .ref (ad 4 v1.toNatClampNeg)), (2, .int v2), (3, .int v3)]) X dX11_raiseMoney_25 (by rw [hml]; decide) rfl rfl ?_
        refine z_aloadq X dX11_raiseMoney_27 rfl ?_
        refine c_ifnonnull (tgt := 33) X dX11_raiseMoney_29 (by decide) (fun q => ?_) (fun q => ?_)
        · have h := zp q h
          obtain rfl := Option.some.inj h
          exact z_vret X hr (fun t hG hF _ => ⟨⟨(), rfl, trivial, hG⟩, hF⟩) dX11_raiseMoney_32
        · have h := zn q h
          have p4 := p3.resolve_left q
          rw [qn_ref q]
          refine z_aload X dX11_raiseMoney_33 rfl ?_
          refine c_get X 4 5 (v := .ref (ad 8 o2.toNatClampNeg)) rx4_ws rfl rfl rfl (vp_lt p4) g_936 rfl dX11_raiseMoney_35 ?_
          refine zz.pre (fun H hG => vp_mono p4 hG.2.2.2.2.2.2.2.2.1.2.1) (fun (p5 : vp_in o2 (N 8)) => ?_)
          refine c_get X 8 0 (v := .int (V 160 o2.toNatClampNeg)) rx8_ws rfl rfl rfl (vp_lt p5) g_911 rfl dX11_raiseMoney_38 ?_
          refine z_iconst (v := 2) X dX11_raiseMoney_41 (by decide) ?_
          refine z_idiv X dX11_raiseMoney_42 (by decide) ?_
          obtain ⟨x6, ex6, h⟩ := zb h
          rw [ex6]
          refine z_istore (lo' := [(5, .int x6), (4, .ref (ad 4 o2.toNatClampNeg)), (0, .ref (ad 11 0)), (1, .ref (ad 4 v1.toNatClampNeg)), (2, .int v2), (3, .int v3)]) X dX11_raiseMoney_43 (by rw [hml]; decide) rfl rfl ?_
          refine z_aload X dX11_raiseMoney_45 rfl ?_
          refine c_get X 4 5 (v := .ref (ad 8 o2.toNatClampNeg)) rx4_ws rfl rfl rfl (vp_lt p4) g_936 rfl dX11_raiseMoney_47 ?_
          refine z_dup X dX11_raiseMoney_50 rfl ?_
          refine c_get X 8 0 (v := .int (V 160 o2.toNatClampNeg)) rx8_ws rfl rfl rfl (vp_lt p5) g_911 rfl dX11_raiseMoney_51 ?_
          refine z_iload X dX11_raiseMoney_54 rfl ?_
          refine z_isub X dX11_raiseMoney_56 ?_
          obtain ⟨V7, eV7, h⟩ := zb h
          refine c_put X 8 0 (x := ((V 160 o2.toNatClampNeg) - x6)) (v := .int ((V 160 o2.toNatClampNeg) - x6)) (ty := .int) rx8_ws rfl tyX8_ok nmX8 rfl rfl (vp_lt p5) rfl g_911 rfl trivial rfl rfl rfl eV7 dX11_raiseMoney_57 ?_
          refine z_aload_n X dX11_raiseMoney_60 rfl rfl ?_
          refine c_get X 4 3 (v := .ref (ad 9 (V7 83 v1.toNatClampNeg).toNatClampNeg)) rx4_ws rfl rfl rfl (vp_lt fv1) g_933 rfl dX11_raiseMoney_61 ?_
          refine zz.pre (fun H hG => cx_fact (k := 4) (i := v1.toNatClampNeg) (f := 3) rfl (vp_lt fv1) rfl hG) (fun (p8 : vp_in (V7 83 v1.toNatClampNeg) (N 9)) => ?_)
          refine z_dup X dX11_raiseMoney_64 rfl ?_
          refine c_get X 9 2 (v := .int (V7 182 (V7 83 v1.toNatClampNeg).toNatClampNeg)) rx9_ws rfl rfl rfl (vp_lt p8) g_226 rfl dX11_raiseMoney_65 ?_
          refine z_iload X dX11_raiseMoney_68 rfl ?_
          refine z_aload X dX11_raiseMoney_70 rfl ?_
          refine c_get X 4 5 (v := .ref (ad 8 o2.toNatClampNeg)) rx4_ws rfl rfl rfl (vp_lt p4) g_936 rfl dX11_raiseMoney_72 ?_
          refine c_get X 8 1 (v := .int (V7 161 o2.toNatClampNeg)) rx8_ws rfl rfl rfl (vp_lt p5) g_913 rfl dX11_raiseMoney_75 ?_
          refine z_imul X dX11_raiseMoney_78 ?_
          refine z_iadd X dX11_raiseMoney_79 ?_
          obtain ⟨V9, eV9, h⟩ := zb h
          refine c_put X 9 2 (x := ((V7 182 (V7 83 v1.toNatClampNeg).toNatClampNeg) + (x6 * (V7 161 o2.toNatClampNeg)))) (v := .int ((V7 182 (V7 83 v1.toNatClampNeg).toNatClampNeg) + (x6 * (V7 161 o2.toNatClampNeg)))) (ty := .int) rx9_ws rfl tyX9_ok nmX9 rfl rfl (vp_lt p8) rfl g_226 rfl trivial rfl rfl rfl eV9 dX11_raiseMoney_80 ?_
          obtain ⟨x10, ex10, h⟩ := zb h
          refine z_iinc (v := x10) (lo' := [(3, .int x10), (5, .int x6), (4, .ref (ad 4 o2.toNatClampNeg)), (0, .ref (ad 11 0)), (1, .ref (ad 4 v1.toNatClampNeg)), (2, .int v2)]) X dX11_raiseMoney_83 rfl ex10 (by rw [hml]; decide) rfl rfl ?_
          refine z_goto (tgt := 2) X dX11_raiseMoney_86 (by decide) ?_
          refine zz.pick (lo' := [(0, .ref (ad 11 0)), (1, .ref (ad 4 v1.toNatClampNeg)), (2, .int v2), (3, .int x10)]) [0, 1, 2, 3] rfl ?_
          exact ih h11 fv1 h
def fc_raiseMoney (V : Rho) (L : Lst) (N : Cnt) (a1 : Int32) (a2 : Int32) : Option (Rho) := fc_raiseMoney_2 FU V L N a1 a2 0
set_option maxRecDepth 100000 in
set_option maxHeartbeats 4000000 in
theorem bc_raiseMoney {p : Program} {l : Launch} {e : Env} {s : State} {m : MethodId} {args : Array Value} {below : List Frame} {meth : Method} {c : Code} {D : va_G} {dA : Nat → ClassId} {A : Nat → Prop} {xs : va_W} {o : Rho} {L : Lst} {N : Cnt} {ad : Adr} (X : zc p l s m args meth c cX11_raiseMoney RX11 D dA A) (hml : c.maxLocals = 6) (hr : meth.sig.returnType = none) {V : Rho} (h11 : 0 < N 11) {a1 : Int32} {a2 : Int32} (va1 : vp_in a1 (N 4)) (h : fc_raiseMoney V L N a1 a2 = some o) : zz p l e ({ frames := 3, cells := 0, slots := 0, locals := 126 } : Room) s m args below meth c A (cx D dA A V L N ad xs) 0 0 (MQ below (va_Qv (fun (w9 : Unit) => True) (fun (w9 : Unit) t => cx D dA A o L N ad xs t.heap) A) args s 0 0 A) 0 [(0, .ref (ad 11 0)), (1, .ref (ad 4 a1.toNatClampNeg)), (2, .int a2)] [] [] := by
  unfold fc_raiseMoney at h
  refine z_iconst (v := 0) X dX11_raiseMoney_0 (by decide) ?_
  refine z_istore_n (lo' := [(3, .int 0), (0, .ref (ad 11 0)), (1, .ref (ad 4 a1.toNatClampNeg)), (2, .int a2)]) X dX11_raiseMoney_1 rfl (by rw [hml]; decide) rfl rfl ?_
  refine zz.pick (lo' := [(0, .ref (ad 11 0)), (1, .ref (ad 4 a1.toNatClampNeg)), (2, .int a2), (3, .int 0)]) [0, 1, 2, 3] rfl ?_
  exact bc_raiseMoney_2 X hml hr FU h11 va1 h
theorem cc_raiseMoney (l : Launch) {D : va_G} {dA : Nat → ClassId} {A : Nat → Prop} {n : Nat} (hst : l.stackTraces = false) (hA : ∀ q, n ≤ q → A q) {V : Rho} {L : Lst} {N : Cnt} {ad : Adr} {xs : va_W} (h11 : 0 < N 11) {a1 : Int32} {a2 : Int32} (va1 : vp_in a1 (N 4)) {o : Rho} (h : fc_raiseMoney V L N a1 a2 = some o) : Met l yX11_raiseMoney (.code yX11_raiseMoney cX11_raiseMoney 6 none :: gT) ({ frames := 3, cells := 0, slots := 0, locals := 126 } : Room) (va_Pc [.ref (ad 11 0), .ref (ad 4 a1.toNatClampNeg), .int a2] (zB D dA A n (cx D dA A V L N ad xs))) (va_Qv (fun (w9 : Unit) => True) (fun (w9 : Unit) t => cx D dA A o L N ad xs t.heap) A) 0 0 A :=
  z_met (by decide) hA hst (Nat.le_of_ble_eq_true rfl) rfl rfl (fun p e s m below meth c X hml hr _ => bc_raiseMoney X hml hr h11 va1 h)
-- MeshBiller$Slice.takeFromMoney(II)V
def fc_Slice_takeFromMoney (V : Rho) (L : Lst) (N : Cnt) (a0 : Int32) (a1 : Int32) (a2 : Int32) : Option (Rho) := (some (cs V 162 a0.toNatClampNeg (-1))).bind fun V1 => (some (cs V1 161 a0.toNatClampNeg a2)).bind fun V2 => (some (cs V2 160 a0.toNatClampNeg a1)).bind fun V3 => some V3
set_option maxRecDepth 100000 in
set_option maxHeartbeats 4000000 in
theorem bc_Slice_takeFromMoney {p : Program} {l : Launch} {e : Env} {s : State} {m : MethodId} {args : Array Value} {below : List Frame} {meth : Method} {c : Code} {D : va_G} {dA : Nat → ClassId} {A : Nat → Prop} {xs : va_W} {o : Rho} {L : Lst} {N : Cnt} {ad : Adr} (X : zc p l s m args meth c cX8_takeFromMoney RX8 D dA A) (hml : c.maxLocals = 3) (hr : meth.sig.returnType = none) {V : Rho} (h11 : 0 < N 11) {a0 : Int32} {a1 : Int32} {a2 : Int32} (va0 : vp_in a0 (N 8)) (h : fc_Slice_takeFromMoney V L N a0 a1 a2 = some o) : zz p l e ({ frames := 1, cells := 0, slots := 0, locals := 42 } : Room) s m args below meth c A (cx D dA A V L N ad xs) 0 0 (MQ below (va_Qv (fun (w9 : Unit) => True) (fun (w9 : Unit) t => cx D dA A o L N ad xs t.heap) A) args s 0 0 A) 0 [(0, .ref (ad 8 a0.toNatClampNeg)), (1, .int a1), (2, .int a2)] [] [] := by
  unfold fc_Slice_takeFromMoney at h
  refine z_aload_n X dX8_takeFromMoney_0 rfl rfl ?_
  refine z_null X dX8_takeFromMoney_1 ?_
  obtain ⟨V1, eV1, h⟩ := zb h
  refine c_put X 8 2 (x := (-1)) (v := .null) (ty := (.object "MeshBiller$Bundle")) rx8_ws rfl tyX8_ok nmX8 rfl rfl (vp_lt va0) rfl g_914 (qn_nullv (ad 0)) (Or.inl rfl) rfl rfl rfl eV1 dX8_takeFromMoney_2 ?_
  refine z_aload_n X dX8_takeFromMoney_5 rfl rfl ?_
  refine z_iload_n X dX8_takeFromMoney_6 rfl rfl ?_
  obtain ⟨V2, eV2, h⟩ := zb h
  refine c_put X 8 1 (x := a2) (v := .int a2) (ty := .int) rx8_ws rfl tyX8_ok nmX8 rfl rfl (vp_lt va0) rfl g_912 rfl trivial rfl rfl rfl eV2 dX8_takeFromMoney_7 ?_
  refine z_aload_n X dX8_takeFromMoney_10 rfl rfl ?_
  refine z_iload_n X dX8_takeFromMoney_11 rfl rfl ?_
  obtain ⟨V3, eV3, h⟩ := zb h
  refine c_put X 8 0 (x := a1) (v := .int a1) (ty := .int) rx8_ws rfl tyX8_ok nmX8 rfl rfl (vp_lt va0) rfl g_909 rfl trivial rfl rfl rfl eV3 dX8_takeFromMoney_12 ?_
  obtain rfl := Option.some.inj h
  exact z_vret X hr (fun t hG hF _ => ⟨⟨(), rfl, trivial, hG⟩, hF⟩) dX8_takeFromMoney_15
theorem cc_Slice_takeFromMoney (l : Launch) {D : va_G} {dA : Nat → ClassId} {A : Nat → Prop} {n : Nat} (hst : l.stackTraces = false) (hA : ∀ q, n ≤ q → A q) {V : Rho} {L : Lst} {N : Cnt} {ad : Adr} {xs : va_W} (h11 : 0 < N 11) {a0 : Int32} {a1 : Int32} {a2 : Int32} (va0 : vp_in a0 (N 8)) {o : Rho} (h : fc_Slice_takeFromMoney V L N a0 a1 a2 = some o) : Met l yX8_takeFromMoney (.code yX8_takeFromMoney cX8_takeFromMoney 3 none :: gT) ({ frames := 1, cells := 0, slots := 0, locals := 42 } : Room) (va_Pc [.ref (ad 8 a0.toNatClampNeg), .int a1, .int a2] (zB D dA A n (cx D dA A V L N ad xs))) (va_Qv (fun (w9 : Unit) => True) (fun (w9 : Unit) t => cx D dA A o L N ad xs t.heap) A) 0 0 A :=
  z_met (by decide) hA hst (Nat.le_of_ble_eq_true rfl) rfl rfl (fun p e s m below meth c X hml hr _ => bc_Slice_takeFromMoney X hml hr h11 va0 h)
-- MeshBiller.takeSlice(LMeshBiller$Leg;)Z
def fc_takeSlice_119 (V : Rho) (L : Lst) (N : Cnt) (v1 : Int32) (v3 : Int32) (v4 : Int32) : Option (Rho × Int32) := (if 1 ≤ v4 then (some (cs V 182 (V 83 v1.toNatClampNeg).toNatClampNeg ((V 182 (V 83 v1.toNatClampNeg).toNatClampNeg) - (v4 * v3)))).bind fun V2 => (fc_Slice_takeFromMoney V2 L N v1 v4 v3).bind fun o4 => some (o4, 1)
  else some (V, 0))
set_option maxRecDepth 100000 in
set_option maxHeartbeats 4000000 in
theorem bc_takeSlice_119 {p : Program} {l : Launch} {e : Env} {s : State} {m : MethodId} {args : Array Value} {below : List Frame} {meth : Method} {c : Code} {D : va_G} {dA : Nat → ClassId} {A : Nat → Prop} {xs : va_W} {o : Rho × Int32} {L : Lst} {N : Cnt} {ad : Adr} (X : zc p l s m args meth c cX11_takeSlice RX11 D dA A) (hml : c.maxLocals = 5) (hr : meth.sig.returnType = (some .boolean)) {V : Rho} (h11 : 0 < N 11) {v1 : Int32} {v3 : Int32} {v4 : Int32} (fv1 : vp_in v1 (N 4)) (h : fc_takeSlice_119 V L N v1 v3 v4 = some o) : zz p l e ({ frames := 10, cells := 0, slots := 0, locals := 420 } : Room) s m args below meth c A (cx D dA A V L N ad xs) 0 0 (MQ below (va_Qi (fun r (w9 : Unit) => r = o.2 ∧ True) (fun (w9 : Unit) t => cx D dA A o.1 L N ad xs t.heap) A) args s 0 0 A) 119 [(1, .ref (ad 4 v1.toNatClampNeg)), (3, .int v3), (4, .int v4)] [] [] := by
  unfold fc_takeSlice_119 at h
  refine z_iload X dX11_takeSlice_119 rfl ?_
  refine z_iconst (v := 1) X dX11_takeSlice_121 (by decide) ?_
  refine z_icmp_ge (tgt := 127) X dX11_takeSlice_122 (by decide) (fun q => ?_) (fun q => ?_)
  · have h := zp q h
    refine z_aload_n X dX11_takeSlice_127 rfl rfl ?_
    refine c_get X 4 3 (v := .ref (ad 9 (V 83 v1.toNatClampNeg).toNatClampNeg)) rx4_ws rfl rfl rfl (vp_lt fv1) g_933 rfl dX11_takeSlice_128 ?_
    refine zz.pre (fun H hG => cx_fact (k := 4) (i := v1.toNatClampNeg) (f := 3) rfl (vp_lt fv1) rfl hG) (fun (p1 : vp_in (V 83 v1.toNatClampNeg) (N 9)) => ?_)
    refine z_dup X dX11_takeSlice_131 rfl ?_
    refine c_get X 9 2 (v := .int (V 182 (V 83 v1.toNatClampNeg).toNatClampNeg)) rx9_ws rfl rfl rfl (vp_lt p1) g_226 rfl dX11_takeSlice_132 ?_
    refine z_iload X dX11_takeSlice_135 rfl ?_
    refine z_iload_n X dX11_takeSlice_137 rfl rfl ?_
    refine z_imul X dX11_takeSlice_138 ?_
    refine z_isub X dX11_takeSlice_139 ?_
    obtain ⟨V2, eV2, h⟩ := zb h
    refine c_put X 9 2 (x := ((V 182 (V 83 v1.toNatClampNeg).toNatClampNeg) - (v4 * v3))) (v := .int ((V 182 (V 83 v1.toNatClampNeg).toNatClampNeg) - (v4 * v3))) (ty := .int) rx9_ws rfl tyX9_ok nmX9 rfl rfl (vp_lt p1) rfl g_226 rfl trivial rfl rfl rfl eV2 dX11_takeSlice_140 ?_
    refine z_aload_n X dX11_takeSlice_143 rfl rfl ?_
    refine c_get X 4 5 (v := .ref (ad 8 v1.toNatClampNeg)) rx4_ws rfl rfl rfl (vp_lt fv1) g_936 rfl dX11_takeSlice_144 ?_
    refine zz.pre (fun H hG => vp_mono fv1 hG.2.2.2.2.2.2.2.2.1.2.1) (fun (p3 : vp_in v1 (N 8)) => ?_)
    refine z_iload X dX11_takeSlice_147 rfl ?_
    refine z_iload_n X dX11_takeSlice_149 rfl rfl ?_
    obtain ⟨o4, co4, h⟩ := zb2 h
    refine z_callVv (As := [.int v4, .int v3]) (rest := []) (nA := 2) (mc := 0) (ms := 0) (rm := ({ frames := 1, cells := 0, slots := 0, locals := 42 } : Room)) (pu := fun (_ : Unit) => True) (G1 := fun _ => cx D dA A o4 L N ad xs) X (cc_Slice_takeFromMoney l X.2.2.2.2.2.2.2.2 X.2.2.2.2.2.2.1 h11 p3 co4) g_1045 g_1046 g_1047 g_34 g_1048 hd_yX8_takeFromMoney ⟨rfl, rfl, Nat.le_of_ble_eq_true rfl, Nat.le_of_ble_eq_true rfl⟩ rfl (fun _ hG => cx_recv X (k := 8) (n := 3) rfl rfl (vp_lt p3) hG) rfl (Nat.le_of_ble_eq_true rfl) dX11_takeSlice_150 ⟨Nat.le_refl _, Nat.le_refl _⟩ (fun _ _ => ?_)
    refine z_iconst (v := 1) X dX11_takeSlice_153 (by decide) ?_
    obtain rfl := Option.some.inj h
    exact z_iret X hr rfl (fun t hG hF _ => ⟨⟨_, (), rfl, ⟨rfl, trivial⟩, hG⟩, hF⟩) dX11_takeSlice_154
  · have h := zn q h
    refine z_iconst (v := 0) X dX11_takeSlice_125 (by decide) ?_
    obtain rfl := Option.some.inj h
    exact z_iret X hr rfl (fun t hG hF _ => ⟨⟨_, (), rfl, ⟨rfl, trivial⟩, hG⟩, hF⟩) dX11_takeSlice_126
def fc_takeSlice_103 (V : Rho) (L : Lst) (N : Cnt) (v1 : Int32) (v3 : Int32) (v4 : Int32) : Option (Rho × Int32) := if v3 = 0 then none else (some (if ((V 182 (V 83 v1.toNatClampNeg).toNatClampNeg) / v3) < v4 then ((V 182 (V 83 v1.toNatClampNeg).toNatClampNeg) / v3) else v4)).bind fun x3 => fc_takeSlice_119 V L N v1 v3 x3
set_option maxRecDepth 100000 in
set_option maxHeartbeats 4000000 in
theorem bc_takeSlice_103 {p : Program} {l : Launch} {e : Env} {s : State} {m : MethodId} {args : Array Value} {below : List Frame} {meth : Method} {c : Code} {D : va_G} {dA : Nat → ClassId} {A : Nat → Prop} {xs : va_W} {o : Rho × Int32} {L : Lst} {N : Cnt} {ad : Adr} (X : zc p l s m args meth c cX11_takeSlice RX11 D dA A) (hml : c.maxLocals = 5) (hr : meth.sig.returnType = (some .boolean)) {V : Rho} (h11 : 0 < N 11) {v1 : Int32} {v3 : Int32} {v4 : Int32} (fv1 : vp_in v1 (N 4)) (h : fc_takeSlice_103 V L N v1 v3 v4 = some o) : zz p l e ({ frames := 10, cells := 0, slots := 0, locals := 420 } : Room) s m args below meth c A (cx D dA A V L N ad xs) 0 0 (MQ below (va_Qi (fun r (w9 : Unit) => r = o.2 ∧ True) (fun (w9 : Unit) t => cx D dA A o.1 L N ad xs t.heap) A) args s 0 0 A) 103 [(1, .ref (ad 4 v1.toNatClampNeg)), (3, .int v3), (4, .int v4)] [] [] := by
  unfold fc_takeSlice_103 at h
  refine z_iload X dX11_takeSlice_103 rfl ?_
  refine z_aload_n X dX11_takeSlice_105 rfl rfl ?_
  refine c_get X 4 3 (v := .ref (ad 9 (V 83 v1.toNatClampNeg).toNatClampNeg)) rx4_ws rfl rfl rfl (vp_lt fv1) g_933 rfl dX11_takeSlice_106 ?_
  refine zz.pre (fun H hG => cx_fact (k := 4) (i := v1.toNatClampNeg) (f := 3) rfl (vp_lt fv1) rfl hG) (fun (p1 : vp_in (V 83 v1.toNatClampNeg) (N 9)) => ?_)
  refine c_get X 9 2 (v := .int (V 182 (V 83 v1.toNatClampNeg).toNatClampNeg)) rx9_ws rfl rfl rfl (vp_lt p1) g_226 rfl dX11_takeSlice_109 ?_
  refine z_iload_n X dX11_takeSlice_112 rfl rfl ?_
  obtain ⟨q2, h⟩ := zg h
  refine z_idiv X dX11_takeSlice_113 q2 ?_
  obtain ⟨x3, ex3, h⟩ := zb h
  refine z_min X g_1020 g_165 g_9 g_166 (Nat.le_of_ble_eq_true rfl) (Nat.le_of_ble_eq_true rfl) ⟨Nat.le_refl _, Nat.le_refl _⟩ dX11_takeSlice_114 ?_
  rw [ex3]
  refine z_istore (lo' := [(4, .int x3), (1, .ref (ad 4 v1.toNatClampNeg)), (3, .int v3)]) X dX11_takeSlice_117 (by rw [hml]; decide) rfl rfl ?_
  refine zz.pick (lo' := [(1, .ref (ad 4 v1.toNatClampNeg)), (3, .int v3), (4, .int x3)]) [1, 3, 4] rfl ?_
  exact bc_takeSlice_119 X hml hr h11 fv1 h
def fc_takeSlice (V : Rho) (L : Lst) (N : Cnt) (a1 : Int32) : Option (Rho × Int32) := (fc_dayOf V L N (V 228 0)).bind fun o5 => (fc_Wallet_findBundle V L N (V 83 a1.toNatClampNeg) (V 41 (V 101 (V 81 a1.toNatClampNeg).toNatClampNeg).toNatClampNeg) o5).bind fun o6 => (if o6 = -1 then (fc_rateNow V L N (V 81 a1.toNatClampNeg)).bind fun o9 => (some ((V 227 0))).bind fun x10 => (if o9 ≤ 0 then fc_takeSlice_119 V L N a1 o9 x10
  else (fc_dayOf V L N (V 228 0)).bind fun o11 => (fc_Phone_mostByCap V L N (V 81 a1.toNatClampNeg) o11).bind fun o12 => if o9 = 0 then none else (some (if (o12 / o9) < x10 then (o12 / o9) else x10)).bind fun x14 => (if x14 ≤ 0 then fc_takeSlice_103 V L N a1 o9 x14
  else (fc_raiseMoney V L N a1 o9).bind fun o15 => fc_takeSlice_103 o15 L N a1 o9 x14))
  else (some (if (V 3 o6.toNatClampNeg) < (V 227 0) then (V 3 o6.toNatClampNeg) else (V 227 0))).bind fun x17 => (fc_Slice_takeFromBundle V L N a1 o6 x17).bind fun o18 => some (o18, 1))
set_option maxRecDepth 100000 in
set_option maxHeartbeats 4000000 in
theorem bc_takeSlice {p : Program} {l : Launch} {e : Env} {s : State} {m : MethodId} {args : Array Value} {below : List Frame} {meth : Method} {c : Code} {D : va_G} {dA : Nat → ClassId} {A : Nat → Prop} {xs : va_W} {o : Rho × Int32} {L : Lst} {N : Cnt} {ad : Adr} (X : zc p l s m args meth c cX11_takeSlice RX11 D dA A) (hml : c.maxLocals = 5) (hr : meth.sig.returnType = (some .boolean)) {V : Rho} (h11 : 0 < N 11) {a1 : Int32} (va1 : vp_in a1 (N 4)) (h : fc_takeSlice V L N a1 = some o) : zz p l e ({ frames := 10, cells := 0, slots := 0, locals := 420 } : Room) s m args below meth c A (cx D dA A V L N ad xs) 0 0 (MQ below (va_Qi (fun r (w9 : Unit) => r = o.2 ∧ True) (fun (w9 : Unit) t => cx D dA A o.1 L N ad xs t.heap) A) args s 0 0 A) 0 [(0, .ref (ad 11 0)), (1, .ref (ad 4 a1.toNatClampNeg))] [] [] := by
  unfold fc_takeSlice at h
  refine z_aload_n X dX11_takeSlice_0 rfl rfl ?_
  refine c_get X 4 3 (v := .ref (ad 9 (V 83 a1.toNatClampNeg).toNatClampNeg)) rx4_ws rfl rfl rfl (vp_lt va1) g_933 rfl dX11_takeSlice_1 ?_
  refine zz.pre (fun H hG => cx_fact (k := 4) (i := a1.toNatClampNeg) (f := 3) rfl (vp_lt va1) rfl hG) (fun (p1 : vp_in (V 83 a1.toNatClampNeg) (N 9)) => ?_)
  refine z_aload_n X dX11_takeSlice_4 rfl rfl ?_
  refine c_get X 4 1 (v := .ref (ad 5 (V 81 a1.toNatClampNeg).toNatClampNeg)) rx4_ws rfl rfl rfl (vp_lt va1) g_929 rfl dX11_takeSlice_5 ?_
  refine zz.pre (fun H hG => cx_fact (k := 4) (i := a1.toNatClampNeg) (f := 1) rfl (vp_lt va1) rfl hG) (fun (p2 : vp_in (V 81 a1.toNatClampNeg) (N 5)) => ?_)
  refine c_get X 5 1 (v := .ref (ad 2 (V 101 (V 81 a1.toNatClampNeg).toNatClampNeg).toNatClampNeg)) rx5_ws rfl rfl rfl (vp_lt p2) g_248 rfl dX11_takeSlice_8 ?_
  refine zz.pre (fun H hG => cx_fact (k := 5) (i := (V 81 a1.toNatClampNeg).toNatClampNeg) (f := 1) rfl (vp_lt p2) rfl hG) (fun (p3 : vp_in (V 101 (V 81 a1.toNatClampNeg).toNatClampNeg) (N 2)) => ?_)
  refine c_get X 2 1 (v := .ref (ad 10 (V 41 (V 101 (V 81 a1.toNatClampNeg).toNatClampNeg).toNatClampNeg).toNatClampNeg)) rx2_ws rfl rfl rfl (vp_lt p3) g_201 rfl dX11_takeSlice_11 ?_
  refine zz.pre (fun H hG => cx_fact (k := 2) (i := (V 101 (V 81 a1.toNatClampNeg).toNatClampNeg).toNatClampNeg) (f := 1) rfl (vp_lt p3) rfl hG) (fun (p4 : vp_in (V 41 (V 101 (V 81 a1.toNatClampNeg).toNatClampNeg).toNatClampNeg) (N 10)) => ?_)
  refine z_aload_n X dX11_takeSlice_14 rfl rfl ?_
  refine c_get X 11 8 (v := .int (V 228 0)) rx11_ws rfl rfl rfl h11 g_280 rfl dX11_takeSlice_15 ?_
  obtain ⟨o5, co5, h⟩ := zb2 h
  refine z_callSi (As := [.int (V 228 0)]) (rest := [.ref (ad 10 (V 41 (V 101 (V 81 a1.toNatClampNeg).toNatClampNeg).toNatClampNeg).toNatClampNeg), .ref (ad 9 (V 83 a1.toNatClampNeg).toNatClampNeg)]) (nA := 1) (mc := 0) (ms := 0) (rm := ({ frames := 1, cells := 0, slots := 0, locals := 42 } : Room)) (r0 := o5) (pu := fun (_ : Unit) => True) (G1 := fun _ => cx D dA A V L N ad xs) X (cc_dayOf l X.2.2.2.2.2.2.2.2 X.2.2.2.2.2.2.1 h11 co5) g_525 g_526 g_1 g_527 hd_yX11_dayOf ⟨rfl, rfl, Nat.le_of_ble_eq_true rfl, Nat.le_of_ble_eq_true rfl⟩ rfl rfl (Nat.le_of_ble_eq_true rfl) dX11_takeSlice_18 ⟨Nat.le_refl _, Nat.le_refl _⟩ (fun _ _ => ?_)
  obtain ⟨o6, co6, h⟩ := zb2 h
  refine z_callVq (As := [.ref (ad 10 (V 41 (V 101 (V 81 a1.toNatClampNeg).toNatClampNeg).toNatClampNeg).toNatClampNeg), .int o5]) (rest := []) (nA := 2) (mc := 0) (ms := 0) (rm := ({ frames := 9, cells := 0, slots := 0, locals := 378 } : Room)) (ro := fun _ => qn (ad 0) o6) (pu := fun (_ : Unit) => (o6 = -1 ∨ vp_in o6 (N 0))) (G1 := fun _ => cx D dA A V L N ad xs) X (cc_Wallet_findBundle l X.2.2.2.2.2.2.2.2 X.2.2.2.2.2.2.1 h11 p1 p4 co6) g_1011 g_1012 g_1013 g_13 g_1014 hd_yX9_findBundle ⟨rfl, rfl, Nat.le_of_ble_eq_true rfl, Nat.le_of_ble_eq_true rfl⟩ rfl (fun _ hG => cx_recv X (k := 9) (n := 4) rfl rfl (vp_lt p1) hG) rfl (Nat.le_of_ble_eq_true rfl) dX11_takeSlice_21 ⟨Nat.le_refl _, Nat.le_refl _⟩ (fun _ p7 => ?_)
  refine z_astoreq_n (lo' := [(2, va_rf (qn (ad 0) o6)), (0, .ref (ad 11 0)), (1, .ref (ad 4 a1.toNatClampNeg))]) X dX11_takeSlice_24 rfl (by rw [hml]; decide) rfl rfl ?_
  refine z_aloadq_n X dX11_takeSlice_25 rfl rfl ?_
  refine c_ifnull (tgt := 50) X dX11_takeSlice_26 (by decide) (fun q => ?_) (fun q => ?_)
  · have h := zp q h
    refine z_aload_n X dX11_takeSlice_50 rfl rfl ?_
    refine z_aload_n X dX11_takeSlice_51 rfl rfl ?_
    refine c_get X 4 1 (v := .ref (ad 5 (V 81 a1.toNatClampNeg).toNatClampNeg)) rx4_ws rfl rfl rfl (vp_lt va1) g_929 rfl dX11_takeSlice_52 ?_
    obtain ⟨o9, co9, h⟩ := zb2 h
    refine z_callVi (As := [.ref (ad 5 (V 81 a1.toNatClampNeg).toNatClampNeg)]) (rest := []) (nA := 1) (mc := 0) (ms := 0) (rm := ({ frames := 2, cells := 0, slots := 0, locals := 84 } : Room)) (r0 := o9) (pu := fun (_ : Unit) => True) (G1 := fun _ => cx D dA A V L N ad xs) X (cc_rateNow l X.2.2.2.2.2.2.2.2 X.2.2.2.2.2.2.1 h11 p2 co9) g_1025 g_1027 gs_14 g_1 g_1028 hd_yX11_rateNow ⟨rfl, rfl, Nat.le_of_ble_eq_true rfl, Nat.le_of_ble_eq_true rfl⟩ rfl (fun _ hG => cx_recv X (k := 11) (n := 9) rfl rfl h11 hG) rfl (Nat.le_of_ble_eq_true rfl) dX11_takeSlice_55 ⟨Nat.le_refl _, Nat.le_refl _⟩ (fun _ _ => ?_)
    refine z_istore_n (lo' := [(3, .int o9), (2, va_rf (qn (ad 0) o6)), (0, .ref (ad 11 0)), (1, .ref (ad 4 a1.toNatClampNeg))]) X dX11_takeSlice_58 rfl (by rw [hml]; decide) rfl rfl ?_
    refine z_aload_n X dX11_takeSlice_59 rfl rfl ?_
    refine c_get X 11 7 (v := .int (V 227 0)) rx11_ws rfl rfl rfl h11 g_279 rfl dX11_takeSlice_60 ?_
    obtain ⟨x10, ex10, h⟩ := zb h
    rw [ex10]
    refine z_istore (lo' := [(4, .int x10), (3, .int o9), (2, va_rf (qn (ad 0) o6)), (0, .ref (ad 11 0)), (1, .ref (ad 4 a1.toNatClampNeg))]) X dX11_takeSlice_63 (by rw [hml]; decide) rfl rfl ?_
    refine z_iload_n X dX11_takeSlice_65 rfl rfl ?_
    refine z_if_le (tgt := 119) X dX11_takeSlice_66 (by decide) (fun q => ?_) (fun q => ?_)
    · have h := zp q h
      refine zz.pick (lo' := [(1, .ref (ad 4 a1.toNatClampNeg)), (3, .int o9), (4, .int x10)]) [1, 3, 4] rfl ?_
      exact bc_takeSlice_119 X hml hr h11 va1 h
    · have h := zn q h
      refine z_iload X dX11_takeSlice_69 rfl ?_
      refine z_aload_n X dX11_takeSlice_71 rfl rfl ?_
      refine c_get X 4 1 (v := .ref (ad 5 (V 81 a1.toNatClampNeg).toNatClampNeg)) rx4_ws rfl rfl rfl (vp_lt va1) g_929 rfl dX11_takeSlice_72 ?_
      refine z_aload_n X dX11_takeSlice_75 rfl rfl ?_
      refine c_get X 11 8 (v := .int (V 228 0)) rx11_ws rfl rfl rfl h11 g_280 rfl dX11_takeSlice_76 ?_
      obtain ⟨o11, co11, h⟩ := zb2 h
      refine z_callSi (As := [.int (V 228 0)]) (rest := [.ref (ad 5 (V 81 a1.toNatClampNeg).toNatClampNeg), .int x10]) (nA := 1) (mc := 0) (ms := 0) (rm := ({ frames := 1, cells := 0, slots := 0, locals := 42 } : Room)) (r0 := o11) (pu := fun (_ : Unit) => True) (G1 := fun _ => cx D dA A V L N ad xs) X (cc_dayOf l X.2.2.2.2.2.2.2.2 X.2.2.2.2.2.2.1 h11 co11) g_525 g_526 g_1 g_527 hd_yX11_dayOf ⟨rfl, rfl, Nat.le_of_ble_eq_true rfl, Nat.le_of_ble_eq_true rfl⟩ rfl rfl (Nat.le_of_ble_eq_true rfl) dX11_takeSlice_79 ⟨Nat.le_refl _, Nat.le_refl _⟩ (fun _ _ => ?_)
      obtain ⟨o12, co12, h⟩ := zb2 h
      refine z_callVi (As := [.int o11]) (rest := [.int x10]) (nA := 1) (mc := 0) (ms := 0) (rm := ({ frames := 1, cells := 0, slots := 0, locals := 42 } : Room)) (r0 := o12) (pu := fun (_ : Unit) => True) (G1 := fun _ => cx D dA A V L N ad xs) X (cc_Phone_mostByCap l X.2.2.2.2.2.2.2.2 X.2.2.2.2.2.2.1 h11 p2 co12) g_1032 g_1033 g_1034 g_14 g_1035 hd_yX5_mostByCap ⟨rfl, rfl, Nat.le_of_ble_eq_true rfl, Nat.le_of_ble_eq_true rfl⟩ rfl (fun _ hG => cx_recv X (k := 5) (n := 7) rfl rfl (vp_lt p2) hG) rfl (Nat.le_of_ble_eq_true rfl) dX11_takeSlice_82 ⟨Nat.le_refl _, Nat.le_refl _⟩ (fun _ _ => ?_)
      refine z_iload_n X dX11_takeSlice_85 rfl rfl ?_
      obtain ⟨q13, h⟩ := zg h
      refine z_idiv X dX11_takeSlice_86 q13 ?_
      obtain ⟨x14, ex14, h⟩ := zb h
      refine z_min X g_1020 g_165 g_9 g_166 (Nat.le_of_ble_eq_true rfl) (Nat.le_of_ble_eq_true rfl) ⟨Nat.le_refl _, Nat.le_refl _⟩ dX11_takeSlice_87 ?_
      rw [ex14]
      refine z_istore (lo' := [(4, .int x14), (3, .int o9), (2, va_rf (qn (ad 0) o6)), (0, .ref (ad 11 0)), (1, .ref (ad 4 a1.toNatClampNeg))]) X dX11_takeSlice_90 (by rw [hml]; decide) rfl rfl ?_
      refine z_iload X dX11_takeSlice_92 rfl ?_
      refine z_if_le (tgt := 103) X dX11_takeSlice_94 (by decide) (fun q => ?_) (fun q => ?_)
      · have h := zp q h
        refine zz.pick (lo' := [(1, .ref (ad 4 a1.toNatClampNeg)), (3, .int o9), (4, .int x14)]) [1, 3, 4] rfl ?_
        exact bc_takeSlice_103 X hml hr h11 va1 h
      · have h := zn q h
        refine z_aload_n X dX11_takeSlice_97 rfl rfl ?_
        refine z_aload_n X dX11_takeSlice_98 rfl rfl ?_
        refine z_iload_n X dX11_takeSlice_99 rfl rfl ?_
        obtain ⟨o15, co15, h⟩ := zb2 h
        refine z_callVv (As := [.ref (ad 4 a1.toNatClampNeg), .int o9]) (rest := []) (nA := 2) (mc := 0) (ms := 0) (rm := ({ frames := 3, cells := 0, slots := 0, locals := 126 } : Room)) (pu := fun (_ : Unit) => True) (G1 := fun _ => cx D dA A o15 L N ad xs) X (cc_raiseMoney l X.2.2.2.2.2.2.2.2 X.2.2.2.2.2.2.1 h11 va1 co15) g_1037 g_1039 gs_15 g_1 g_1040 hd_yX11_raiseMoney ⟨rfl, rfl, Nat.le_of_ble_eq_true rfl, Nat.le_of_ble_eq_true rfl⟩ rfl (fun _ hG => cx_recv X (k := 11) (n := 9) rfl rfl h11 hG) rfl (Nat.le_of_ble_eq_true rfl) dX11_takeSlice_100 ⟨Nat.le_refl _, Nat.le_refl _⟩ (fun _ _ => ?_)
        refine zz.pick (lo' := [(1, .ref (ad 4 a1.toNatClampNeg)), (3, .int o9), (4, .int x14)]) [1, 3, 4] rfl ?_
        exact bc_takeSlice_103 X hml hr h11 va1 h
  · have h := zn q h
    have p8 := p7.resolve_left q
    rw [qn_ref q]
    refine z_aload_n X dX11_takeSlice_29 rfl rfl ?_
    refine c_get X 4 5 (v := .ref (ad 8 a1.toNatClampNeg)) rx4_ws rfl rfl rfl (vp_lt va1) g_936 rfl dX11_takeSlice_30 ?_
    refine zz.pre (fun H hG => vp_mono va1 hG.2.2.2.2.2.2.2.2.1.2.1) (fun (p16 : vp_in a1 (N 8)) => ?_)
    refine z_aload_n X dX11_takeSlice_33 rfl rfl ?_
    refine z_aload_n X dX11_takeSlice_34 rfl rfl ?_
    refine c_get X 11 7 (v := .int (V 227 0)) rx11_ws rfl rfl rfl h11 g_279 rfl dX11_takeSlice_35 ?_
    refine z_aload_n X dX11_takeSlice_38 rfl rfl ?_
    refine c_get X 0 3 (v := .int (V 3 o6.toNatClampNeg)) rx0_ws rfl rfl rfl (vp_lt p8) g_538 rfl dX11_takeSlice_39 ?_
    obtain ⟨x17, ex17, h⟩ := zb h
    refine z_min X g_1020 g_165 g_9 g_166 (Nat.le_of_ble_eq_true rfl) (Nat.le_of_ble_eq_true rfl) ⟨Nat.le_refl _, Nat.le_refl _⟩ dX11_takeSlice_42 ?_
    rw [ex17]
    obtain ⟨o18, co18, h⟩ := zb2 h
    refine z_callVv (As := [.ref (ad 0 o6.toNatClampNeg), .int x17]) (rest := []) (nA := 2) (mc := 0) (ms := 0) (rm := ({ frames := 1, cells := 0, slots := 0, locals := 42 } : Room)) (pu := fun (_ : Unit) => True) (G1 := fun _ => cx D dA A o18 L N ad xs) X (cc_Slice_takeFromBundle l X.2.2.2.2.2.2.2.2 X.2.2.2.2.2.2.1 h11 p16 p8 co18) g_1021 g_1022 g_1023 g_34 g_1024 hd_yX8_takeFromBundle ⟨rfl, rfl, Nat.le_of_ble_eq_true rfl, Nat.le_of_ble_eq_true rfl⟩ rfl (fun _ hG => cx_recv X (k := 8) (n := 3) rfl rfl (vp_lt p16) hG) rfl (Nat.le_of_ble_eq_true rfl) dX11_takeSlice_45 ⟨Nat.le_refl _, Nat.le_refl _⟩ (fun _ _ => ?_)
    refine z_iconst (v := 1) X dX11_takeSlice_48 (by decide) ?_
    obtain rfl := Option.some.inj h
    exact z_iret X hr rfl (fun t hG hF _ => ⟨⟨_, (), rfl, ⟨rfl, trivial⟩, hG⟩, hF⟩) dX11_takeSlice_49
theorem cc_takeSlice (l : Launch) {D : va_G} {dA : Nat → ClassId} {A : Nat → Prop} {n : Nat} (hst : l.stackTraces = false) (hA : ∀ q, n ≤ q → A q) {V : Rho} {L : Lst} {N : Cnt} {ad : Adr} {xs : va_W} (h11 : 0 < N 11) {a1 : Int32} (va1 : vp_in a1 (N 4)) {o : Rho × Int32} (h : fc_takeSlice V L N a1 = some o) : Met l yX11_takeSlice (.code yX11_takeSlice cX11_takeSlice 5 (some .boolean) :: gT) ({ frames := 10, cells := 0, slots := 0, locals := 420 } : Room) (va_Pc [.ref (ad 11 0), .ref (ad 4 a1.toNatClampNeg)] (zB D dA A n (cx D dA A V L N ad xs))) (va_Qi (fun r (w9 : Unit) => r = o.2 ∧ True) (fun (w9 : Unit) t => cx D dA A o.1 L N ad xs t.heap) A) 0 0 A :=
  z_met (by decide) hA hst (Nat.le_of_ble_eq_true rfl) rfl rfl (fun p e s m below meth c X hml hr _ => bc_takeSlice X hml hr h11 va1 h)
-- MeshBiller.giveBack(LMeshBiller$Leg;)V
def fc_giveBack (V : Rho) (L : Lst) (N : Cnt) (a1 : Int32) : Option (Rho) := (if (V 162 a1.toNatClampNeg) = -1 then (fc_Slice_moneyLeft V L N a1).bind fun o5 => (some (cs V 182 (V 83 a1.toNatClampNeg).toNatClampNeg ((V 182 (V 83 a1.toNatClampNeg).toNatClampNeg) + o5))).bind fun V6 => (some (cs V6 160 a1.toNatClampNeg 0)).bind fun V7 => some V7
  else (fc_dayOf V L N (V 228 0)).bind fun o8 => (fc_Bundle_isOver V L N (V 162 a1.toNatClampNeg) o8).bind fun o9 => (if o9 = 0 then (some (cs V 3 (V 162 a1.toNatClampNeg).toNatClampNeg ((V 3 (V 162 a1.toNatClampNeg).toNatClampNeg) + (V 160 a1.toNatClampNeg)))).bind fun V10 => (some (cs V10 160 a1.toNatClampNeg 0)).bind fun V11 => some V11
  else (some (cs V 160 a1.toNatClampNeg 0)).bind fun V12 => some V12))
set_option maxRecDepth 100000 in
set_option maxHeartbeats 4000000 in
theorem bc_giveBack {p : Program} {l : Launch} {e : Env} {s : State} {m : MethodId} {args : Array Value} {below : List Frame} {meth : Method} {c : Code} {D : va_G} {dA : Nat → ClassId} {A : Nat → Prop} {xs : va_W} {o : Rho} {L : Lst} {N : Cnt} {ad : Adr} (X : zc p l s m args meth c cX11_giveBack RX11 D dA A) (hml : c.maxLocals = 3) (hr : meth.sig.returnType = none) {V : Rho} (h11 : 0 < N 11) {a1 : Int32} (va1 : vp_in a1 (N 4)) (h : fc_giveBack V L N a1 = some o) : zz p l e ({ frames := 2, cells := 0, slots := 0, locals := 84 } : Room) s m args below meth c A (cx D dA A V L N ad xs) 0 0 (MQ below (va_Qv (fun (w9 : Unit) => True) (fun (w9 : Unit) t => cx D dA A o L N ad xs t.heap) A) args s 0 0 A) 0 [(0, .ref (ad 11 0)), (1, .ref (ad 4 a1.toNatClampNeg))] [] [] := by
  unfold fc_giveBack at h
  refine z_aload_n X dX11_giveBack_0 rfl rfl ?_
  refine c_get X 4 5 (v := .ref (ad 8 a1.toNatClampNeg)) rx4_ws rfl rfl rfl (vp_lt va1) g_936 rfl dX11_giveBack_1 ?_
  refine zz.pre (fun H hG => vp_mono va1 hG.2.2.2.2.2.2.2.2.1.2.1) (fun (p1 : vp_in a1 (N 8)) => ?_)
  refine z_astore_n (lo' := [(2, .ref (ad 8 a1.toNatClampNeg)), (0, .ref (ad 11 0)), (1, .ref (ad 4 a1.toNatClampNeg))]) X dX11_giveBack_4 rfl (by rw [hml]; decide) rfl rfl ?_
  refine z_aload_n X dX11_giveBack_5 rfl rfl ?_
  refine c_get X 8 2 (v := va_rf (qn (ad 0) (V 162 a1.toNatClampNeg))) rx8_ws rfl rfl rfl (vp_lt p1) g_916 rfl dX11_giveBack_6 ?_
  refine zz.pre (fun H hG => cx_fact (k := 8) (i := a1.toNatClampNeg) (f := 2) rfl (vp_lt p1) rfl hG) (fun (p2 : (V 162 a1.toNatClampNeg) = -1 ∨ vp_in (V 162 a1.toNatClampNeg) (N 0)) => ?_)
  refine c_ifnonnull (tgt := 31) X dX11_giveBack_9 (by decide) (fun q => ?_) (fun q => ?_)
  · have h := zp q h
    refine z_aload_n X dX11_giveBack_12 rfl rfl ?_
    refine c_get X 4 3 (v := .ref (ad 9 (V 83 a1.toNatClampNeg).toNatClampNeg)) rx4_ws rfl rfl rfl (vp_lt va1) g_933 rfl dX11_giveBack_13 ?_
    refine zz.pre (fun H hG => cx_fact (k := 4) (i := a1.toNatClampNeg) (f := 3) rfl (vp_lt va1) rfl hG) (fun (p4 : vp_in (V 83 a1.toNatClampNeg) (N 9)) => ?_)
    refine z_dup X dX11_giveBack_16 rfl ?_
    refine c_get X 9 2 (v := .int (V 182 (V 83 a1.toNatClampNeg).toNatClampNeg)) rx9_ws rfl rfl rfl (vp_lt p4) g_226 rfl dX11_giveBack_17 ?_
    refine z_aload_n X dX11_giveBack_20 rfl rfl ?_
    obtain ⟨o5, co5, h⟩ := zb2 h
    refine z_callVi (As := []) (rest := [.int (V 182 (V 83 a1.toNatClampNeg).toNatClampNeg), .ref (ad 9 (V 83 a1.toNatClampNeg).toNatClampNeg)]) (nA := 0) (mc := 0) (ms := 0) (rm := ({ frames := 1, cells := 0, slots := 0, locals := 42 } : Room)) (r0 := o5) (pu := fun (_ : Unit) => True) (G1 := fun _ => cx D dA A V L N ad xs) X (cc_Slice_moneyLeft l X.2.2.2.2.2.2.2.2 X.2.2.2.2.2.2.1 h11 p1 co5) g_833 g_834 g_835 g_34 g_836 hd_yX8_moneyLeft ⟨rfl, rfl, Nat.le_of_ble_eq_true rfl, Nat.le_of_ble_eq_true rfl⟩ rfl (fun _ hG => cx_recv X (k := 8) (n := 3) rfl rfl (vp_lt p1) hG) rfl (Nat.le_of_ble_eq_true rfl) dX11_giveBack_21 ⟨Nat.le_refl _, Nat.le_refl _⟩ (fun _ _ => ?_)
    refine z_iadd X dX11_giveBack_24 ?_
    obtain ⟨V6, eV6, h⟩ := zb h
    refine c_put X 9 2 (x := ((V 182 (V 83 a1.toNatClampNeg).toNatClampNeg) + o5)) (v := .int ((V 182 (V 83 a1.toNatClampNeg).toNatClampNeg) + o5)) (ty := .int) rx9_ws rfl tyX9_ok nmX9 rfl rfl (vp_lt p4) rfl g_226 rfl trivial rfl rfl rfl eV6 dX11_giveBack_25 ?_
    refine z_goto (tgt := 64) X dX11_giveBack_28 (by decide) ?_
    refine z_aload_n X dX11_giveBack_64 rfl rfl ?_
    refine z_iconst (v := 0) X dX11_giveBack_65 (by decide) ?_
    obtain ⟨V7, eV7, h⟩ := zb h
    refine c_put X 8 0 (x := 0) (v := .int 0) (ty := .int) rx8_ws rfl tyX8_ok nmX8 rfl rfl (vp_lt p1) rfl g_911 rfl trivial rfl rfl rfl eV7 dX11_giveBack_66 ?_
    obtain rfl := Option.some.inj h
    exact z_vret X hr (fun t hG hF _ => ⟨⟨(), rfl, trivial, hG⟩, hF⟩) dX11_giveBack_69
  · have h := zn q h
    have p3 := p2.resolve_left q
    refine z_aload_n X dX11_giveBack_31 rfl rfl ?_
    refine c_get X 8 2 (v := va_rf (qn (ad 0) (V 162 a1.toNatClampNeg))) rx8_ws rfl rfl rfl (vp_lt p1) g_916 rfl dX11_giveBack_32 ?_
    rw [qn_ref (vp_ne p3)]
    refine z_aload_n X dX11_giveBack_35 rfl rfl ?_
    refine c_get X 11 8 (v := .int (V 228 0)) rx11_ws rfl rfl rfl h11 g_280 rfl dX11_giveBack_36 ?_
    obtain ⟨o8, co8, h⟩ := zb2 h
    refine z_callSi (As := [.int (V 228 0)]) (rest := [.ref (ad 0 (V 162 a1.toNatClampNeg).toNatClampNeg)]) (nA := 1) (mc := 0) (ms := 0) (rm := ({ frames := 1, cells := 0, slots := 0, locals := 42 } : Room)) (r0 := o8) (pu := fun (_ : Unit) => True) (G1 := fun _ => cx D dA A V L N ad xs) X (cc_dayOf l X.2.2.2.2.2.2.2.2 X.2.2.2.2.2.2.1 h11 co8) g_525 g_526 g_1 g_527 hd_yX11_dayOf ⟨rfl, rfl, Nat.le_of_ble_eq_true rfl, Nat.le_of_ble_eq_true rfl⟩ rfl rfl (Nat.le_of_ble_eq_true rfl) dX11_giveBack_39 ⟨Nat.le_refl _, Nat.le_refl _⟩ (fun _ _ => ?_)
    obtain ⟨o9, co9, h⟩ := zb2 h
    refine z_callVi (As := [.int o8]) (rest := []) (nA := 1) (mc := 0) (ms := 0) (rm := ({ frames := 1, cells := 0, slots := 0, locals := 42 } : Room)) (r0 := o9) (pu := fun (_ : Unit) => True) (G1 := fun _ => cx D dA A V L N ad xs) X (cc_Bundle_isOver l X.2.2.2.2.2.2.2.2 X.2.2.2.2.2.2.1 h11 p3 co9) g_853 g_854 g_855 g_22 g_856 hd_yX0_isOver ⟨rfl, rfl, Nat.le_of_ble_eq_true rfl, Nat.le_of_ble_eq_true rfl⟩ rfl (fun _ hG => cx_recv X (k := 0) (n := 4) rfl rfl (vp_lt p3) hG) rfl (Nat.le_of_ble_eq_true rfl) dX11_giveBack_42 ⟨Nat.le_refl _, Nat.le_refl _⟩ (fun _ _ => ?_)
    refine z_if_ne (tgt := 64) X dX11_giveBack_45 (by decide) (fun q => ?_) (fun q => ?_)
    · have h := zp q h
      refine z_aload_n X dX11_giveBack_48 rfl rfl ?_
      refine c_get X 8 2 (v := va_rf (qn (ad 0) (V 162 a1.toNatClampNeg))) rx8_ws rfl rfl rfl (vp_lt p1) g_916 rfl dX11_giveBack_49 ?_
      rw [qn_ref (vp_ne p3)]
      refine z_dup X dX11_giveBack_52 rfl ?_
      refine c_get X 0 3 (v := .int (V 3 (V 162 a1.toNatClampNeg).toNatClampNeg)) rx0_ws rfl rfl rfl (vp_lt p3) g_538 rfl dX11_giveBack_53 ?_
      refine z_aload_n X dX11_giveBack_56 rfl rfl ?_
      refine c_get X 8 0 (v := .int (V 160 a1.toNatClampNeg)) rx8_ws rfl rfl rfl (vp_lt p1) g_911 rfl dX11_giveBack_57 ?_
      refine z_iadd X dX11_giveBack_60 ?_
      obtain ⟨V10, eV10, h⟩ := zb h
      refine c_put X 0 3 (x := ((V 3 (V 162 a1.toNatClampNeg).toNatClampNeg) + (V 160 a1.toNatClampNeg))) (v := .int ((V 3 (V 162 a1.toNatClampNeg).toNatClampNeg) + (V 160 a1.toNatClampNeg))) (ty := .int) rx0_ws rfl tyX0_ok nmX0 rfl rfl (vp_lt p3) rfl g_538 rfl trivial rfl rfl rfl eV10 dX11_giveBack_61 ?_
      refine z_aload_n X dX11_giveBack_64 rfl rfl ?_
      refine z_iconst (v := 0) X dX11_giveBack_65 (by decide) ?_
      obtain ⟨V11, eV11, h⟩ := zb h
      refine c_put X 8 0 (x := 0) (v := .int 0) (ty := .int) rx8_ws rfl tyX8_ok nmX8 rfl rfl (vp_lt p1) rfl g_911 rfl trivial rfl rfl rfl eV11 dX11_giveBack_66 ?_
      obtain rfl := Option.some.inj h
      exact z_vret X hr (fun t hG hF _ => ⟨⟨(), rfl, trivial, hG⟩, hF⟩) dX11_giveBack_69
    · have h := zn q h
      refine z_aload_n X dX11_giveBack_64 rfl rfl ?_
      refine z_iconst (v := 0) X dX11_giveBack_65 (by decide) ?_
      obtain ⟨V12, eV12, h⟩ := zb h
      refine c_put X 8 0 (x := 0) (v := .int 0) (ty := .int) rx8_ws rfl tyX8_ok nmX8 rfl rfl (vp_lt p1) rfl g_911 rfl trivial rfl rfl rfl eV12 dX11_giveBack_66 ?_
      obtain rfl := Option.some.inj h
      exact z_vret X hr (fun t hG hF _ => ⟨⟨(), rfl, trivial, hG⟩, hF⟩) dX11_giveBack_69
theorem cc_giveBack (l : Launch) {D : va_G} {dA : Nat → ClassId} {A : Nat → Prop} {n : Nat} (hst : l.stackTraces = false) (hA : ∀ q, n ≤ q → A q) {V : Rho} {L : Lst} {N : Cnt} {ad : Adr} {xs : va_W} (h11 : 0 < N 11) {a1 : Int32} (va1 : vp_in a1 (N 4)) {o : Rho} (h : fc_giveBack V L N a1 = some o) : Met l yX11_giveBack (.code yX11_giveBack cX11_giveBack 3 none :: gT) ({ frames := 2, cells := 0, slots := 0, locals := 84 } : Room) (va_Pc [.ref (ad 11 0), .ref (ad 4 a1.toNatClampNeg)] (zB D dA A n (cx D dA A V L N ad xs))) (va_Qv (fun (w9 : Unit) => True) (fun (w9 : Unit) t => cx D dA A o L N ad xs t.heap) A) 0 0 A :=
  z_met (by decide) hA hst (Nat.le_of_ble_eq_true rfl) rfl rfl (fun p e s m below meth c X hml hr _ => bc_giveBack X hml hr h11 va1 h)
-- MeshBiller$Leg.firstUnratedSecond()I
def fc_Leg_firstUnratedSecond (V : Rho) (L : Lst) (N : Cnt) (a0 : Int32) : Option (Int32) := some ((V 84 a0.toNatClampNeg) + (V 88 a0.toNatClampNeg))
set_option maxRecDepth 100000 in
set_option maxHeartbeats 4000000 in
theorem bc_Leg_firstUnratedSecond {p : Program} {l : Launch} {e : Env} {s : State} {m : MethodId} {args : Array Value} {below : List Frame} {meth : Method} {c : Code} {D : va_G} {dA : Nat → ClassId} {A : Nat → Prop} {xs : va_W} {o : Int32} {V : Rho} {L : Lst} {N : Cnt} {ad : Adr} (X : zc p l s m args meth c cX4_firstUnratedSecond RX4 D dA A) (hml : c.maxLocals = 1) (hr : meth.sig.returnType = (some .int)) (h11 : 0 < N 11) {a0 : Int32} (va0 : vp_in a0 (N 4)) (h : fc_Leg_firstUnratedSecond V L N a0 = some o) : zz p l e ({ frames := 1, cells := 0, slots := 0, locals := 42 } : Room) s m args below meth c A (cx D dA A V L N ad xs) 0 0 (MQ below (va_Qi (fun r (w9 : Unit) => r = o ∧ True) (fun (w9 : Unit) t => cx D dA A V L N ad xs t.heap) A) args s 0 0 A) 0 [(0, .ref (ad 4 a0.toNatClampNeg))] [] [] := by
  unfold fc_Leg_firstUnratedSecond at h
  refine z_aload_n X dX4_firstUnratedSecond_0 rfl rfl ?_
  refine c_get X 4 4 (v := .int (V 84 a0.toNatClampNeg)) rx4_ws rfl rfl rfl (vp_lt va0) g_934 rfl dX4_firstUnratedSecond_1 ?_
  refine z_aload_n X dX4_firstUnratedSecond_4 rfl rfl ?_
  refine c_get X 4 8 (v := .int (V 88 a0.toNatClampNeg)) rx4_ws rfl rfl rfl (vp_lt va0) g_942 rfl dX4_firstUnratedSecond_5 ?_
  refine z_iadd X dX4_firstUnratedSecond_8 ?_
  obtain rfl := Option.some.inj h
  exact z_iret X hr rfl (fun t hG hF _ => ⟨⟨_, (), rfl, ⟨rfl, trivial⟩, hG⟩, hF⟩) dX4_firstUnratedSecond_9
theorem cc_Leg_firstUnratedSecond (l : Launch) {D : va_G} {dA : Nat → ClassId} {A : Nat → Prop} {n : Nat} (hst : l.stackTraces = false) (hA : ∀ q, n ≤ q → A q) {V : Rho} {L : Lst} {N : Cnt} {ad : Adr} {xs : va_W} (h11 : 0 < N 11) {a0 : Int32} (va0 : vp_in a0 (N 4)) {o : Int32} (h : fc_Leg_firstUnratedSecond V L N a0 = some o) : Met l yX4_firstUnratedSecond (.code yX4_firstUnratedSecond cX4_firstUnratedSecond 1 (some .int) :: gT) ({ frames := 1, cells := 0, slots := 0, locals := 42 } : Room) (va_Pc [.ref (ad 4 a0.toNatClampNeg)] (zB D dA A n (cx D dA A V L N ad xs))) (va_Qi (fun r (w9 : Unit) => r = o ∧ True) (fun (w9 : Unit) t => cx D dA A V L N ad xs t.heap) A) 0 0 A :=
  z_met (by decide) hA hst (Nat.le_of_ble_eq_true rfl) rfl rfl (fun p e s m below meth c X hml hr _ => bc_Leg_firstUnratedSecond X hml hr h11 va0 h)
-- MeshBiller$Call.findOnlyParty()LMeshBiller$Leg;
def fc_Call_findOnlyParty_42 (k4 : Rho → Lst → Cnt → Int32 → Int32 → Int32 → Option (Int32)) (V : Rho) (L : Lst) (N : Cnt) (v0 : Int32) (v1 : Int32) (v2 : Int32) : Option (Int32) := (some (v2 + 1)).bind fun x1 => k4 V L N v0 v1 x1
set_option maxRecDepth 100000 in
set_option maxHeartbeats 4000000 in
theorem bc_Call_findOnlyParty_42 {p : Program} {l : Launch} {e : Env} {s : State} {m : MethodId} {args : Array Value} {below : List Frame} {meth : Method} {c : Code} {D : va_G} {dA : Nat → ClassId} {A : Nat → Prop} {xs : va_W} {o : Int32} {V : Rho} {L : Lst} {N : Cnt} {ad : Adr} (X : zc p l s m args meth c cX1_findOnlyParty RX1 D dA A) (hml : c.maxLocals = 4) (hr : meth.sig.returnType = (some (.object "MeshBiller$Leg"))) {k4 : Rho → Lst → Cnt → Int32 → Int32 → Int32 → Option (Int32)} (hk4 : ∀ (h11 : 0 < N 11) {v0 : Int32} {v1 : Int32} {v2 : Int32} (fv0 : vp_in v0 (N 1)) (fv1 : v1 = -1 ∨ vp_in v1 (N 4)) , k4 V L N v0 v1 v2 = some o → zz p l e ({ frames := 9, cells := 0, slots := 0, locals := 378 } : Room) s m args below meth c A (cx D dA A V L N ad xs) 0 0 (MQ below (va_Qq (fun r (w9 : Unit) => r = qn (ad 4) o ∧ (o = -1 ∨ vp_in o (N 4))) (fun (w9 : Unit) t => cx D dA A V L N ad xs t.heap) A) args s 0 0 A) 4 [(0, .ref (ad 1 v0.toNatClampNeg)), (1, va_rf (qn (ad 4) v1)), (2, .int v2)] [] []) (h11 : 0 < N 11) {v0 : Int32} {v1 : Int32} {v2 : Int32} (fv0 : vp_in v0 (N 1)) (fv1 : v1 = -1 ∨ vp_in v1 (N 4)) (h : fc_Call_findOnlyParty_42 k4 V L N v0 v1 v2 = some o) : zz p l e ({ frames := 9, cells := 0, slots := 0, locals := 378 } : Room) s m args below meth c A (cx D dA A V L N ad xs) 0 0 (MQ below (va_Qq (fun r (w9 : Unit) => r = qn (ad 4) o ∧ (o = -1 ∨ vp_in o (N 4))) (fun (w9 : Unit) t => cx D dA A V L N ad xs t.heap) A) args s 0 0 A) 42 [(0, .ref (ad 1 v0.toNatClampNeg)), (1, va_rf (qn (ad 4) v1)), (2, .int v2)] [] [] := by
  unfold fc_Call_findOnlyParty_42 at h
  obtain ⟨x1, ex1, h⟩ := zb h
  refine z_iinc (v := x1) (lo' := [(2, .int x1), (0, .ref (ad 1 v0.toNatClampNeg)), (1, va_rf (qn (ad 4) v1))]) X dX1_findOnlyParty_42 rfl ex1 (by rw [hml]; decide) rfl rfl ?_
  refine z_goto (tgt := 4) X dX1_findOnlyParty_45 (by decide) ?_
  refine zz.pick (lo' := [(0, .ref (ad 1 v0.toNatClampNeg)), (1, va_rf (qn (ad 4) v1)), (2, .int x1)]) [0, 1, 2] rfl ?_
  exact hk4 h11 fv0 fv1 h
def fc_Call_findOnlyParty_4 : Nat → Rho → Lst → Cnt → Int32 → Int32 → Int32 → Option (Int32)
  | 0, _, _, _, _, _, _ => none
  | n + 1, V, L, N, v0, v1, v2 => (some (nI (L 17 v0.toNatClampNeg).length)).bind fun x1 => (if x1 ≤ v2 then some v1
  else if v2 < 0 ∨ (L 17 v0.toNatClampNeg).length ≤ (v2).toNatClampNeg then none else (some ((L 17 v0.toNatClampNeg).getD v2.toNatClampNeg 0)).bind fun x3 => (if (V 87 x3.toNatClampNeg) = 0 then (if v1 = -1 then fc_Call_findOnlyParty_42 (fc_Call_findOnlyParty_4 n) V L N v0 x3 v2
  else some (-1))
  else fc_Call_findOnlyParty_42 (fc_Call_findOnlyParty_4 n) V L N v0 v1 v2))
set_option maxRecDepth 100000 in
set_option maxHeartbeats 4000000 in
theorem bc_Call_findOnlyParty_4 {p : Program} {l : Launch} {e : Env} {s : State} {m : MethodId} {args : Array Value} {below : List Frame} {meth : Method} {c : Code} {D : va_G} {dA : Nat → ClassId} {A : Nat → Prop} {xs : va_W} {o : Int32} {V : Rho} {L : Lst} {N : Cnt} {ad : Adr} (X : zc p l s m args meth c cX1_findOnlyParty RX1 D dA A) (hml : c.maxLocals = 4) (hr : meth.sig.returnType = (some (.object "MeshBiller$Leg"))) : ∀ (n : Nat) (h11 : 0 < N 11) {v0 : Int32} {v1 : Int32} {v2 : Int32} (fv0 : vp_in v0 (N 1)) (fv1 : v1 = -1 ∨ vp_in v1 (N 4)) , fc_Call_findOnlyParty_4 n V L N v0 v1 v2 = some o → zz p l e ({ frames := 9, cells := 0, slots := 0, locals := 378 } : Room) s m args below meth c A (cx D dA A V L N ad xs) 0 0 (MQ below (va_Qq (fun r (w9 : Unit) => r = qn (ad 4) o ∧ (o = -1 ∨ vp_in o (N 4))) (fun (w9 : Unit) t => cx D dA A V L N ad xs t.heap) A) args s 0 0 A) 4 [(0, .ref (ad 1 v0.toNatClampNeg)), (1, va_rf (qn (ad 4) v1)), (2, .int v2)] [] [] := by
  intro n
  induction n with
  | zero => intro  h11 v0 v1 v2 fv0 fv1 h; exact (nomatch (show none = some o from h))
  | succ n ih =>
    intro  h11 v0 v1 v2 fv0 fv1 h
    rw [fc_Call_findOnlyParty_4] at h
    refine z_iload_n X dX1_findOnlyParty_4 rfl rfl ?_
    refine z_aload_n X dX1_findOnlyParty_5 rfl rfl ?_
    refine c_get X 1 2 (v := .ref (ad 17 v0.toNatClampNeg)) rx1_ws rfl rfl rfl (vp_lt fv0) g_884 rfl dX1_findOnlyParty_6 ?_
    obtain ⟨x1, ex1, h⟩ := zb h
    refine z_callVi (As := []) (rest := [.int v2]) (nA := 0) (mc := 0) (ms := 0) (rm := ({ frames := 8, cells := 0, slots := 0, locals := 336 } : Room)) (r0 := (nI (L 17 v0.toNatClampNeg).length)) (pu := fun (_ : Unit) => True) (G1 := fun _ => cx D dA A V L N ad xs) X (cl_size l X.2.2.2.2.2.2.2.2 X.2.2.2.2.2.2.1 (k := 17) (i := v0.toNatClampNeg) rfl rfl (vp_lt fv0)) g_1069 g_309 g_310 g_4 g_311 hd_yJx4a65c_size_8abf5 ⟨rfl, rfl, Nat.le_of_ble_eq_true rfl, Nat.le_of_ble_eq_true rfl⟩ rfl (fun _ hG => cx_recvL X (k := 17) rfl rfl (vp_lt fv0) hG) rfl (Nat.le_of_ble_eq_true rfl) dX1_findOnlyParty_9 ⟨Nat.le_refl _, Nat.le_refl _⟩ (fun _ _ => ?_)
    rw [ex1]
    refine z_icmp_ge (tgt := 48) X dX1_findOnlyParty_12 (by decide) (fun q => ?_) (fun q => ?_)
    · have h := zp q h
      refine z_aloadq_n X dX1_findOnlyParty_48 rfl rfl ?_
      obtain rfl := Option.some.inj h
      exact z_aret (o := qn (ad 4) v1) X hr (Or.inl ⟨_, rfl⟩) (fun t hG hF _ => ⟨⟨_, (), rfl, ⟨rfl, fv1⟩, hG⟩, hF⟩) dX1_findOnlyParty_49
    · have h := zn q h
      refine z_aload_n X dX1_findOnlyParty_15 rfl rfl ?_
      refine c_get X 1 2 (v := .ref (ad 17 v0.toNatClampNeg)) rx1_ws rfl rfl rfl (vp_lt fv0) g_884 rfl dX1_findOnlyParty_16 ?_
      refine z_iload_n X dX1_findOnlyParty_19 rfl rfl ?_
      obtain ⟨q2, h⟩ := zg h
      obtain ⟨x3, ex3, h⟩ := zb h
      refine z_callVq (As := [.int v2]) (rest := []) (nA := 1) (mc := 0) (ms := 0) (rm := ({ frames := 8, cells := 0, slots := 0, locals := 336 } : Room)) (ro := fun _ => some (ad 4 ((L 17 v0.toNatClampNeg).getD v2.toNatClampNeg 0).toNatClampNeg)) (pu := fun (_ : Unit) => True) (G1 := fun _ => cx D dA A V L N ad xs) X (cl_get l X.2.2.2.2.2.2.2.2 X.2.2.2.2.2.2.1 (k := 17) (i := v0.toNatClampNeg) (x := v2) rfl rfl (vp_lt fv0) q2) g_1070 g_554 g_555 g_4 g_556 hd_yJx4a65c_get_915e3 ⟨rfl, rfl, Nat.le_of_ble_eq_true rfl, Nat.le_of_ble_eq_true rfl⟩ rfl (fun _ hG => cx_recvL X (k := 17) rfl rfl (vp_lt fv0) hG) rfl (Nat.le_of_ble_eq_true rfl) dX1_findOnlyParty_20 ⟨Nat.le_refl _, Nat.le_refl _⟩ (fun _ _ => ?_)
      rw [ex3]
      refine zz.pre (fun H hG => cx_elt (k := 17) rfl rfl (vp_lt fv0) q2 hG) (fun p4 => ?_)
      rw [ex3] at p4
      refine c_cast X (k := 4) (n := 12) rfl rfl (vp_lt p4) g_1071 dX1_findOnlyParty_23 ?_
      refine z_astore_n (lo' := [(3, .ref (ad 4 x3.toNatClampNeg)), (0, .ref (ad 1 v0.toNatClampNeg)), (1, va_rf (qn (ad 4) v1)), (2, .int v2)]) X dX1_findOnlyParty_26 rfl (by rw [hml]; decide) rfl rfl ?_
      refine z_aload_n X dX1_findOnlyParty_27 rfl rfl ?_
      refine c_get X 4 7 (v := .int (V 87 x3.toNatClampNeg)) rx4_ws rfl rfl rfl (vp_lt p4) g_940 rfl dX1_findOnlyParty_28 ?_
      refine z_if_ne (tgt := 42) X dX1_findOnlyParty_31 (by decide) (fun q => ?_) (fun q => ?_)
      · have h := zp q h
        refine z_aloadq_n X dX1_findOnlyParty_34 rfl rfl ?_
        refine c_ifnull (tgt := 40) X dX1_findOnlyParty_35 (by decide) (fun q => ?_) (fun q => ?_)
        · have h := zp q h
          refine z_aload_n X dX1_findOnlyParty_40 rfl rfl ?_
          refine z_astore_n (lo' := [(1, .ref (ad 4 x3.toNatClampNeg)), (3, .ref (ad 4 x3.toNatClampNeg)), (0, .ref (ad 1 v0.toNatClampNeg)), (2, .int v2)]) X dX1_findOnlyParty_41 rfl (by rw [hml]; decide) rfl rfl ?_
          refine zz.pick (lo' := [(0, .ref (ad 1 v0.toNatClampNeg)), (1, va_rf (qn (ad 4) x3)), (2, .int v2)]) [0, 1, 2] (by rw [qn_ref (vp_ne p4)]; rfl) ?_
          exact bc_Call_findOnlyParty_42 X hml hr ih h11 fv0 (Or.inr p4) h
        · have h := zn q h
          have p5 := fv1.resolve_left q
          rw [qn_ref q]
          refine z_null X dX1_findOnlyParty_38 ?_
          obtain rfl := Option.some.inj h
          exact z_aret (o := none) X hr (Or.inl ⟨_, rfl⟩) (fun t hG hF _ => ⟨⟨_, (), rfl, ⟨qn_null.symm, Or.inl rfl⟩, hG⟩, hF⟩) dX1_findOnlyParty_39
      · have h := zn q h
        refine zz.pick (lo' := [(0, .ref (ad 1 v0.toNatClampNeg)), (1, va_rf (qn (ad 4) v1)), (2, .int v2)]) [0, 1, 2] rfl ?_
        exact bc_Call_findOnlyParty_42 X hml hr ih h11 fv0 fv1 h
def fc_Call_findOnlyParty (V : Rho) (L : Lst) (N : Cnt) (a0 : Int32) : Option (Int32) := fc_Call_findOnlyParty_4 FU V L N a0 (-1) 0
set_option maxRecDepth 100000 in
set_option maxHeartbeats 4000000 in
theorem bc_Call_findOnlyParty {p : Program} {l : Launch} {e : Env} {s : State} {m : MethodId} {args : Array Value} {below : List Frame} {meth : Method} {c : Code} {D : va_G} {dA : Nat → ClassId} {A : Nat → Prop} {xs : va_W} {o : Int32} {V : Rho} {L : Lst} {N : Cnt} {ad : Adr} (X : zc p l s m args meth c cX1_findOnlyParty RX1 D dA A) (hml : c.maxLocals = 4) (hr : meth.sig.returnType = (some (.object "MeshBiller$Leg"))) (h11 : 0 < N 11) {a0 : Int32} (va0 : vp_in a0 (N 1)) (h : fc_Call_findOnlyParty V L N a0 = some o) : zz p l e ({ frames := 9, cells := 0, slots := 0, locals := 378 } : Room) s m args below meth c A (cx D dA A V L N ad xs) 0 0 (MQ below (va_Qq (fun r (w9 : Unit) => r = qn (ad 4) o ∧ (o = -1 ∨ vp_in o (N 4))) (fun (w9 : Unit) t => cx D dA A V L N ad xs t.heap) A) args s 0 0 A) 0 [(0, .ref (ad 1 a0.toNatClampNeg))] [] [] := by
  unfold fc_Call_findOnlyParty at h
  refine z_null X dX1_findOnlyParty_0 ?_
  refine z_astoreq_n (o := none) (lo' := [(1, .null), (0, .ref (ad 1 a0.toNatClampNeg))]) X dX1_findOnlyParty_1 rfl (by rw [hml]; decide) rfl rfl ?_
  refine z_iconst (v := 0) X dX1_findOnlyParty_2 (by decide) ?_
  refine z_istore_n (lo' := [(2, .int 0), (1, .null), (0, .ref (ad 1 a0.toNatClampNeg))]) X dX1_findOnlyParty_3 rfl (by rw [hml]; decide) rfl rfl ?_
  refine zz.pick (lo' := [(0, .ref (ad 1 a0.toNatClampNeg)), (1, va_rf (qn (ad 4) (-1))), (2, .int 0)]) [0, 1, 2] (by rw [qn_null]; rfl) ?_
  exact bc_Call_findOnlyParty_4 X hml hr FU h11 va0 (Or.inl rfl) h
theorem cc_Call_findOnlyParty (l : Launch) {D : va_G} {dA : Nat → ClassId} {A : Nat → Prop} {n : Nat} (hst : l.stackTraces = false) (hA : ∀ q, n ≤ q → A q) {V : Rho} {L : Lst} {N : Cnt} {ad : Adr} {xs : va_W} (h11 : 0 < N 11) {a0 : Int32} (va0 : vp_in a0 (N 1)) {o : Int32} (h : fc_Call_findOnlyParty V L N a0 = some o) : Met l yX1_findOnlyParty (.code yX1_findOnlyParty cX1_findOnlyParty 4 (some (.object "MeshBiller$Leg")) :: gT) ({ frames := 9, cells := 0, slots := 0, locals := 378 } : Room) (va_Pc [.ref (ad 1 a0.toNatClampNeg)] (zB D dA A n (cx D dA A V L N ad xs))) (va_Qq (fun r (w9 : Unit) => r = qn (ad 4) o ∧ (o = -1 ∨ vp_in o (N 4))) (fun (w9 : Unit) t => cx D dA A V L N ad xs t.heap) A) 0 0 A :=
  z_met (by decide) hA hst (Nat.le_of_ble_eq_true rfl) rfl rfl (fun p e s m below meth c X hml hr _ => bc_Call_findOnlyParty X hml hr h11 va0 h)
-- MeshBiller.callAt(I)LMeshBiller$Call;
def fc_callAt (V : Rho) (L : Lst) (N : Cnt) (a1 : Int32) : Option ((Int32) ⊕ Nat) := (if a1 < 0 then some (.inr 1)
  else (some (nI (L 13 0).length)).bind fun x1 => (if a1 < x1 then if a1 < 0 ∨ (L 13 0).length ≤ (a1).toNatClampNeg then none else (some ((L 13 0).getD a1.toNatClampNeg 0)).bind fun x3 => some (.inl x3)
  else some (.inr 1)))
set_option maxRecDepth 100000 in
set_option maxHeartbeats 4000000 in
theorem bc_callAt {p : Program} {l : Launch} {e : Env} {s : State} {m : MethodId} {args : Array Value} {below : List Frame} {meth : Method} {c : Code} {D : va_G} {dA : Nat → ClassId} {A : Nat → Prop} {xs : va_W} {o : (Int32) ⊕ Nat} {V : Rho} {L : Lst} {N : Cnt} {ad : Adr} (X : zc p l s m args meth c cX11_callAt RX11 D dA A) (hml : c.maxLocals = 2) (hr : meth.sig.returnType = (some (.object "MeshBiller$Call"))) (hnil : ∀ x ∈ c.exceptionTable.toList, False) {cells slots : Nat} (hcs : cells + 1 ≤ 1 ∧ slots + 6 ≤ 6) (h11 : 0 < N 11) {a1 : Int32} (h : fc_callAt V L N a1 = some o) : zz p l e ({ frames := 9, cells := 1, slots := 6, locals := 378 } : Room) s m args below meth c A (cx D dA A V L N ad xs) cells slots (vx_MQ below (va_Qq (fun r (w9 : Int32) => r = some (ad 1 w9.toNatClampNeg) ∧ o = .inl w9 ∧ vp_in w9 (N 1)) (fun (w9 : Int32) t => cx D dA A V L N ad xs t.heap) A) (vx_X (fun (u : Nat) => o = .inr u) (fun E u t => E = exn u ∧ cx D dA A V L N ad xs t.heap) A) args s 1 6 A) 0 [(0, .ref (ad 11 0)), (1, .int a1)] [] [] := by
  obtain ⟨hcs1, hcs2⟩ := hcs
  unfold fc_callAt at h
  refine z_iload_n X dX11_callAt_0 rfl rfl ?_
  refine z_if_lt (tgt := 15) X dX11_callAt_1 (by decide) (fun q => ?_) (fun q => ?_)
  · have h := zp q h
    obtain rfl := Option.some.inj h
    exact z_throwSW (k := 1) (ik := 199) (is := 359) (ic := 203) (text := "no such call") X hnil cx_grow (by decide) g_326 g_19 hat_1 (by decide) dX11_callAt_15 dX11_callAt_18 dX11_callAt_19 dX11_callAt_22 dX11_callAt_25 ⟨Nat.le_of_ble_eq_true rfl, Nat.le_of_ble_eq_true rfl, by show _ ≤ 1; omega, by show _ ≤ 6; omega⟩ (fun t hG hF => ⟨1, rfl, ⟨rfl, hG⟩, hF⟩) (by omega) (by omega)
  · have h := zn q h
    refine z_iload_n X dX11_callAt_4 rfl rfl ?_
    refine z_aload_n X dX11_callAt_5 rfl rfl ?_
    refine c_get X 11 5 (v := .ref (ad 13 0)) rx11_ws rfl rfl rfl h11 g_277 rfl dX11_callAt_6 ?_
    obtain ⟨x1, ex1, h⟩ := zb h
    refine z_callVi (As := []) (rest := [.int a1]) (nA := 0) (mc := 0) (ms := 0) (rm := ({ frames := 8, cells := 0, slots := 0, locals := 336 } : Room)) (r0 := (nI (L 13 0).length)) (pu := fun (_ : Unit) => True) (G1 := fun _ => cx D dA A V L N ad xs) X (cl_size l X.2.2.2.2.2.2.2.2 X.2.2.2.2.2.2.1 (k := 13) (i := 0) rfl rfl h11) g_308 g_309 g_310 g_4 g_311 hd_yJx4a65c_size_8abf5 ⟨rfl, rfl, Nat.le_of_ble_eq_true rfl, Nat.le_of_ble_eq_true rfl⟩ rfl (fun _ hG => cx_recvL X (k := 13) rfl rfl h11 hG) rfl (Nat.le_of_ble_eq_true rfl) dX11_callAt_9 ⟨by show _ ≤ 1; omega, by show _ ≤ 6; omega⟩ (fun _ _ => ?_)
    rw [ex1]
    refine z_icmp_lt (tgt := 26) X dX11_callAt_12 (by decide) (fun q => ?_) (fun q => ?_)
    · have h := zp q h
      refine z_aload_n X dX11_callAt_26 rfl rfl ?_
      refine c_get X 11 5 (v := .ref (ad 13 0)) rx11_ws rfl rfl rfl h11 g_277 rfl dX11_callAt_27 ?_
      refine z_iload_n X dX11_callAt_30 rfl rfl ?_
      obtain ⟨q2, h⟩ := zg h
      obtain ⟨x3, ex3, h⟩ := zb h
      refine z_callVq (As := [.int a1]) (rest := []) (nA := 1) (mc := 0) (ms := 0) (rm := ({ frames := 8, cells := 0, slots := 0, locals := 336 } : Room)) (ro := fun _ => some (ad 1 ((L 13 0).getD a1.toNatClampNeg 0).toNatClampNeg)) (pu := fun (_ : Unit) => True) (G1 := fun _ => cx D dA A V L N ad xs) X (cl_get l X.2.2.2.2.2.2.2.2 X.2.2.2.2.2.2.1 (k := 13) (i := 0) (x := a1) rfl rfl h11 q2) g_852 g_554 g_555 g_4 g_556 hd_yJx4a65c_get_915e3 ⟨rfl, rfl, Nat.le_of_ble_eq_true rfl, Nat.le_of_ble_eq_true rfl⟩ rfl (fun _ hG => cx_recvL X (k := 13) rfl rfl h11 hG) rfl (Nat.le_of_ble_eq_true rfl) dX11_callAt_31 ⟨by show _ ≤ 1; omega, by show _ ≤ 6; omega⟩ (fun _ _ => ?_)
      rw [ex3]
      refine zz.pre (fun H hG => cx_elt (k := 13) rfl rfl h11 q2 hG) (fun p4 => ?_)
      rw [ex3] at p4
      refine c_cast X (k := 1) (n := 3) rfl rfl (vp_lt p4) g_872 dX11_callAt_34 ?_
      obtain rfl := Option.some.inj h
      refine zx_ret ?_
      refine zz.widen (k := 1) (n := 6) (by omega) (by omega) ?_
      exact z_aret (o := some (ad 1 x3.toNatClampNeg)) X hr (Or.inl ⟨_, rfl⟩) (fun t hG hF _ => ⟨⟨_, _, rfl, ⟨rfl, ⟨rfl, p4⟩⟩, hG⟩, hF⟩) dX11_callAt_37
    · have h := zn q h
      obtain rfl := Option.some.inj h
      exact z_throwSW (k := 1) (ik := 199) (is := 359) (ic := 203) (text := "no such call") X hnil cx_grow (by decide) g_326 g_19 hat_1 (by decide) dX11_callAt_15 dX11_callAt_18 dX11_callAt_19 dX11_callAt_22 dX11_callAt_25 ⟨Nat.le_of_ble_eq_true rfl, Nat.le_of_ble_eq_true rfl, by show _ ≤ 1; omega, by show _ ≤ 6; omega⟩ (fun t hG hF => ⟨1, rfl, ⟨rfl, hG⟩, hF⟩) (by omega) (by omega)
theorem cc_callAt (l : Launch) {D : va_G} {dA : Nat → ClassId} {A : Nat → Prop} {n : Nat} (hst : l.stackTraces = false) (hA : ∀ q, n ≤ q → A q) {V : Rho} {L : Lst} {N : Cnt} {ad : Adr} {xs : va_W} (h11 : 0 < N 11) {a1 : Int32} {o : (Int32) ⊕ Nat} (h : fc_callAt V L N a1 = some o) : vx_Met l yX11_callAt (.code yX11_callAt cX11_callAt 2 (some (.object "MeshBiller$Call")) :: gT) ({ frames := 9, cells := 1, slots := 6, locals := 378 } : Room) (va_Pc [.ref (ad 11 0), .int a1] (zB D dA A n (cx D dA A V L N ad xs))) (va_Qq (fun r (w9 : Int32) => r = some (ad 1 w9.toNatClampNeg) ∧ o = .inl w9 ∧ vp_in w9 (N 1)) (fun (w9 : Int32) t => cx D dA A V L N ad xs t.heap) A) (vx_X (fun (u : Nat) => o = .inr u) (fun E u t => E = exn u ∧ cx D dA A V L N ad xs t.heap) A) 1 6 A :=
  zx_met (by decide) hA hst (Nat.le_of_ble_eq_true rfl) rfl rfl (fun p e s m below meth c X hml hr hnil => bc_callAt X hml hr hnil ⟨by omega, by omega⟩ h11 h)
-- MeshBiller$Call.countParties()I
def fc_Call_countParties_35 (k4 : Rho → Lst → Cnt → Int32 → Int32 → Int32 → Option (Int32)) (V : Rho) (L : Lst) (N : Cnt) (v0 : Int32) (v1 : Int32) (v2 : Int32) : Option (Int32) := (some (v2 + 1)).bind fun x1 => k4 V L N v0 v1 x1
set_option maxRecDepth 100000 in
set_option maxHeartbeats 4000000 in
theorem bc_Call_countParties_35 {p : Program} {l : Launch} {e : Env} {s : State} {m : MethodId} {args : Array Value} {below : List Frame} {meth : Method} {c : Code} {D : va_G} {dA : Nat → ClassId} {A : Nat → Prop} {xs : va_W} {o : Int32} {V : Rho} {L : Lst} {N : Cnt} {ad : Adr} (X : zc p l s m args meth c cX1_countParties RX1 D dA A) (hml : c.maxLocals = 3) (hr : meth.sig.returnType = (some .int)) {k4 : Rho → Lst → Cnt → Int32 → Int32 → Int32 → Option (Int32)} (hk4 : ∀ (h11 : 0 < N 11) {v0 : Int32} {v1 : Int32} {v2 : Int32} (fv0 : vp_in v0 (N 1)) , k4 V L N v0 v1 v2 = some o → zz p l e ({ frames := 9, cells := 0, slots := 0, locals := 378 } : Room) s m args below meth c A (cx D dA A V L N ad xs) 0 0 (MQ below (va_Qi (fun r (w9 : Unit) => r = o ∧ True) (fun (w9 : Unit) t => cx D dA A V L N ad xs t.heap) A) args s 0 0 A) 4 [(0, .ref (ad 1 v0.toNatClampNeg)), (1, .int v1), (2, .int v2)] [] []) (h11 : 0 < N 11) {v0 : Int32} {v1 : Int32} {v2 : Int32} (fv0 : vp_in v0 (N 1)) (h : fc_Call_countParties_35 k4 V L N v0 v1 v2 = some o) : zz p l e ({ frames := 9, cells := 0, slots := 0, locals := 378 } : Room) s m args below meth c A (cx D dA A V L N ad xs) 0 0 (MQ below (va_Qi (fun r (w9 : Unit) => r = o ∧ True) (fun (w9 : Unit) t => cx D dA A V L N ad xs t.heap) A) args s 0 0 A) 35 [(0, .ref (ad 1 v0.toNatClampNeg)), (1, .int v1), (2, .int v2)] [] [] := by
  unfold fc_Call_countParties_35 at h
  obtain ⟨x1, ex1, h⟩ := zb h
  refine z_iinc (v := x1) (lo' := [(2, .int x1), (0, .ref (ad 1 v0.toNatClampNeg)), (1, .int v1)]) X dX1_countParties_35 rfl ex1 (by rw [hml]; decide) rfl rfl ?_
  refine z_goto (tgt := 4) X dX1_countParties_38 (by decide) ?_
  refine zz.pick (lo' := [(0, .ref (ad 1 v0.toNatClampNeg)), (1, .int v1), (2, .int x1)]) [0, 1, 2] rfl ?_
  exact hk4 h11 fv0 h
def fc_Call_countParties_4 : Nat → Rho → Lst → Cnt → Int32 → Int32 → Int32 → Option (Int32)
  | 0, _, _, _, _, _, _ => none
  | n + 1, V, L, N, v0, v1, v2 => (some (nI (L 17 v0.toNatClampNeg).length)).bind fun x1 => (if x1 ≤ v2 then some v1
  else if v2 < 0 ∨ (L 17 v0.toNatClampNeg).length ≤ (v2).toNatClampNeg then none else (some ((L 17 v0.toNatClampNeg).getD v2.toNatClampNeg 0)).bind fun x3 => (if (V 87 x3.toNatClampNeg) = 0 then (some (v1 + 1)).bind fun x5 => fc_Call_countParties_35 (fc_Call_countParties_4 n) V L N v0 x5 v2
  else fc_Call_countParties_35 (fc_Call_countParties_4 n) V L N v0 v1 v2))
set_option maxRecDepth 100000 in
set_option maxHeartbeats 4000000 in
theorem bc_Call_countParties_4 {p : Program} {l : Launch} {e : Env} {s : State} {m : MethodId} {args : Array Value} {below : List Frame} {meth : Method} {c : Code} {D : va_G} {dA : Nat → ClassId} {A : Nat → Prop} {xs : va_W} {o : Int32} {V : Rho} {L : Lst} {N : Cnt} {ad : Adr} (X : zc p l s m args meth c cX1_countParties RX1 D dA A) (hml : c.maxLocals = 3) (hr : meth.sig.returnType = (some .int)) : ∀ (n : Nat) (h11 : 0 < N 11) {v0 : Int32} {v1 : Int32} {v2 : Int32} (fv0 : vp_in v0 (N 1)) , fc_Call_countParties_4 n V L N v0 v1 v2 = some o → zz p l e ({ frames := 9, cells := 0, slots := 0, locals := 378 } : Room) s m args below meth c A (cx D dA A V L N ad xs) 0 0 (MQ below (va_Qi (fun r (w9 : Unit) => r = o ∧ True) (fun (w9 : Unit) t => cx D dA A V L N ad xs t.heap) A) args s 0 0 A) 4 [(0, .ref (ad 1 v0.toNatClampNeg)), (1, .int v1), (2, .int v2)] [] [] := by
  intro n
  induction n with
  | zero => intro  h11 v0 v1 v2 fv0 h; exact (nomatch (show none = some o from h))
  | succ n ih =>
    intro  h11 v0 v1 v2 fv0 h
    rw [fc_Call_countParties_4] at h
    refine z_iload_n X dX1_countParties_4 rfl rfl ?_
    refine z_aload_n X dX1_countParties_5 rfl rfl ?_
    refine c_get X 1 2 (v := .ref (ad 17 v0.toNatClampNeg)) rx1_ws rfl rfl rfl (vp_lt fv0) g_884 rfl dX1_countParties_6 ?_
    obtain ⟨x1, ex1, h⟩ := zb h
    refine z_callVi (As := []) (rest := [.int v2]) (nA := 0) (mc := 0) (ms := 0) (rm := ({ frames := 8, cells := 0, slots := 0, locals := 336 } : Room)) (r0 := (nI (L 17 v0.toNatClampNeg).length)) (pu := fun (_ : Unit) => True) (G1 := fun _ => cx D dA A V L N ad xs) X (cl_size l X.2.2.2.2.2.2.2.2 X.2.2.2.2.2.2.1 (k := 17) (i := v0.toNatClampNeg) rfl rfl (vp_lt fv0)) g_1069 g_309 g_310 g_4 g_311 hd_yJx4a65c_size_8abf5 ⟨rfl, rfl, Nat.le_of_ble_eq_true rfl, Nat.le_of_ble_eq_true rfl⟩ rfl (fun _ hG => cx_recvL X (k := 17) rfl rfl (vp_lt fv0) hG) rfl (Nat.le_of_ble_eq_true rfl) dX1_countParties_9 ⟨Nat.le_refl _, Nat.le_refl _⟩ (fun _ _ => ?_)
    rw [ex1]
    refine z_icmp_ge (tgt := 41) X dX1_countParties_12 (by decide) (fun q => ?_) (fun q => ?_)
    · have h := zp q h
      refine z_iload_n X dX1_countParties_41 rfl rfl ?_
      obtain rfl := Option.some.inj h
      exact z_iret X hr rfl (fun t hG hF _ => ⟨⟨_, (), rfl, ⟨rfl, trivial⟩, hG⟩, hF⟩) dX1_countParties_42
    · have h := zn q h
      refine z_aload_n X dX1_countParties_15 rfl rfl ?_
      refine c_get X 1 2 (v := .ref (ad 17 v0.toNatClampNeg)) rx1_ws rfl rfl rfl (vp_lt fv0) g_884 rfl dX1_countParties_16 ?_
      refine z_iload_n X dX1_countParties_19 rfl rfl ?_
      obtain ⟨q2, h⟩ := zg h
      obtain ⟨x3, ex3, h⟩ := zb h
      refine z_callVq (As := [.int v2]) (rest := []) (nA := 1) (mc := 0) (ms := 0) (rm := ({ frames := 8, cells := 0, slots := 0, locals := 336 } : Room)) (ro := fun _ => some (ad 4 ((L 17 v0.toNatClampNeg).getD v2.toNatClampNeg 0).toNatClampNeg)) (pu := fun (_ : Unit) => True) (G1 := fun _ => cx D dA A V L N ad xs) X (cl_get l X.2.2.2.2.2.2.2.2 X.2.2.2.2.2.2.1 (k := 17) (i := v0.toNatClampNeg) (x := v2) rfl rfl (vp_lt fv0) q2) g_1070 g_554 g_555 g_4 g_556 hd_yJx4a65c_get_915e3 ⟨rfl, rfl, Nat.le_of_ble_eq_true rfl, Nat.le_of_ble_eq_true rfl⟩ rfl (fun _ hG => cx_recvL X (k := 17) rfl rfl (vp_lt fv0) hG) rfl (Nat.le_of_ble_eq_true rfl) dX1_countParties_20 ⟨Nat.le_refl _, Nat.le_refl _⟩ (fun _ _ => ?_)
      rw [ex3]
      refine zz.pre (fun H hG => cx_elt (k := 17) rfl rfl (vp_lt fv0) q2 hG) (fun p4 => ?_)
      rw [ex3] at p4
      refine c_cast X (k := 4) (n := 12) rfl rfl (vp_lt p4) g_1071 dX1_countParties_23 ?_
      refine c_get X 4 7 (v := .int (V 87 x3.toNatClampNeg)) rx4_ws rfl rfl rfl (vp_lt p4) g_940 rfl dX1_countParties_26 ?_
      refine z_if_ne (tgt := 35) X dX1_countParties_29 (by decide) (fun q => ?_) (fun q => ?_)
      · have h := zp q h
        obtain ⟨x5, ex5, h⟩ := zb h
        refine z_iinc (v := x5) (lo' := [(1, .int x5), (0, .ref (ad 1 v0.toNatClampNeg)), (2, .int v2)]) X dX1_countParties_32 rfl ex5 (by rw [hml]; decide) rfl rfl ?_
        refine zz.pick (lo' := [(0, .ref (ad 1 v0.toNatClampNeg)), (1, .int x5), (2, .int v2)]) [0, 1, 2] rfl ?_
        exact bc_Call_countParties_35 X hml hr ih h11 fv0 h
      · have h := zn q h
        refine zz.pick (lo' := [(0, .ref (ad 1 v0.toNatClampNeg)), (1, .int v1), (2, .int v2)]) [0, 1, 2] rfl ?_
        exact bc_Call_countParties_35 X hml hr ih h11 fv0 h
def fc_Call_countParties (V : Rho) (L : Lst) (N : Cnt) (a0 : Int32) : Option (Int32) := fc_Call_countParties_4 FU V L N a0 0 0
set_option maxRecDepth 100000 in
set_option maxHeartbeats 4000000 in
theorem bc_Call_countParties {p : Program} {l : Launch} {e : Env} {s : State} {m : MethodId} {args : Array Value} {below : List Frame} {meth : Method} {c : Code} {D : va_G} {dA : Nat → ClassId} {A : Nat → Prop} {xs : va_W} {o : Int32} {V : Rho} {L : Lst} {N : Cnt} {ad : Adr} (X : zc p l s m args meth c cX1_countParties RX1 D dA A) (hml : c.maxLocals = 3) (hr : meth.sig.returnType = (some .int)) (h11 : 0 < N 11) {a0 : Int32} (va0 : vp_in a0 (N 1)) (h : fc_Call_countParties V L N a0 = some o) : zz p l e ({ frames := 9, cells := 0, slots := 0, locals := 378 } : Room) s m args below meth c A (cx D dA A V L N ad xs) 0 0 (MQ below (va_Qi (fun r (w9 : Unit) => r = o ∧ True) (fun (w9 : Unit) t => cx D dA A V L N ad xs t.heap) A) args s 0 0 A) 0 [(0, .ref (ad 1 a0.toNatClampNeg))] [] [] := by
  unfold fc_Call_countParties at h
  refine z_iconst (v := 0) X dX1_countParties_0 (by decide) ?_
  refine z_istore_n (lo' := [(1, .int 0), (0, .ref (ad 1 a0.toNatClampNeg))]) X dX1_countParties_1 rfl (by rw [hml]; decide) rfl rfl ?_
  refine z_iconst (v := 0) X dX1_countParties_2 (by decide) ?_
  refine z_istore_n (lo' := [(2, .int 0), (1, .int 0), (0, .ref (ad 1 a0.toNatClampNeg))]) X dX1_countParties_3 rfl (by rw [hml]; decide) rfl rfl ?_
  refine zz.pick (lo' := [(0, .ref (ad 1 a0.toNatClampNeg)), (1, .int 0), (2, .int 0)]) [0, 1, 2] rfl ?_
  exact bc_Call_countParties_4 X hml hr FU h11 va0 h
theorem cc_Call_countParties (l : Launch) {D : va_G} {dA : Nat → ClassId} {A : Nat → Prop} {n : Nat} (hst : l.stackTraces = false) (hA : ∀ q, n ≤ q → A q) {V : Rho} {L : Lst} {N : Cnt} {ad : Adr} {xs : va_W} (h11 : 0 < N 11) {a0 : Int32} (va0 : vp_in a0 (N 1)) {o : Int32} (h : fc_Call_countParties V L N a0 = some o) : Met l yX1_countParties (.code yX1_countParties cX1_countParties 3 (some .int) :: gT) ({ frames := 9, cells := 0, slots := 0, locals := 378 } : Room) (va_Pc [.ref (ad 1 a0.toNatClampNeg)] (zB D dA A n (cx D dA A V L N ad xs))) (va_Qi (fun r (w9 : Unit) => r = o ∧ True) (fun (w9 : Unit) t => cx D dA A V L N ad xs t.heap) A) 0 0 A :=
  z_met (by decide) hA hst (Nat.le_of_ble_eq_true rfl) rfl rfl (fun p e s m below meth c X hml hr _ => bc_Call_countParties X hml hr h11 va0 h)
-- MeshBiller$Cell.isNextTo(LMeshBiller$Cell;)Z
def fc_Cell_isNextTo (V : Rho) (L : Lst) (N : Cnt) (a0 : Int32) (a1 : Int32) : Option (Int32) := (some (if 0 ≤ ((V 40 a0.toNatClampNeg) - (V 40 a1.toNatClampNeg)) then ((V 40 a0.toNatClampNeg) - (V 40 a1.toNatClampNeg)) else 0 - ((V 40 a0.toNatClampNeg) - (V 40 a1.toNatClampNeg)))).bind fun x1 => (if x1 = 1 then some 1
  else (if x1 = 7 then some 1
  else some 0))
set_option maxRecDepth 100000 in
set_option maxHeartbeats 4000000 in
theorem bc_Cell_isNextTo {p : Program} {l : Launch} {e : Env} {s : State} {m : MethodId} {args : Array Value} {below : List Frame} {meth : Method} {c : Code} {D : va_G} {dA : Nat → ClassId} {A : Nat → Prop} {xs : va_W} {o : Int32} {V : Rho} {L : Lst} {N : Cnt} {ad : Adr} (X : zc p l s m args meth c cX2_isNextTo RX2 D dA A) (hml : c.maxLocals = 3) (hr : meth.sig.returnType = (some .boolean)) (h11 : 0 < N 11) {a0 : Int32} {a1 : Int32} (va0 : vp_in a0 (N 2)) (va1 : vp_in a1 (N 2)) (h : fc_Cell_isNextTo V L N a0 a1 = some o) : zz p l e ({ frames := 1, cells := 0, slots := 0, locals := 42 } : Room) s m args below meth c A (cx D dA A V L N ad xs) 0 0 (MQ below (va_Qi (fun r (w9 : Unit) => r = o ∧ True) (fun (w9 : Unit) t => cx D dA A V L N ad xs t.heap) A) args s 0 0 A) 0 [(0, .ref (ad 2 a0.toNatClampNeg)), (1, .ref (ad 2 a1.toNatClampNeg))] [] [] := by
  unfold fc_Cell_isNextTo at h
  refine z_aload_n X dX2_isNextTo_0 rfl rfl ?_
  refine c_get X 2 0 (v := .int (V 40 a0.toNatClampNeg)) rx2_ws rfl rfl rfl (vp_lt va0) g_197 rfl dX2_isNextTo_1 ?_
  refine z_aload_n X dX2_isNextTo_4 rfl rfl ?_
  refine c_get X 2 0 (v := .int (V 40 a1.toNatClampNeg)) rx2_ws rfl rfl rfl (vp_lt va1) g_197 rfl dX2_isNextTo_5 ?_
  refine z_isub X dX2_isNextTo_8 ?_
  obtain ⟨x1, ex1, h⟩ := zb h
  refine z_abs X g_1109 g_1110 g_9 g_1111 (Nat.le_of_ble_eq_true rfl) (Nat.le_of_ble_eq_true rfl) ⟨Nat.le_refl _, Nat.le_refl _⟩ dX2_isNextTo_9 ?_
  rw [ex1]
  refine z_istore_n (lo' := [(2, .int x1), (0, .ref (ad 2 a0.toNatClampNeg)), (1, .ref (ad 2 a1.toNatClampNeg))]) X dX2_isNextTo_12 rfl (by rw [hml]; decide) rfl rfl ?_
  refine z_iload_n X dX2_isNextTo_13 rfl rfl ?_
  refine z_iconst (v := 1) X dX2_isNextTo_14 (by decide) ?_
  refine z_icmp_eq (tgt := 24) X dX2_isNextTo_15 (by decide) (fun q => ?_) (fun q => ?_)
  · have h := zp q h
    refine z_iconst (v := 1) X dX2_isNextTo_24 (by decide) ?_
    refine z_goto (tgt := 29) X dX2_isNextTo_25 (by decide) ?_
    obtain rfl := Option.some.inj h
    exact z_iret X hr rfl (fun t hG hF _ => ⟨⟨_, (), rfl, ⟨rfl, trivial⟩, hG⟩, hF⟩) dX2_isNextTo_29
  · have h := zn q h
    refine z_iload_n X dX2_isNextTo_18 rfl rfl ?_
    refine z_bipush (v := 7) X dX2_isNextTo_19 (by decide) ?_
    refine z_icmp_ne (tgt := 28) X dX2_isNextTo_21 (by decide) (fun q => ?_) (fun q => ?_)
    · have h := zp q h
      refine z_iconst (v := 1) X dX2_isNextTo_24 (by decide) ?_
      refine z_goto (tgt := 29) X dX2_isNextTo_25 (by decide) ?_
      obtain rfl := Option.some.inj h
      exact z_iret X hr rfl (fun t hG hF _ => ⟨⟨_, (), rfl, ⟨rfl, trivial⟩, hG⟩, hF⟩) dX2_isNextTo_29
    · have h := zn q h
      refine z_iconst (v := 0) X dX2_isNextTo_28 (by decide) ?_
      obtain rfl := Option.some.inj h
      exact z_iret X hr rfl (fun t hG hF _ => ⟨⟨_, (), rfl, ⟨rfl, trivial⟩, hG⟩, hF⟩) dX2_isNextTo_29
theorem cc_Cell_isNextTo (l : Launch) {D : va_G} {dA : Nat → ClassId} {A : Nat → Prop} {n : Nat} (hst : l.stackTraces = false) (hA : ∀ q, n ≤ q → A q) {V : Rho} {L : Lst} {N : Cnt} {ad : Adr} {xs : va_W} (h11 : 0 < N 11) {a0 : Int32} {a1 : Int32} (va0 : vp_in a0 (N 2)) (va1 : vp_in a1 (N 2)) {o : Int32} (h : fc_Cell_isNextTo V L N a0 a1 = some o) : Met l yX2_isNextTo (.code yX2_isNextTo cX2_isNextTo 3 (some .boolean) :: gT) ({ frames := 1, cells := 0, slots := 0, locals := 42 } : Room) (va_Pc [.ref (ad 2 a0.toNatClampNeg), .ref (ad 2 a1.toNatClampNeg)] (zB D dA A n (cx D dA A V L N ad xs))) (va_Qi (fun r (w9 : Unit) => r = o ∧ True) (fun (w9 : Unit) t => cx D dA A V L N ad xs t.heap) A) 0 0 A :=
  z_met (by decide) hA hst (Nat.le_of_ble_eq_true rfl) rfl rfl (fun p e s m below meth c X hml hr _ => bc_Cell_isNextTo X hml hr h11 va0 va1 h)
-- MeshBiller.isSliceFit(LMeshBiller$Leg;I)Z
def fc_isSliceFit (V : Rho) (L : Lst) (N : Cnt) (a1 : Int32) (a2 : Int32) : Option (Int32) := (if (V 162 a1.toNatClampNeg) = -1 then (if (V 161 a1.toNatClampNeg) = a2 then some 1
  else some 0)
  else (fc_dayOf V L N (V 228 0)).bind fun o4 => (fc_Bundle_isOver V L N (V 162 a1.toNatClampNeg) o4).bind fun o5 => (if o5 = 0 then (fc_Bundle_isFor V L N (V 162 a1.toNatClampNeg) (V 41 (V 101 (V 81 a1.toNatClampNeg).toNatClampNeg).toNatClampNeg)).bind fun o9 => (if o9 = 0 then some 0
  else some 1)
  else some 0))
set_option maxRecDepth 100000 in
set_option maxHeartbeats 4000000 in
theorem bc_isSliceFit {p : Program} {l : Launch} {e : Env} {s : State} {m : MethodId} {args : Array Value} {below : List Frame} {meth : Method} {c : Code} {D : va_G} {dA : Nat → ClassId} {A : Nat → Prop} {xs : va_W} {o : Int32} {V : Rho} {L : Lst} {N : Cnt} {ad : Adr} (X : zc p l s m args meth c cX11_isSliceFit RX11 D dA A) (hml : c.maxLocals = 4) (hr : meth.sig.returnType = (some .boolean)) (h11 : 0 < N 11) {a1 : Int32} {a2 : Int32} (va1 : vp_in a1 (N 4)) (h : fc_isSliceFit V L N a1 a2 = some o) : zz p l e ({ frames := 2, cells := 0, slots := 0, locals := 84 } : Room) s m args below meth c A (cx D dA A V L N ad xs) 0 0 (MQ below (va_Qi (fun r (w9 : Unit) => r = o ∧ True) (fun (w9 : Unit) t => cx D dA A V L N ad xs t.heap) A) args s 0 0 A) 0 [(0, .ref (ad 11 0)), (1, .ref (ad 4 a1.toNatClampNeg)), (2, .int a2)] [] [] := by
  unfold fc_isSliceFit at h
  refine z_aload_n X dX11_isSliceFit_0 rfl rfl ?_
  refine c_get X 4 5 (v := .ref (ad 8 a1.toNatClampNeg)) rx4_ws rfl rfl rfl (vp_lt va1) g_936 rfl dX11_isSliceFit_1 ?_
  refine zz.pre (fun H hG => vp_mono va1 hG.2.2.2.2.2.2.2.2.1.2.1) (fun (p1 : vp_in a1 (N 8)) => ?_)
  refine c_get X 8 2 (v := va_rf (qn (ad 0) (V 162 a1.toNatClampNeg))) rx8_ws rfl rfl rfl (vp_lt p1) g_916 rfl dX11_isSliceFit_4 ?_
  refine zz.pre (fun H hG => cx_fact (k := 8) (i := a1.toNatClampNeg) (f := 2) rfl (vp_lt p1) rfl hG) (fun (p2 : (V 162 a1.toNatClampNeg) = -1 ∨ vp_in (V 162 a1.toNatClampNeg) (N 0)) => ?_)
  refine z_astoreq_n (lo' := [(3, va_rf (qn (ad 0) (V 162 a1.toNatClampNeg))), (0, .ref (ad 11 0)), (1, .ref (ad 4 a1.toNatClampNeg)), (2, .int a2)]) X dX11_isSliceFit_7 rfl (by rw [hml]; decide) rfl rfl ?_
  refine z_aloadq_n X dX11_isSliceFit_8 rfl rfl ?_
  refine c_ifnonnull (tgt := 29) X dX11_isSliceFit_9 (by decide) (fun q => ?_) (fun q => ?_)
  · have h := zp q h
    refine z_aload_n X dX11_isSliceFit_12 rfl rfl ?_
    refine c_get X 4 5 (v := .ref (ad 8 a1.toNatClampNeg)) rx4_ws rfl rfl rfl (vp_lt va1) g_936 rfl dX11_isSliceFit_13 ?_
    refine c_get X 8 1 (v := .int (V 161 a1.toNatClampNeg)) rx8_ws rfl rfl rfl (vp_lt p1) g_913 rfl dX11_isSliceFit_16 ?_
    refine z_iload_n X dX11_isSliceFit_19 rfl rfl ?_
    refine z_icmp_ne (tgt := 27) X dX11_isSliceFit_20 (by decide) (fun q => ?_) (fun q => ?_)
    · have h := zp q h
      refine z_iconst (v := 1) X dX11_isSliceFit_23 (by decide) ?_
      refine z_goto (tgt := 28) X dX11_isSliceFit_24 (by decide) ?_
      obtain rfl := Option.some.inj h
      exact z_iret X hr rfl (fun t hG hF _ => ⟨⟨_, (), rfl, ⟨rfl, trivial⟩, hG⟩, hF⟩) dX11_isSliceFit_28
    · have h := zn q h
      refine z_iconst (v := 0) X dX11_isSliceFit_27 (by decide) ?_
      obtain rfl := Option.some.inj h
      exact z_iret X hr rfl (fun t hG hF _ => ⟨⟨_, (), rfl, ⟨rfl, trivial⟩, hG⟩, hF⟩) dX11_isSliceFit_28
  · have h := zn q h
    have p3 := p2.resolve_left q
    rw [qn_ref q]
    refine z_aload_n X dX11_isSliceFit_29 rfl rfl ?_
    refine z_aload_n X dX11_isSliceFit_30 rfl rfl ?_
    refine c_get X 11 8 (v := .int (V 228 0)) rx11_ws rfl rfl rfl h11 g_280 rfl dX11_isSliceFit_31 ?_
    obtain ⟨o4, co4, h⟩ := zb2 h
    refine z_callSi (As := [.int (V 228 0)]) (rest := [.ref (ad 0 (V 162 a1.toNatClampNeg).toNatClampNeg)]) (nA := 1) (mc := 0) (ms := 0) (rm := ({ frames := 1, cells := 0, slots := 0, locals := 42 } : Room)) (r0 := o4) (pu := fun (_ : Unit) => True) (G1 := fun _ => cx D dA A V L N ad xs) X (cc_dayOf l X.2.2.2.2.2.2.2.2 X.2.2.2.2.2.2.1 h11 co4) g_525 g_526 g_1 g_527 hd_yX11_dayOf ⟨rfl, rfl, Nat.le_of_ble_eq_true rfl, Nat.le_of_ble_eq_true rfl⟩ rfl rfl (Nat.le_of_ble_eq_true rfl) dX11_isSliceFit_34 ⟨Nat.le_refl _, Nat.le_refl _⟩ (fun _ _ => ?_)
    obtain ⟨o5, co5, h⟩ := zb2 h
    refine z_callVi (As := [.int o4]) (rest := []) (nA := 1) (mc := 0) (ms := 0) (rm := ({ frames := 1, cells := 0, slots := 0, locals := 42 } : Room)) (r0 := o5) (pu := fun (_ : Unit) => True) (G1 := fun _ => cx D dA A V L N ad xs) X (cc_Bundle_isOver l X.2.2.2.2.2.2.2.2 X.2.2.2.2.2.2.1 h11 p3 co5) g_853 g_854 g_855 g_22 g_856 hd_yX0_isOver ⟨rfl, rfl, Nat.le_of_ble_eq_true rfl, Nat.le_of_ble_eq_true rfl⟩ rfl (fun _ hG => cx_recv X (k := 0) (n := 4) rfl rfl (vp_lt p3) hG) rfl (Nat.le_of_ble_eq_true rfl) dX11_isSliceFit_37 ⟨Nat.le_refl _, Nat.le_refl _⟩ (fun _ _ => ?_)
    refine z_if_ne (tgt := 64) X dX11_isSliceFit_40 (by decide) (fun q => ?_) (fun q => ?_)
    · have h := zp q h
      refine z_aload_n X dX11_isSliceFit_43 rfl rfl ?_
      refine z_aload_n X dX11_isSliceFit_44 rfl rfl ?_
      refine c_get X 4 1 (v := .ref (ad 5 (V 81 a1.toNatClampNeg).toNatClampNeg)) rx4_ws rfl rfl rfl (vp_lt va1) g_929 rfl dX11_isSliceFit_45 ?_
      refine zz.pre (fun H hG => cx_fact (k := 4) (i := a1.toNatClampNeg) (f := 1) rfl (vp_lt va1) rfl hG) (fun (p6 : vp_in (V 81 a1.toNatClampNeg) (N 5)) => ?_)
      refine c_get X 5 1 (v := .ref (ad 2 (V 101 (V 81 a1.toNatClampNeg).toNatClampNeg).toNatClampNeg)) rx5_ws rfl rfl rfl (vp_lt p6) g_248 rfl dX11_isSliceFit_48 ?_
      refine zz.pre (fun H hG => cx_fact (k := 5) (i := (V 81 a1.toNatClampNeg).toNatClampNeg) (f := 1) rfl (vp_lt p6) rfl hG) (fun (p7 : vp_in (V 101 (V 81 a1.toNatClampNeg).toNatClampNeg) (N 2)) => ?_)
      refine c_get X 2 1 (v := .ref (ad 10 (V 41 (V 101 (V 81 a1.toNatClampNeg).toNatClampNeg).toNatClampNeg).toNatClampNeg)) rx2_ws rfl rfl rfl (vp_lt p7) g_201 rfl dX11_isSliceFit_51 ?_
      refine zz.pre (fun H hG => cx_fact (k := 2) (i := (V 101 (V 81 a1.toNatClampNeg).toNatClampNeg).toNatClampNeg) (f := 1) rfl (vp_lt p7) rfl hG) (fun (p8 : vp_in (V 41 (V 101 (V 81 a1.toNatClampNeg).toNatClampNeg).toNatClampNeg) (N 10)) => ?_)
      obtain ⟨o9, co9, h⟩ := zb2 h
      refine z_callVi (As := [.ref (ad 10 (V 41 (V 101 (V 81 a1.toNatClampNeg).toNatClampNeg).toNatClampNeg).toNatClampNeg)]) (rest := []) (nA := 1) (mc := 0) (ms := 0) (rm := ({ frames := 1, cells := 0, slots := 0, locals := 42 } : Room)) (r0 := o9) (pu := fun (_ : Unit) => True) (G1 := fun _ => cx D dA A V L N ad xs) X (cc_Bundle_isFor l X.2.2.2.2.2.2.2.2 X.2.2.2.2.2.2.1 h11 p3 p8 co9) g_1133 g_1016 g_1017 g_22 g_1018 hd_yX0_isFor ⟨rfl, rfl, Nat.le_of_ble_eq_true rfl, Nat.le_of_ble_eq_true rfl⟩ rfl (fun _ hG => cx_recv X (k := 0) (n := 4) rfl rfl (vp_lt p3) hG) rfl (Nat.le_of_ble_eq_true rfl) dX11_isSliceFit_54 ⟨Nat.le_refl _, Nat.le_refl _⟩ (fun _ _ => ?_)
      refine z_if_eq (tgt := 64) X dX11_isSliceFit_57 (by decide) (fun q => ?_) (fun q => ?_)
      · have h := zp q h
        refine z_iconst (v := 0) X dX11_isSliceFit_64 (by decide) ?_
        obtain rfl := Option.some.inj h
        exact z_iret X hr rfl (fun t hG hF _ => ⟨⟨_, (), rfl, ⟨rfl, trivial⟩, hG⟩, hF⟩) dX11_isSliceFit_65
      · have h := zn q h
        refine z_iconst (v := 1) X dX11_isSliceFit_60 (by decide) ?_
        refine z_goto (tgt := 65) X dX11_isSliceFit_61 (by decide) ?_
        obtain rfl := Option.some.inj h
        exact z_iret X hr rfl (fun t hG hF _ => ⟨⟨_, (), rfl, ⟨rfl, trivial⟩, hG⟩, hF⟩) dX11_isSliceFit_65
    · have h := zn q h
      refine z_iconst (v := 0) X dX11_isSliceFit_64 (by decide) ?_
      obtain rfl := Option.some.inj h
      exact z_iret X hr rfl (fun t hG hF _ => ⟨⟨_, (), rfl, ⟨rfl, trivial⟩, hG⟩, hF⟩) dX11_isSliceFit_65
theorem cc_isSliceFit (l : Launch) {D : va_G} {dA : Nat → ClassId} {A : Nat → Prop} {n : Nat} (hst : l.stackTraces = false) (hA : ∀ q, n ≤ q → A q) {V : Rho} {L : Lst} {N : Cnt} {ad : Adr} {xs : va_W} (h11 : 0 < N 11) {a1 : Int32} {a2 : Int32} (va1 : vp_in a1 (N 4)) {o : Int32} (h : fc_isSliceFit V L N a1 a2 = some o) : Met l yX11_isSliceFit (.code yX11_isSliceFit cX11_isSliceFit 4 (some .boolean) :: gT) ({ frames := 2, cells := 0, slots := 0, locals := 84 } : Room) (va_Pc [.ref (ad 11 0), .ref (ad 4 a1.toNatClampNeg), .int a2] (zB D dA A n (cx D dA A V L N ad xs))) (va_Qi (fun r (w9 : Unit) => r = o ∧ True) (fun (w9 : Unit) t => cx D dA A V L N ad xs t.heap) A) 0 0 A :=
  z_met (by decide) hA hst (Nat.le_of_ble_eq_true rfl) rfl rfl (fun p e s m below meth c X hml hr _ => bc_isSliceFit X hml hr h11 va1 h)
-- MeshBiller$Phone.addCost(II)V
def fc_Phone_addCost_18 (V : Rho) (L : Lst) (N : Cnt) (v0 : Int32) (v1 : Int32) : Option (Rho) := (some (cs V 106 v0.toNatClampNeg ((V 106 v0.toNatClampNeg) + v1))).bind fun V1 => some V1
set_option maxRecDepth 100000 in
set_option maxHeartbeats 4000000 in
theorem bc_Phone_addCost_18 {p : Program} {l : Launch} {e : Env} {s : State} {m : MethodId} {args : Array Value} {below : List Frame} {meth : Method} {c : Code} {D : va_G} {dA : Nat → ClassId} {A : Nat → Prop} {xs : va_W} {o : Rho} {L : Lst} {N : Cnt} {ad : Adr} (X : zc p l s m args meth c cX5_addCost RX5 D dA A) (hml : c.maxLocals = 3) (hr : meth.sig.returnType = none) {V : Rho} (h11 : 0 < N 11) {v0 : Int32} {v1 : Int32} (fv0 : vp_in v0 (N 5)) (h : fc_Phone_addCost_18 V L N v0 v1 = some o) : zz p l e ({ frames := 1, cells := 0, slots := 0, locals := 42 } : Room) s m args below meth c A (cx D dA A V L N ad xs) 0 0 (MQ below (va_Qv (fun (w9 : Unit) => True) (fun (w9 : Unit) t => cx D dA A o L N ad xs t.heap) A) args s 0 0 A) 18 [(0, .ref (ad 5 v0.toNatClampNeg)), (1, .int v1)] [] [] := by
  unfold fc_Phone_addCost_18 at h
  refine z_aload_n X dX5_addCost_18 rfl rfl ?_
  refine z_dup X dX5_addCost_19 rfl ?_
  refine c_get X 5 6 (v := .int (V 106 v0.toNatClampNeg)) rx5_ws rfl rfl rfl (vp_lt fv0) g_256 rfl dX5_addCost_20 ?_
  refine z_iload_n X dX5_addCost_23 rfl rfl ?_
  refine z_iadd X dX5_addCost_24 ?_
  obtain ⟨V1, eV1, h⟩ := zb h
  refine c_put X 5 6 (x := ((V 106 v0.toNatClampNeg) + v1)) (v := .int ((V 106 v0.toNatClampNeg) + v1)) (ty := .int) rx5_ws rfl tyX5_ok nmX5 rfl rfl (vp_lt fv0) rfl g_256 rfl trivial rfl rfl rfl eV1 dX5_addCost_25 ?_
  obtain rfl := Option.some.inj h
  exact z_vret X hr (fun t hG hF _ => ⟨⟨(), rfl, trivial, hG⟩, hF⟩) dX5_addCost_28
def fc_Phone_addCost (V : Rho) (L : Lst) (N : Cnt) (a0 : Int32) (a1 : Int32) (a2 : Int32) : Option (Rho) := (if (V 105 a0.toNatClampNeg) = a2 then fc_Phone_addCost_18 V L N a0 a1
  else (some (cs V 105 a0.toNatClampNeg a2)).bind fun V1 => (some (cs V1 106 a0.toNatClampNeg 0)).bind fun V2 => fc_Phone_addCost_18 V2 L N a0 a1)
set_option maxRecDepth 100000 in
set_option maxHeartbeats 4000000 in
theorem bc_Phone_addCost {p : Program} {l : Launch} {e : Env} {s : State} {m : MethodId} {args : Array Value} {below : List Frame} {meth : Method} {c : Code} {D : va_G} {dA : Nat → ClassId} {A : Nat → Prop} {xs : va_W} {o : Rho} {L : Lst} {N : Cnt} {ad : Adr} (X : zc p l s m args meth c cX5_addCost RX5 D dA A) (hml : c.maxLocals = 3) (hr : meth.sig.returnType = none) {V : Rho} (h11 : 0 < N 11) {a0 : Int32} {a1 : Int32} {a2 : Int32} (va0 : vp_in a0 (N 5)) (h : fc_Phone_addCost V L N a0 a1 a2 = some o) : zz p l e ({ frames := 1, cells := 0, slots := 0, locals := 42 } : Room) s m args below meth c A (cx D dA A V L N ad xs) 0 0 (MQ below (va_Qv (fun (w9 : Unit) => True) (fun (w9 : Unit) t => cx D dA A o L N ad xs t.heap) A) args s 0 0 A) 0 [(0, .ref (ad 5 a0.toNatClampNeg)), (1, .int a1), (2, .int a2)] [] [] := by
  unfold fc_Phone_addCost at h
  refine z_aload_n X dX5_addCost_0 rfl rfl ?_
  refine c_get X 5 5 (v := .int (V 105 a0.toNatClampNeg)) rx5_ws rfl rfl rfl (vp_lt va0) g_255 rfl dX5_addCost_1 ?_
  refine z_iload_n X dX5_addCost_4 rfl rfl ?_
  refine z_icmp_eq (tgt := 18) X dX5_addCost_5 (by decide) (fun q => ?_) (fun q => ?_)
  · have h := zp q h
    refine zz.pick (lo' := [(0, .ref (ad 5 a0.toNatClampNeg)), (1, .int a1)]) [0, 1] rfl ?_
    exact bc_Phone_addCost_18 X hml hr h11 va0 h
  · have h := zn q h
    refine z_aload_n X dX5_addCost_8 rfl rfl ?_
    refine z_iload_n X dX5_addCost_9 rfl rfl ?_
    obtain ⟨V1, eV1, h⟩ := zb h
    refine c_put X 5 5 (x := a2) (v := .int a2) (ty := .int) rx5_ws rfl tyX5_ok nmX5 rfl rfl (vp_lt va0) rfl g_255 rfl trivial rfl rfl rfl eV1 dX5_addCost_10 ?_
    refine z_aload_n X dX5_addCost_13 rfl rfl ?_
    refine z_iconst (v := 0) X dX5_addCost_14 (by decide) ?_
    obtain ⟨V2, eV2, h⟩ := zb h
    refine c_put X 5 6 (x := 0) (v := .int 0) (ty := .int) rx5_ws rfl tyX5_ok nmX5 rfl rfl (vp_lt va0) rfl g_256 rfl trivial rfl rfl rfl eV2 dX5_addCost_15 ?_
    refine zz.pick (lo' := [(0, .ref (ad 5 a0.toNatClampNeg)), (1, .int a1)]) [0, 1] rfl ?_
    exact bc_Phone_addCost_18 X hml hr h11 va0 h
theorem cc_Phone_addCost (l : Launch) {D : va_G} {dA : Nat → ClassId} {A : Nat → Prop} {n : Nat} (hst : l.stackTraces = false) (hA : ∀ q, n ≤ q → A q) {V : Rho} {L : Lst} {N : Cnt} {ad : Adr} {xs : va_W} (h11 : 0 < N 11) {a0 : Int32} {a1 : Int32} {a2 : Int32} (va0 : vp_in a0 (N 5)) {o : Rho} (h : fc_Phone_addCost V L N a0 a1 a2 = some o) : Met l yX5_addCost (.code yX5_addCost cX5_addCost 3 none :: gT) ({ frames := 1, cells := 0, slots := 0, locals := 42 } : Room) (va_Pc [.ref (ad 5 a0.toNatClampNeg), .int a1, .int a2] (zB D dA A n (cx D dA A V L N ad xs))) (va_Qv (fun (w9 : Unit) => True) (fun (w9 : Unit) t => cx D dA A o L N ad xs t.heap) A) 0 0 A :=
  z_met (by decide) hA hst (Nat.le_of_ble_eq_true rfl) rfl rfl (fun p e s m below meth c X hml hr _ => bc_Phone_addCost X hml hr h11 va0 h)
-- MeshBiller$Leg.useSecond(II)V
def fc_Leg_useSecond_78 (V : Rho) (L : Lst) (N : Cnt) (v0 : Int32) (v1 : Int32) : Option (Rho) := (some (cs V 91 v0.toNatClampNeg ((((3 * (V 91 v0.toNatClampNeg)) + v1)).toInt8.toInt32))).bind fun V1 => some V1
set_option maxRecDepth 100000 in
set_option maxHeartbeats 4000000 in
theorem bc_Leg_useSecond_78 {p : Program} {l : Launch} {e : Env} {s : State} {m : MethodId} {args : Array Value} {below : List Frame} {meth : Method} {c : Code} {D : va_G} {dA : Nat → ClassId} {A : Nat → Prop} {xs : va_W} {o : Rho} {L : Lst} {N : Cnt} {ad : Adr} (X : zc p l s m args meth c cX4_useSecond RX4 D dA A) (hml : c.maxLocals = 3) (hr : meth.sig.returnType = none) {V : Rho} (h11 : 0 < N 11) {v0 : Int32} {v1 : Int32} (fv0 : vp_in v0 (N 4)) (h : fc_Leg_useSecond_78 V L N v0 v1 = some o) : zz p l e ({ frames := 2, cells := 0, slots := 0, locals := 84 } : Room) s m args below meth c A (cx D dA A V L N ad xs) 0 0 (MQ below (va_Qv (fun (w9 : Unit) => True) (fun (w9 : Unit) t => cx D dA A o L N ad xs t.heap) A) args s 0 0 A) 78 [(0, .ref (ad 4 v0.toNatClampNeg)), (1, .int v1)] [] [] := by
  unfold fc_Leg_useSecond_78 at h
  refine z_aload_n X dX4_useSecond_78 rfl rfl ?_
  refine z_iconst (v := 3) X dX4_useSecond_79 (by decide) ?_
  refine z_aload_n X dX4_useSecond_80 rfl rfl ?_
  refine c_get X 4 11 (v := .int (V 91 v0.toNatClampNeg)) rx4_ws rfl rfl rfl (vp_lt fv0) g_948 rfl dX4_useSecond_81 ?_
  refine z_imul X dX4_useSecond_84 ?_
  refine z_iload_n X dX4_useSecond_85 rfl rfl ?_
  refine z_iadd X dX4_useSecond_86 ?_
  refine z_i2b X dX4_useSecond_87 ?_
  obtain ⟨V1, eV1, h⟩ := zb h
  refine c_put X 4 11 (x := (((3 * (V 91 v0.toNatClampNeg)) + v1)).toInt8.toInt32) (v := .int ((((3 * (V 91 v0.toNatClampNeg)) + v1)).toInt8.toInt32)) (ty := .byte) rx4_ws rfl tyX4_ok nmX4 rfl rfl (vp_lt fv0) rfl g_948 rfl trivial rfl (pk_nb _) (pk_fb _) eV1 dX4_useSecond_88 ?_
  obtain rfl := Option.some.inj h
  exact z_vret X hr (fun t hG hF _ => ⟨⟨(), rfl, trivial, hG⟩, hF⟩) dX4_useSecond_91
def fc_Leg_useSecond (V : Rho) (L : Lst) (N : Cnt) (a0 : Int32) (a1 : Int32) (a2 : Int32) : Option (Rho) := (some (cs V 160 a0.toNatClampNeg ((V 160 a0.toNatClampNeg) - 1))).bind fun V2 => (some (cs V2 88 a0.toNatClampNeg ((V2 88 a0.toNatClampNeg) + 1))).bind fun V3 => (if (V3 162 a0.toNatClampNeg) = -1 then (some (cs V3 89 a0.toNatClampNeg ((V3 89 a0.toNatClampNeg) + a1))).bind fun V6 => (some (cs V6 183 (V6 83 a0.toNatClampNeg).toNatClampNeg ((V6 183 (V6 83 a0.toNatClampNeg).toNatClampNeg) + a1))).bind fun V8 => (fc_Phone_addCost V8 L N (V8 81 a0.toNatClampNeg) a1 a2).bind fun o10 => fc_Leg_useSecond_78 o10 L N a0 a1
  else (some (cs V3 90 a0.toNatClampNeg ((V3 90 a0.toNatClampNeg) + a1))).bind fun V11 => fc_Leg_useSecond_78 V11 L N a0 a1)
set_option maxRecDepth 100000 in
set_option maxHeartbeats 4000000 in
theorem bc_Leg_useSecond {p : Program} {l : Launch} {e : Env} {s : State} {m : MethodId} {args : Array Value} {below : List Frame} {meth : Method} {c : Code} {D : va_G} {dA : Nat → ClassId} {A : Nat → Prop} {xs : va_W} {o : Rho} {L : Lst} {N : Cnt} {ad : Adr} (X : zc p l s m args meth c cX4_useSecond RX4 D dA A) (hml : c.maxLocals = 3) (hr : meth.sig.returnType = none) {V : Rho} (h11 : 0 < N 11) {a0 : Int32} {a1 : Int32} {a2 : Int32} (va0 : vp_in a0 (N 4)) (h : fc_Leg_useSecond V L N a0 a1 a2 = some o) : zz p l e ({ frames := 2, cells := 0, slots := 0, locals := 84 } : Room) s m args below meth c A (cx D dA A V L N ad xs) 0 0 (MQ below (va_Qv (fun (w9 : Unit) => True) (fun (w9 : Unit) t => cx D dA A o L N ad xs t.heap) A) args s 0 0 A) 0 [(0, .ref (ad 4 a0.toNatClampNeg)), (1, .int a1), (2, .int a2)] [] [] := by
  unfold fc_Leg_useSecond at h
  refine z_aload_n X dX4_useSecond_0 rfl rfl ?_
  refine c_get X 4 5 (v := .ref (ad 8 a0.toNatClampNeg)) rx4_ws rfl rfl rfl (vp_lt va0) g_935 rfl dX4_useSecond_1 ?_
  refine zz.pre (fun H hG => vp_mono va0 hG.2.2.2.2.2.2.2.2.1.2.1) (fun (p1 : vp_in a0 (N 8)) => ?_)
  refine z_dup X dX4_useSecond_4 rfl ?_
  refine c_get X 8 0 (v := .int (V 160 a0.toNatClampNeg)) rx8_ws rfl rfl rfl (vp_lt p1) g_910 rfl dX4_useSecond_5 ?_
  refine z_iconst (v := 1) X dX4_useSecond_8 (by decide) ?_
  refine z_isub X dX4_useSecond_9 ?_
  obtain ⟨V2, eV2, h⟩ := zb h
  refine c_put X 8 0 (x := ((V 160 a0.toNatClampNeg) - 1)) (v := .int ((V 160 a0.toNatClampNeg) - 1)) (ty := .int) rx8_ws rfl tyX8_ok nmX8 rfl rfl (vp_lt p1) rfl g_910 rfl trivial rfl rfl rfl eV2 dX4_useSecond_10 ?_
  refine z_aload_n X dX4_useSecond_13 rfl rfl ?_
  refine z_dup X dX4_useSecond_14 rfl ?_
  refine c_get X 4 8 (v := .int (V2 88 a0.toNatClampNeg)) rx4_ws rfl rfl rfl (vp_lt va0) g_942 rfl dX4_useSecond_15 ?_
  refine z_iconst (v := 1) X dX4_useSecond_18 (by decide) ?_
  refine z_iadd X dX4_useSecond_19 ?_
  obtain ⟨V3, eV3, h⟩ := zb h
  refine c_put X 4 8 (x := ((V2 88 a0.toNatClampNeg) + 1)) (v := .int ((V2 88 a0.toNatClampNeg) + 1)) (ty := .int) rx4_ws rfl tyX4_ok nmX4 rfl rfl (vp_lt va0) rfl g_942 rfl trivial rfl rfl rfl eV3 dX4_useSecond_20 ?_
  refine z_aload_n X dX4_useSecond_23 rfl rfl ?_
  refine c_get X 4 5 (v := .ref (ad 8 a0.toNatClampNeg)) rx4_ws rfl rfl rfl (vp_lt va0) g_935 rfl dX4_useSecond_24 ?_
  refine c_get X 8 2 (v := va_rf (qn (ad 0) (V3 162 a0.toNatClampNeg))) rx8_ws rfl rfl rfl (vp_lt p1) g_915 rfl dX4_useSecond_27 ?_
  refine zz.pre (fun H hG => cx_fact (k := 8) (i := a0.toNatClampNeg) (f := 2) rfl (vp_lt p1) rfl hG) (fun (p4 : (V3 162 a0.toNatClampNeg) = -1 ∨ vp_in (V3 162 a0.toNatClampNeg) (N 0)) => ?_)
  refine c_ifnonnull (tgt := 68) X dX4_useSecond_30 (by decide) (fun q => ?_) (fun q => ?_)
  · have h := zp q h
    refine z_aload_n X dX4_useSecond_33 rfl rfl ?_
    refine z_dup X dX4_useSecond_34 rfl ?_
    refine c_get X 4 9 (v := .int (V3 89 a0.toNatClampNeg)) rx4_ws rfl rfl rfl (vp_lt va0) g_944 rfl dX4_useSecond_35 ?_
    refine z_iload_n X dX4_useSecond_38 rfl rfl ?_
    refine z_iadd X dX4_useSecond_39 ?_
    obtain ⟨V6, eV6, h⟩ := zb h
    refine c_put X 4 9 (x := ((V3 89 a0.toNatClampNeg) + a1)) (v := .int ((V3 89 a0.toNatClampNeg) + a1)) (ty := .int) rx4_ws rfl tyX4_ok nmX4 rfl rfl (vp_lt va0) rfl g_944 rfl trivial rfl rfl rfl eV6 dX4_useSecond_40 ?_
    refine z_aload_n X dX4_useSecond_43 rfl rfl ?_
    refine c_get X 4 3 (v := .ref (ad 9 (V6 83 a0.toNatClampNeg).toNatClampNeg)) rx4_ws rfl rfl rfl (vp_lt va0) g_932 rfl dX4_useSecond_44 ?_
    refine zz.pre (fun H hG => cx_fact (k := 4) (i := a0.toNatClampNeg) (f := 3) rfl (vp_lt va0) rfl hG) (fun (p7 : vp_in (V6 83 a0.toNatClampNeg) (N 9)) => ?_)
    refine z_dup X dX4_useSecond_47 rfl ?_
    refine c_get X 9 3 (v := .int (V6 183 (V6 83 a0.toNatClampNeg).toNatClampNeg)) rx9_ws rfl rfl rfl (vp_lt p7) g_228 rfl dX4_useSecond_48 ?_
    refine z_iload_n X dX4_useSecond_51 rfl rfl ?_
    refine z_iadd X dX4_useSecond_52 ?_
    obtain ⟨V8, eV8, h⟩ := zb h
    refine c_put X 9 3 (x := ((V6 183 (V6 83 a0.toNatClampNeg).toNatClampNeg) + a1)) (v := .int ((V6 183 (V6 83 a0.toNatClampNeg).toNatClampNeg) + a1)) (ty := .int) rx9_ws rfl tyX9_ok nmX9 rfl rfl (vp_lt p7) rfl g_228 rfl trivial rfl rfl rfl eV8 dX4_useSecond_53 ?_
    refine z_aload_n X dX4_useSecond_56 rfl rfl ?_
    refine c_get X 4 1 (v := .ref (ad 5 (V8 81 a0.toNatClampNeg).toNatClampNeg)) rx4_ws rfl rfl rfl (vp_lt va0) g_928 rfl dX4_useSecond_57 ?_
    refine zz.pre (fun H hG => cx_fact (k := 4) (i := a0.toNatClampNeg) (f := 1) rfl (vp_lt va0) rfl hG) (fun (p9 : vp_in (V8 81 a0.toNatClampNeg) (N 5)) => ?_)
    refine z_iload_n X dX4_useSecond_60 rfl rfl ?_
    refine z_iload_n X dX4_useSecond_61 rfl rfl ?_
    obtain ⟨o10, co10, h⟩ := zb2 h
    refine z_callVv (As := [.int a1, .int a2]) (rest := []) (nA := 2) (mc := 0) (ms := 0) (rm := ({ frames := 1, cells := 0, slots := 0, locals := 42 } : Room)) (pu := fun (_ : Unit) => True) (G1 := fun _ => cx D dA A o10 L N ad xs) X (cc_Phone_addCost l X.2.2.2.2.2.2.2.2 X.2.2.2.2.2.2.1 h11 p9 co10) g_1138 g_1139 g_1140 g_14 g_1141 hd_yX5_addCost ⟨rfl, rfl, Nat.le_of_ble_eq_true rfl, Nat.le_of_ble_eq_true rfl⟩ rfl (fun _ hG => cx_recv X (k := 5) (n := 7) rfl rfl (vp_lt p9) hG) rfl (Nat.le_of_ble_eq_true rfl) dX4_useSecond_62 ⟨Nat.le_refl _, Nat.le_refl _⟩ (fun _ _ => ?_)
    refine z_goto (tgt := 78) X dX4_useSecond_65 (by decide) ?_
    refine zz.pick (lo' := [(0, .ref (ad 4 a0.toNatClampNeg)), (1, .int a1)]) [0, 1] rfl ?_
    exact bc_Leg_useSecond_78 X hml hr h11 va0 h
  · have h := zn q h
    have p5 := p4.resolve_left q
    refine z_aload_n X dX4_useSecond_68 rfl rfl ?_
    refine z_dup X dX4_useSecond_69 rfl ?_
    refine c_get X 4 10 (v := .int (V3 90 a0.toNatClampNeg)) rx4_ws rfl rfl rfl (vp_lt va0) g_946 rfl dX4_useSecond_70 ?_
    refine z_iload_n X dX4_useSecond_73 rfl rfl ?_
    refine z_iadd X dX4_useSecond_74 ?_
    obtain ⟨V11, eV11, h⟩ := zb h
    refine c_put X 4 10 (x := ((V3 90 a0.toNatClampNeg) + a1)) (v := .int ((V3 90 a0.toNatClampNeg) + a1)) (ty := .int) rx4_ws rfl tyX4_ok nmX4 rfl rfl (vp_lt va0) rfl g_946 rfl trivial rfl rfl rfl eV11 dX4_useSecond_75 ?_
    refine zz.pick (lo' := [(0, .ref (ad 4 a0.toNatClampNeg)), (1, .int a1)]) [0, 1] rfl ?_
    exact bc_Leg_useSecond_78 X hml hr h11 va0 h
theorem cc_Leg_useSecond (l : Launch) {D : va_G} {dA : Nat → ClassId} {A : Nat → Prop} {n : Nat} (hst : l.stackTraces = false) (hA : ∀ q, n ≤ q → A q) {V : Rho} {L : Lst} {N : Cnt} {ad : Adr} {xs : va_W} (h11 : 0 < N 11) {a0 : Int32} {a1 : Int32} {a2 : Int32} (va0 : vp_in a0 (N 4)) {o : Rho} (h : fc_Leg_useSecond V L N a0 a1 a2 = some o) : Met l yX4_useSecond (.code yX4_useSecond cX4_useSecond 3 none :: gT) ({ frames := 2, cells := 0, slots := 0, locals := 84 } : Room) (va_Pc [.ref (ad 4 a0.toNatClampNeg), .int a1, .int a2] (zB D dA A n (cx D dA A V L N ad xs))) (va_Qv (fun (w9 : Unit) => True) (fun (w9 : Unit) t => cx D dA A o L N ad xs t.heap) A) 0 0 A :=
  z_met (by decide) hA hst (Nat.le_of_ble_eq_true rfl) rfl rfl (fun p e s m below meth c X hml hr _ => bc_Leg_useSecond X hml hr h11 va0 h)
-- MeshBiller.now()I
def fc_now (V : Rho) (L : Lst) (N : Cnt) : Option (Int32) := some (V 228 0)
set_option maxRecDepth 100000 in
set_option maxHeartbeats 4000000 in
theorem bc_now {p : Program} {l : Launch} {e : Env} {s : State} {m : MethodId} {args : Array Value} {below : List Frame} {meth : Method} {c : Code} {D : va_G} {dA : Nat → ClassId} {A : Nat → Prop} {xs : va_W} {o : Int32} {V : Rho} {L : Lst} {N : Cnt} {ad : Adr} (X : zc p l s m args meth c cX11_now RX11 D dA A) (hml : c.maxLocals = 1) (hr : meth.sig.returnType = (some .int)) (h11 : 0 < N 11) (h : fc_now V L N = some o) : zz p l e ({ frames := 1, cells := 0, slots := 0, locals := 42 } : Room) s m args below meth c A (cx D dA A V L N ad xs) 0 0 (MQ below (va_Qi (fun r (w9 : Unit) => r = o ∧ True) (fun (w9 : Unit) t => cx D dA A V L N ad xs t.heap) A) args s 0 0 A) 0 [(0, .ref (ad 11 0))] [] [] := by
  unfold fc_now at h
  refine z_aload_n X dX11_now_0 rfl rfl ?_
  refine c_get X 11 8 (v := .int (V 228 0)) rx11_ws rfl rfl rfl h11 g_280 rfl dX11_now_1 ?_
  obtain rfl := Option.some.inj h
  exact z_iret X hr rfl (fun t hG hF _ => ⟨⟨_, (), rfl, ⟨rfl, trivial⟩, hG⟩, hF⟩) dX11_now_4
theorem cc_now (l : Launch) {D : va_G} {dA : Nat → ClassId} {A : Nat → Prop} {n : Nat} (hst : l.stackTraces = false) (hA : ∀ q, n ≤ q → A q) {V : Rho} {L : Lst} {N : Cnt} {ad : Adr} {xs : va_W} (h11 : 0 < N 11) {o : Int32} (h : fc_now V L N = some o) : Met l yX11_now (.code yX11_now cX11_now 1 (some .int) :: gT) ({ frames := 1, cells := 0, slots := 0, locals := 42 } : Room) (va_Pc [.ref (ad 11 0)] (zB D dA A n (cx D dA A V L N ad xs))) (va_Qi (fun r (w9 : Unit) => r = o ∧ True) (fun (w9 : Unit) t => cx D dA A V L N ad xs t.heap) A) 0 0 A :=
  z_met (by decide) hA hst (Nat.le_of_ble_eq_true rfl) rfl rfl (fun p e s m below meth c X hml hr _ => bc_now X hml hr h11 h)
-- MeshBiller.cellOf(I)I
def fc_cellOf (V : Rho) (L : Lst) (N : Cnt) (a1 : Int32) : Option ((Int32) ⊕ Nat) := (fc_phoneAt V L N a1).bind fun o1 => Sum.elim (fun u2 => some (.inl (V 40 (V 101 u2.toNatClampNeg).toNatClampNeg))) (fun e9 => some (.inr e9)) o1
set_option maxRecDepth 100000 in
set_option maxHeartbeats 4000000 in
theorem bc_cellOf {p : Program} {l : Launch} {e : Env} {s : State} {m : MethodId} {args : Array Value} {below : List Frame} {meth : Method} {c : Code} {D : va_G} {dA : Nat → ClassId} {A : Nat → Prop} {xs : va_W} {o : (Int32) ⊕ Nat} {V : Rho} {L : Lst} {N : Cnt} {ad : Adr} (X : zc p l s m args meth c cX11_cellOf RX11 D dA A) (hml : c.maxLocals = 2) (hr : meth.sig.returnType = (some .int)) (hnil : ∀ x ∈ c.exceptionTable.toList, False) {cells slots : Nat} (hcs : cells + 1 ≤ 1 ∧ slots + 6 ≤ 6) (h11 : 0 < N 11) {a1 : Int32} (h : fc_cellOf V L N a1 = some o) : zz p l e ({ frames := 7, cells := 1, slots := 6, locals := 294 } : Room) s m args below meth c A (cx D dA A V L N ad xs) cells slots (vx_MQ below (va_Qi (fun r (w9 : Int32) => r = w9 ∧ o = .inl w9 ∧ True) (fun (w9 : Int32) t => cx D dA A V L N ad xs t.heap) A) (vx_X (fun (u : Nat) => o = .inr u) (fun E u t => E = exn u ∧ cx D dA A V L N ad xs t.heap) A) args s 1 6 A) 0 [(0, .ref (ad 11 0)), (1, .int a1)] [] [] := by
  obtain ⟨hcs1, hcs2⟩ := hcs
  unfold fc_cellOf at h
  refine z_aload_n X dX11_cellOf_0 rfl rfl ?_
  refine z_iload_n X dX11_cellOf_1 rfl rfl ?_
  obtain ⟨o1, co1, h⟩ := zb2 h
  refine z_xVq (As := [.int a1]) (rest := []) (nA := 1) (mc := 1) (ms := 6) (rm := ({ frames := 6, cells := 1, slots := 6, locals := 252 } : Room)) (S := Int32) (r0 := fun u => some (ad 5 u.toNatClampNeg)) (pu := fun u => o1 = .inl u ∧ vp_in u (N 5)) (G1 := fun u => cx D dA A V L N ad xs) X hnil (cc_phoneAt l X.2.2.2.2.2.2.2.2 X.2.2.2.2.2.2.1 h11 co1) g_477 g_479 gs_6 g_1 g_480 hd_yX11_phoneAt ⟨rfl, rfl, Nat.le_of_ble_eq_true rfl, Nat.le_of_ble_eq_true rfl⟩ rfl (fun _ hG => cx_recv X (k := 11) (n := 9) rfl rfl h11 hG)  rfl (Nat.le_of_ble_eq_true rfl) dX11_cellOf_2 ⟨by show _ ≤ 1; omega, by show _ ≤ 6; omega⟩ ⟨by omega, by omega⟩ (fun u hu t hG hF => ?_) (fun u2 hu => ?_)
  · rw [hu] at h
    obtain rfl := Option.some.inj h
    exact ⟨u, rfl, ⟨rfl, hG⟩, hF⟩
  · rw [hu.1] at h
    have p3 := hu.2
    simp only [Sum.elim_inl] at h
    refine c_get X 5 1 (v := .ref (ad 2 (V 101 u2.toNatClampNeg).toNatClampNeg)) rx5_ws rfl rfl rfl (vp_lt p3) g_248 rfl dX11_cellOf_5 ?_
    refine zz.pre (fun H hG => cx_fact (k := 5) (i := u2.toNatClampNeg) (f := 1) rfl (vp_lt p3) rfl hG) (fun (p4 : vp_in (V 101 u2.toNatClampNeg) (N 2)) => ?_)
    refine c_get X 2 0 (v := .int (V 40 (V 101 u2.toNatClampNeg).toNatClampNeg)) rx2_ws rfl rfl rfl (vp_lt p4) g_199 rfl dX11_cellOf_8 ?_
    obtain rfl := Option.some.inj h
    refine zx_ret ?_
    refine zz.widen (k := 1) (n := 6) (by omega) (by omega) ?_
    exact z_iret X hr rfl (fun t hG hF _ => ⟨⟨_, _, rfl, ⟨rfl, ⟨rfl, trivial⟩⟩, hG⟩, hF⟩) dX11_cellOf_11
theorem cc_cellOf (l : Launch) {D : va_G} {dA : Nat → ClassId} {A : Nat → Prop} {n : Nat} (hst : l.stackTraces = false) (hA : ∀ q, n ≤ q → A q) {V : Rho} {L : Lst} {N : Cnt} {ad : Adr} {xs : va_W} (h11 : 0 < N 11) {a1 : Int32} {o : (Int32) ⊕ Nat} (h : fc_cellOf V L N a1 = some o) : vx_Met l yX11_cellOf (.code yX11_cellOf cX11_cellOf 2 (some .int) :: gT) ({ frames := 7, cells := 1, slots := 6, locals := 294 } : Room) (va_Pc [.ref (ad 11 0), .int a1] (zB D dA A n (cx D dA A V L N ad xs))) (va_Qi (fun r (w9 : Int32) => r = w9 ∧ o = .inl w9 ∧ True) (fun (w9 : Int32) t => cx D dA A V L N ad xs t.heap) A) (vx_X (fun (u : Nat) => o = .inr u) (fun E u t => E = exn u ∧ cx D dA A V L N ad xs t.heap) A) 1 6 A :=
  zx_met (by decide) hA hst (Nat.le_of_ble_eq_true rfl) rfl rfl (fun p e s m below meth c X hml hr hnil => bc_cellOf X hml hr hnil ⟨by omega, by omega⟩ h11 h)
-- MeshBiller.rateOf(I)I
def fc_rateOf (V : Rho) (L : Lst) (N : Cnt) (a1 : Int32) : Option ((Int32) ⊕ Nat) := (fc_phoneAt V L N a1).bind fun o1 => Sum.elim (fun u2 => (fc_rateNow V L N u2).bind fun o4 => some (.inl o4)) (fun e9 => some (.inr e9)) o1
-- MeshBiller.legOf(I)I
def fc_legOf (V : Rho) (L : Lst) (N : Cnt) (a1 : Int32) : Option ((Int32) ⊕ Nat) := (fc_phoneAt V L N a1).bind fun o1 => Sum.elim (fun u2 => (if (V 104 u2.toNatClampNeg) = -1 then some (.inl (-1))
  else some (.inl (V 80 (V 104 u2.toNatClampNeg).toNatClampNeg)))) (fun e9 => some (.inr e9)) o1
set_option maxRecDepth 100000 in
set_option maxHeartbeats 4000000 in
theorem bc_legOf {p : Program} {l : Launch} {e : Env} {s : State} {m : MethodId} {args : Array Value} {below : List Frame} {meth : Method} {c : Code} {D : va_G} {dA : Nat → ClassId} {A : Nat → Prop} {xs : va_W} {o : (Int32) ⊕ Nat} {V : Rho} {L : Lst} {N : Cnt} {ad : Adr} (X : zc p l s m args meth c cX11_legOf RX11 D dA A) (hml : c.maxLocals = 3) (hr : meth.sig.returnType = (some .int)) (hnil : ∀ x ∈ c.exceptionTable.toList, False) {cells slots : Nat} (hcs : cells + 1 ≤ 1 ∧ slots + 6 ≤ 6) (h11 : 0 < N 11) {a1 : Int32} (h : fc_legOf V L N a1 = some o) : zz p l e ({ frames := 7, cells := 1, slots := 6, locals := 294 } : Room) s m args below meth c A (cx D dA A V L N ad xs) cells slots (vx_MQ below (va_Qi (fun r (w9 : Int32) => r = w9 ∧ o = .inl w9 ∧ True) (fun (w9 : Int32) t => cx D dA A V L N ad xs t.heap) A) (vx_X (fun (u : Nat) => o = .inr u) (fun E u t => E = exn u ∧ cx D dA A V L N ad xs t.heap) A) args s 1 6 A) 0 [(0, .ref (ad 11 0)), (1, .int a1)] [] [] := by
  obtain ⟨hcs1, hcs2⟩ := hcs
  unfold fc_legOf at h
  refine z_aload_n X dX11_legOf_0 rfl rfl ?_
  refine z_iload_n X dX11_legOf_1 rfl rfl ?_
  obtain ⟨o1, co1, h⟩ := zb2 h
  refine z_xVq (As := [.int a1]) (rest := []) (nA := 1) (mc := 1) (ms := 6) (rm := ({ frames := 6, cells := 1, slots := 6, locals := 252 } : Room)) (S := Int32) (r0 := fun u => some (ad 5 u.toNatClampNeg)) (pu := fun u => o1 = .inl u ∧ vp_in u (N 5)) (G1 := fun u => cx D dA A V L N ad xs) X hnil (cc_phoneAt l X.2.2.2.2.2.2.2.2 X.2.2.2.2.2.2.1 h11 co1) g_477 g_479 gs_6 g_1 g_480 hd_yX11_phoneAt ⟨rfl, rfl, Nat.le_of_ble_eq_true rfl, Nat.le_of_ble_eq_true rfl⟩ rfl (fun _ hG => cx_recv X (k := 11) (n := 9) rfl rfl h11 hG)  rfl (Nat.le_of_ble_eq_true rfl) dX11_legOf_2 ⟨by show _ ≤ 1; omega, by show _ ≤ 6; omega⟩ ⟨by omega, by omega⟩ (fun u hu t hG hF => ?_) (fun u2 hu => ?_)
  · rw [hu] at h
    obtain rfl := Option.some.inj h
    exact ⟨u, rfl, ⟨rfl, hG⟩, hF⟩
  · rw [hu.1] at h
    have p3 := hu.2
    simp only [Sum.elim_inl] at h
    refine c_get X 5 4 (v := va_rf (qn (ad 4) (V 104 u2.toNatClampNeg))) rx5_ws rfl rfl rfl (vp_lt p3) g_254 rfl dX11_legOf_5 ?_
    refine zz.pre (fun H hG => cx_fact (k := 5) (i := u2.toNatClampNeg) (f := 4) rfl (vp_lt p3) rfl hG) (fun (p4 : (V 104 u2.toNatClampNeg) = -1 ∨ vp_in (V 104 u2.toNatClampNeg) (N 4)) => ?_)
    refine z_astoreq_n (lo' := [(2, va_rf (qn (ad 4) (V 104 u2.toNatClampNeg))), (0, .ref (ad 11 0)), (1, .int a1)]) X dX11_legOf_8 rfl (by rw [hml]; decide) rfl rfl ?_
    refine z_aloadq_n X dX11_legOf_9 rfl rfl ?_
    refine c_ifnonnull (tgt := 17) X dX11_legOf_10 (by decide) (fun q => ?_) (fun q => ?_)
    · have h := zp q h
      refine z_iconst (v := (-1)) X dX11_legOf_13 (by decide) ?_
      refine z_goto (tgt := 21) X dX11_legOf_14 (by decide) ?_
      obtain rfl := Option.some.inj h
      refine zx_ret ?_
      refine zz.widen (k := 1) (n := 6) (by omega) (by omega) ?_
      exact z_iret X hr rfl (fun t hG hF _ => ⟨⟨_, _, rfl, ⟨rfl, ⟨rfl, trivial⟩⟩, hG⟩, hF⟩) dX11_legOf_21
    · have h := zn q h
      have p5 := p4.resolve_left q
      rw [qn_ref q]
      refine z_aload_n X dX11_legOf_17 rfl rfl ?_
      refine c_get X 4 0 (v := .int (V 80 (V 104 u2.toNatClampNeg).toNatClampNeg)) rx4_ws rfl rfl rfl (vp_lt p5) g_927 rfl dX11_legOf_18 ?_
      obtain rfl := Option.some.inj h
      refine zx_ret ?_
      refine zz.widen (k := 1) (n := 6) (by omega) (by omega) ?_
      exact z_iret X hr rfl (fun t hG hF _ => ⟨⟨_, _, rfl, ⟨rfl, ⟨rfl, trivial⟩⟩, hG⟩, hF⟩) dX11_legOf_21
theorem cc_legOf (l : Launch) {D : va_G} {dA : Nat → ClassId} {A : Nat → Prop} {n : Nat} (hst : l.stackTraces = false) (hA : ∀ q, n ≤ q → A q) {V : Rho} {L : Lst} {N : Cnt} {ad : Adr} {xs : va_W} (h11 : 0 < N 11) {a1 : Int32} {o : (Int32) ⊕ Nat} (h : fc_legOf V L N a1 = some o) : vx_Met l yX11_legOf (.code yX11_legOf cX11_legOf 3 (some .int) :: gT) ({ frames := 7, cells := 1, slots := 6, locals := 294 } : Room) (va_Pc [.ref (ad 11 0), .int a1] (zB D dA A n (cx D dA A V L N ad xs))) (va_Qi (fun r (w9 : Int32) => r = w9 ∧ o = .inl w9 ∧ True) (fun (w9 : Int32) t => cx D dA A V L N ad xs t.heap) A) (vx_X (fun (u : Nat) => o = .inr u) (fun E u t => E = exn u ∧ cx D dA A V L N ad xs t.heap) A) 1 6 A :=
  zx_met (by decide) hA hst (Nat.le_of_ble_eq_true rfl) rfl rfl (fun p e s m below meth c X hml hr hnil => bc_legOf X hml hr hnil ⟨by omega, by omega⟩ h11 h)
-- MeshBiller.sliceOf(I)I
def fc_sliceOf (V : Rho) (L : Lst) (N : Cnt) (a1 : Int32) : Option ((Int32) ⊕ Nat) := (fc_phoneAt V L N a1).bind fun o1 => Sum.elim (fun u2 => (if (V 104 u2.toNatClampNeg) = -1 then some (.inl 0)
  else some (.inl (V 160 (V 104 u2.toNatClampNeg).toNatClampNeg)))) (fun e9 => some (.inr e9)) o1
set_option maxRecDepth 100000 in
set_option maxHeartbeats 4000000 in
theorem bc_sliceOf {p : Program} {l : Launch} {e : Env} {s : State} {m : MethodId} {args : Array Value} {below : List Frame} {meth : Method} {c : Code} {D : va_G} {dA : Nat → ClassId} {A : Nat → Prop} {xs : va_W} {o : (Int32) ⊕ Nat} {V : Rho} {L : Lst} {N : Cnt} {ad : Adr} (X : zc p l s m args meth c cX11_sliceOf RX11 D dA A) (hml : c.maxLocals = 3) (hr : meth.sig.returnType = (some .int)) (hnil : ∀ x ∈ c.exceptionTable.toList, False) {cells slots : Nat} (hcs : cells + 1 ≤ 1 ∧ slots + 6 ≤ 6) (h11 : 0 < N 11) {a1 : Int32} (h : fc_sliceOf V L N a1 = some o) : zz p l e ({ frames := 7, cells := 1, slots := 6, locals := 294 } : Room) s m args below meth c A (cx D dA A V L N ad xs) cells slots (vx_MQ below (va_Qi (fun r (w9 : Int32) => r = w9 ∧ o = .inl w9 ∧ True) (fun (w9 : Int32) t => cx D dA A V L N ad xs t.heap) A) (vx_X (fun (u : Nat) => o = .inr u) (fun E u t => E = exn u ∧ cx D dA A V L N ad xs t.heap) A) args s 1 6 A) 0 [(0, .ref (ad 11 0)), (1, .int a1)] [] [] := by
  obtain ⟨hcs1, hcs2⟩ := hcs
  unfold fc_sliceOf at h
  refine z_aload_n X dX11_sliceOf_0 rfl rfl ?_
  refine z_iload_n X dX11_sliceOf_1 rfl rfl ?_
  obtain ⟨o1, co1, h⟩ := zb2 h
  refine z_xVq (As := [.int a1]) (rest := []) (nA := 1) (mc := 1) (ms := 6) (rm := ({ frames := 6, cells := 1, slots := 6, locals := 252 } : Room)) (S := Int32) (r0 := fun u => some (ad 5 u.toNatClampNeg)) (pu := fun u => o1 = .inl u ∧ vp_in u (N 5)) (G1 := fun u => cx D dA A V L N ad xs) X hnil (cc_phoneAt l X.2.2.2.2.2.2.2.2 X.2.2.2.2.2.2.1 h11 co1) g_477 g_479 gs_6 g_1 g_480 hd_yX11_phoneAt ⟨rfl, rfl, Nat.le_of_ble_eq_true rfl, Nat.le_of_ble_eq_true rfl⟩ rfl (fun _ hG => cx_recv X (k := 11) (n := 9) rfl rfl h11 hG)  rfl (Nat.le_of_ble_eq_true rfl) dX11_sliceOf_2 ⟨by show _ ≤ 1; omega, by show _ ≤ 6; omega⟩ ⟨by omega, by omega⟩ (fun u hu t hG hF => ?_) (fun u2 hu => ?_)
  · rw [hu] at h
    obtain rfl := Option.some.inj h
    exact ⟨u, rfl, ⟨rfl, hG⟩, hF⟩
  · rw [hu.1] at h
    have p3 := hu.2
    simp only [Sum.elim_inl] at h
    refine c_get X 5 4 (v := va_rf (qn (ad 4) (V 104 u2.toNatClampNeg))) rx5_ws rfl rfl rfl (vp_lt p3) g_254 rfl dX11_sliceOf_5 ?_
    refine zz.pre (fun H hG => cx_fact (k := 5) (i := u2.toNatClampNeg) (f := 4) rfl (vp_lt p3) rfl hG) (fun (p4 : (V 104 u2.toNatClampNeg) = -1 ∨ vp_in (V 104 u2.toNatClampNeg) (N 4)) => ?_)
    refine z_astoreq_n (lo' := [(2, va_rf (qn (ad 4) (V 104 u2.toNatClampNeg))), (0, .ref (ad 11 0)), (1, .int a1)]) X dX11_sliceOf_8 rfl (by rw [hml]; decide) rfl rfl ?_
    refine z_aloadq_n X dX11_sliceOf_9 rfl rfl ?_
    refine c_ifnonnull (tgt := 17) X dX11_sliceOf_10 (by decide) (fun q => ?_) (fun q => ?_)
    · have h := zp q h
      refine z_iconst (v := 0) X dX11_sliceOf_13 (by decide) ?_
      refine z_goto (tgt := 24) X dX11_sliceOf_14 (by decide) ?_
      obtain rfl := Option.some.inj h
      refine zx_ret ?_
      refine zz.widen (k := 1) (n := 6) (by omega) (by omega) ?_
      exact z_iret X hr rfl (fun t hG hF _ => ⟨⟨_, _, rfl, ⟨rfl, ⟨rfl, trivial⟩⟩, hG⟩, hF⟩) dX11_sliceOf_24
    · have h := zn q h
      have p5 := p4.resolve_left q
      rw [qn_ref q]
      refine z_aload_n X dX11_sliceOf_17 rfl rfl ?_
      refine c_get X 4 5 (v := .ref (ad 8 (V 104 u2.toNatClampNeg).toNatClampNeg)) rx4_ws rfl rfl rfl (vp_lt p5) g_936 rfl dX11_sliceOf_18 ?_
      refine zz.pre (fun H hG => vp_mono p5 hG.2.2.2.2.2.2.2.2.1.2.1) (fun (p6 : vp_in (V 104 u2.toNatClampNeg) (N 8)) => ?_)
      refine c_get X 8 0 (v := .int (V 160 (V 104 u2.toNatClampNeg).toNatClampNeg)) rx8_ws rfl rfl rfl (vp_lt p6) g_911 rfl dX11_sliceOf_21 ?_
      obtain rfl := Option.some.inj h
      refine zx_ret ?_
      refine zz.widen (k := 1) (n := 6) (by omega) (by omega) ?_
      exact z_iret X hr rfl (fun t hG hF _ => ⟨⟨_, _, rfl, ⟨rfl, ⟨rfl, trivial⟩⟩, hG⟩, hF⟩) dX11_sliceOf_24
theorem cc_sliceOf (l : Launch) {D : va_G} {dA : Nat → ClassId} {A : Nat → Prop} {n : Nat} (hst : l.stackTraces = false) (hA : ∀ q, n ≤ q → A q) {V : Rho} {L : Lst} {N : Cnt} {ad : Adr} {xs : va_W} (h11 : 0 < N 11) {a1 : Int32} {o : (Int32) ⊕ Nat} (h : fc_sliceOf V L N a1 = some o) : vx_Met l yX11_sliceOf (.code yX11_sliceOf cX11_sliceOf 3 (some .int) :: gT) ({ frames := 7, cells := 1, slots := 6, locals := 294 } : Room) (va_Pc [.ref (ad 11 0), .int a1] (zB D dA A n (cx D dA A V L N ad xs))) (va_Qi (fun r (w9 : Int32) => r = w9 ∧ o = .inl w9 ∧ True) (fun (w9 : Int32) t => cx D dA A V L N ad xs t.heap) A) (vx_X (fun (u : Nat) => o = .inr u) (fun E u t => E = exn u ∧ cx D dA A V L N ad xs t.heap) A) 1 6 A :=
  zx_met (by decide) hA hst (Nat.le_of_ble_eq_true rfl) rfl rfl (fun p e s m below meth c X hml hr hnil => bc_sliceOf X hml hr hnil ⟨by omega, by omega⟩ h11 h)
-- MeshBiller.parties(I)I
def fc_parties (V : Rho) (L : Lst) (N : Cnt) (a1 : Int32) : Option ((Int32) ⊕ Nat) := (fc_callAt V L N a1).bind fun o1 => Sum.elim (fun u2 => (fc_Call_countParties V L N u2).bind fun o4 => some (.inl o4)) (fun e9 => some (.inr e9)) o1
set_option maxRecDepth 100000 in
set_option maxHeartbeats 4000000 in
theorem bc_parties {p : Program} {l : Launch} {e : Env} {s : State} {m : MethodId} {args : Array Value} {below : List Frame} {meth : Method} {c : Code} {D : va_G} {dA : Nat → ClassId} {A : Nat → Prop} {xs : va_W} {o : (Int32) ⊕ Nat} {V : Rho} {L : Lst} {N : Cnt} {ad : Adr} (X : zc p l s m args meth c cX11_parties RX11 D dA A) (hml : c.maxLocals = 2) (hr : meth.sig.returnType = (some .int)) (hnil : ∀ x ∈ c.exceptionTable.toList, False) {cells slots : Nat} (hcs : cells + 1 ≤ 1 ∧ slots + 6 ≤ 6) (h11 : 0 < N 11) {a1 : Int32} (h : fc_parties V L N a1 = some o) : zz p l e ({ frames := 10, cells := 1, slots := 6, locals := 420 } : Room) s m args below meth c A (cx D dA A V L N ad xs) cells slots (vx_MQ below (va_Qi (fun r (w9 : Int32) => r = w9 ∧ o = .inl w9 ∧ True) (fun (w9 : Int32) t => cx D dA A V L N ad xs t.heap) A) (vx_X (fun (u : Nat) => o = .inr u) (fun E u t => E = exn u ∧ cx D dA A V L N ad xs t.heap) A) args s 1 6 A) 0 [(0, .ref (ad 11 0)), (1, .int a1)] [] [] := by
  obtain ⟨hcs1, hcs2⟩ := hcs
  unfold fc_parties at h
  refine z_aload_n X dX11_parties_0 rfl rfl ?_
  refine z_iload_n X dX11_parties_1 rfl rfl ?_
  obtain ⟨o1, co1, h⟩ := zb2 h
  refine z_xVq (As := [.int a1]) (rest := []) (nA := 1) (mc := 1) (ms := 6) (rm := ({ frames := 9, cells := 1, slots := 6, locals := 378 } : Room)) (S := Int32) (r0 := fun u => some (ad 1 u.toNatClampNeg)) (pu := fun u => o1 = .inl u ∧ vp_in u (N 1)) (G1 := fun u => cx D dA A V L N ad xs) X hnil (cc_callAt l X.2.2.2.2.2.2.2.2 X.2.2.2.2.2.2.1 h11 co1) g_1079 g_1081 gs_20 g_1 g_1082 hd_yX11_callAt ⟨rfl, rfl, Nat.le_of_ble_eq_true rfl, Nat.le_of_ble_eq_true rfl⟩ rfl (fun _ hG => cx_recv X (k := 11) (n := 9) rfl rfl h11 hG)  rfl (Nat.le_of_ble_eq_true rfl) dX11_parties_2 ⟨by show _ ≤ 1; omega, by show _ ≤ 6; omega⟩ ⟨by omega, by omega⟩ (fun u hu t hG hF => ?_) (fun u2 hu => ?_)
  · rw [hu] at h
    obtain rfl := Option.some.inj h
    exact ⟨u, rfl, ⟨rfl, hG⟩, hF⟩
  · rw [hu.1] at h
    have p3 := hu.2
    simp only [Sum.elim_inl] at h
    obtain ⟨o4, co4, h⟩ := zb2 h
    refine z_callVi (As := []) (rest := []) (nA := 0) (mc := 0) (ms := 0) (rm := ({ frames := 9, cells := 0, slots := 0, locals := 378 } : Room)) (r0 := o4) (pu := fun (_ : Unit) => True) (G1 := fun _ => cx D dA A V L N ad xs) X (cc_Call_countParties l X.2.2.2.2.2.2.2.2 X.2.2.2.2.2.2.1 h11 p3 co4) g_1084 g_1085 g_1086 g_32 g_1087 hd_yX1_countParties ⟨rfl, rfl, Nat.le_of_ble_eq_true rfl, Nat.le_of_ble_eq_true rfl⟩ rfl (fun _ hG => cx_recv X (k := 1) (n := 3) rfl rfl (vp_lt p3) hG) rfl (Nat.le_of_ble_eq_true rfl) dX11_parties_5 ⟨by show _ ≤ 1; omega, by show _ ≤ 6; omega⟩ (fun _ _ => ?_)
    obtain rfl := Option.some.inj h
    refine zx_ret ?_
    refine zz.widen (k := 1) (n := 6) (by omega) (by omega) ?_
    exact z_iret X hr rfl (fun t hG hF _ => ⟨⟨_, _, rfl, ⟨rfl, ⟨rfl, trivial⟩⟩, hG⟩, hF⟩) dX11_parties_8
theorem cc_parties (l : Launch) {D : va_G} {dA : Nat → ClassId} {A : Nat → Prop} {n : Nat} (hst : l.stackTraces = false) (hA : ∀ q, n ≤ q → A q) {V : Rho} {L : Lst} {N : Cnt} {ad : Adr} {xs : va_W} (h11 : 0 < N 11) {a1 : Int32} {o : (Int32) ⊕ Nat} (h : fc_parties V L N a1 = some o) : vx_Met l yX11_parties (.code yX11_parties cX11_parties 2 (some .int) :: gT) ({ frames := 10, cells := 1, slots := 6, locals := 420 } : Room) (va_Pc [.ref (ad 11 0), .int a1] (zB D dA A n (cx D dA A V L N ad xs))) (va_Qi (fun r (w9 : Int32) => r = w9 ∧ o = .inl w9 ∧ True) (fun (w9 : Int32) t => cx D dA A V L N ad xs t.heap) A) (vx_X (fun (u : Nat) => o = .inr u) (fun E u t => E = exn u ∧ cx D dA A V L N ad xs t.heap) A) 1 6 A :=
  zx_met (by decide) hA hst (Nat.le_of_ble_eq_true rfl) rfl rfl (fun p e s m below meth c X hml hr hnil => bc_parties X hml hr hnil ⟨by omega, by omega⟩ h11 h)
-- MeshBiller.legs()I
def fc_legs (V : Rho) (L : Lst) (N : Cnt) : Option (Int32) := (some (nI (L 14 0).length)).bind fun x1 => some x1
set_option maxRecDepth 100000 in
set_option maxHeartbeats 4000000 in
theorem bc_legs {p : Program} {l : Launch} {e : Env} {s : State} {m : MethodId} {args : Array Value} {below : List Frame} {meth : Method} {c : Code} {D : va_G} {dA : Nat → ClassId} {A : Nat → Prop} {xs : va_W} {o : Int32} {V : Rho} {L : Lst} {N : Cnt} {ad : Adr} (X : zc p l s m args meth c cX11_legs RX11 D dA A) (hml : c.maxLocals = 1) (hr : meth.sig.returnType = (some .int)) (h11 : 0 < N 11) (h : fc_legs V L N = some o) : zz p l e ({ frames := 9, cells := 0, slots := 0, locals := 378 } : Room) s m args below meth c A (cx D dA A V L N ad xs) 0 0 (MQ below (va_Qi (fun r (w9 : Unit) => r = o ∧ True) (fun (w9 : Unit) t => cx D dA A V L N ad xs t.heap) A) args s 0 0 A) 0 [(0, .ref (ad 11 0))] [] [] := by
  unfold fc_legs at h
  refine z_aload_n X dX11_legs_0 rfl rfl ?_
  refine c_get X 11 6 (v := .ref (ad 14 0)) rx11_ws rfl rfl rfl h11 g_278 rfl dX11_legs_1 ?_
  obtain ⟨x1, ex1, h⟩ := zb h
  refine z_callVi (As := []) (rest := []) (nA := 0) (mc := 0) (ms := 0) (rm := ({ frames := 8, cells := 0, slots := 0, locals := 336 } : Room)) (r0 := (nI (L 14 0).length)) (pu := fun (_ : Unit) => True) (G1 := fun _ => cx D dA A V L N ad xs) X (cl_size l X.2.2.2.2.2.2.2.2 X.2.2.2.2.2.2.1 (k := 14) (i := 0) rfl rfl h11) g_308 g_309 g_310 g_4 g_311 hd_yJx4a65c_size_8abf5 ⟨rfl, rfl, Nat.le_of_ble_eq_true rfl, Nat.le_of_ble_eq_true rfl⟩ rfl (fun _ hG => cx_recvL X (k := 14) rfl rfl h11 hG) rfl (Nat.le_of_ble_eq_true rfl) dX11_legs_4 ⟨Nat.le_refl _, Nat.le_refl _⟩ (fun _ _ => ?_)
  rw [ex1]
  obtain rfl := Option.some.inj h
  exact z_iret X hr rfl (fun t hG hF _ => ⟨⟨_, (), rfl, ⟨rfl, trivial⟩, hG⟩, hF⟩) dX11_legs_7
theorem cc_legs (l : Launch) {D : va_G} {dA : Nat → ClassId} {A : Nat → Prop} {n : Nat} (hst : l.stackTraces = false) (hA : ∀ q, n ≤ q → A q) {V : Rho} {L : Lst} {N : Cnt} {ad : Adr} {xs : va_W} (h11 : 0 < N 11) {o : Int32} (h : fc_legs V L N = some o) : Met l yX11_legs (.code yX11_legs cX11_legs 1 (some .int) :: gT) ({ frames := 9, cells := 0, slots := 0, locals := 378 } : Room) (va_Pc [.ref (ad 11 0)] (zB D dA A n (cx D dA A V L N ad xs))) (va_Qi (fun r (w9 : Unit) => r = o ∧ True) (fun (w9 : Unit) t => cx D dA A V L N ad xs t.heap) A) 0 0 A :=
  z_met (by decide) hA hst (Nat.le_of_ble_eq_true rfl) rfl rfl (fun p e s m below meth c X hml hr _ => bc_legs X hml hr h11 h)
-- MeshBiller.legAt(I)LMeshBiller$Leg;
def fc_legAt (V : Rho) (L : Lst) (N : Cnt) (a1 : Int32) : Option ((Int32) ⊕ Nat) := (if a1 < 0 then some (.inr 1)
  else (some (nI (L 14 0).length)).bind fun x1 => (if a1 < x1 then if a1 < 0 ∨ (L 14 0).length ≤ (a1).toNatClampNeg then none else (some ((L 14 0).getD a1.toNatClampNeg 0)).bind fun x3 => some (.inl x3)
  else some (.inr 1)))
set_option maxRecDepth 100000 in
set_option maxHeartbeats 4000000 in
theorem bc_legAt {p : Program} {l : Launch} {e : Env} {s : State} {m : MethodId} {args : Array Value} {below : List Frame} {meth : Method} {c : Code} {D : va_G} {dA : Nat → ClassId} {A : Nat → Prop} {xs : va_W} {o : (Int32) ⊕ Nat} {V : Rho} {L : Lst} {N : Cnt} {ad : Adr} (X : zc p l s m args meth c cX11_legAt RX11 D dA A) (hml : c.maxLocals = 2) (hr : meth.sig.returnType = (some (.object "MeshBiller$Leg"))) (hnil : ∀ x ∈ c.exceptionTable.toList, False) {cells slots : Nat} (hcs : cells + 1 ≤ 1 ∧ slots + 6 ≤ 6) (h11 : 0 < N 11) {a1 : Int32} (h : fc_legAt V L N a1 = some o) : zz p l e ({ frames := 9, cells := 1, slots := 6, locals := 378 } : Room) s m args below meth c A (cx D dA A V L N ad xs) cells slots (vx_MQ below (va_Qq (fun r (w9 : Int32) => r = some (ad 4 w9.toNatClampNeg) ∧ o = .inl w9 ∧ vp_in w9 (N 4)) (fun (w9 : Int32) t => cx D dA A V L N ad xs t.heap) A) (vx_X (fun (u : Nat) => o = .inr u) (fun E u t => E = exn u ∧ cx D dA A V L N ad xs t.heap) A) args s 1 6 A) 0 [(0, .ref (ad 11 0)), (1, .int a1)] [] [] := by
  obtain ⟨hcs1, hcs2⟩ := hcs
  unfold fc_legAt at h
  refine z_iload_n X dX11_legAt_0 rfl rfl ?_
  refine z_if_lt (tgt := 15) X dX11_legAt_1 (by decide) (fun q => ?_) (fun q => ?_)
  · have h := zp q h
    obtain rfl := Option.some.inj h
    exact z_throwSW (k := 1) (ik := 199) (is := 361) (ic := 203) (text := "no such leg") X hnil cx_grow (by decide) g_326 g_19 hat_1 (by decide) dX11_legAt_15 dX11_legAt_18 dX11_legAt_19 dX11_legAt_22 dX11_legAt_25 ⟨Nat.le_of_ble_eq_true rfl, Nat.le_of_ble_eq_true rfl, by show _ ≤ 1; omega, by show _ ≤ 6; omega⟩ (fun t hG hF => ⟨1, rfl, ⟨rfl, hG⟩, hF⟩) (by omega) (by omega)
  · have h := zn q h
    refine z_iload_n X dX11_legAt_4 rfl rfl ?_
    refine z_aload_n X dX11_legAt_5 rfl rfl ?_
    refine c_get X 11 6 (v := .ref (ad 14 0)) rx11_ws rfl rfl rfl h11 g_278 rfl dX11_legAt_6 ?_
    obtain ⟨x1, ex1, h⟩ := zb h
    refine z_callVi (As := []) (rest := [.int a1]) (nA := 0) (mc := 0) (ms := 0) (rm := ({ frames := 8, cells := 0, slots := 0, locals := 336 } : Room)) (r0 := (nI (L 14 0).length)) (pu := fun (_ : Unit) => True) (G1 := fun _ => cx D dA A V L N ad xs) X (cl_size l X.2.2.2.2.2.2.2.2 X.2.2.2.2.2.2.1 (k := 14) (i := 0) rfl rfl h11) g_308 g_309 g_310 g_4 g_311 hd_yJx4a65c_size_8abf5 ⟨rfl, rfl, Nat.le_of_ble_eq_true rfl, Nat.le_of_ble_eq_true rfl⟩ rfl (fun _ hG => cx_recvL X (k := 14) rfl rfl h11 hG) rfl (Nat.le_of_ble_eq_true rfl) dX11_legAt_9 ⟨by show _ ≤ 1; omega, by show _ ≤ 6; omega⟩ (fun _ _ => ?_)
    rw [ex1]
    refine z_icmp_lt (tgt := 26) X dX11_legAt_12 (by decide) (fun q => ?_) (fun q => ?_)
    · have h := zp q h
      refine z_aload_n X dX11_legAt_26 rfl rfl ?_
      refine c_get X 11 6 (v := .ref (ad 14 0)) rx11_ws rfl rfl rfl h11 g_278 rfl dX11_legAt_27 ?_
      refine z_iload_n X dX11_legAt_30 rfl rfl ?_
      obtain ⟨q2, h⟩ := zg h
      obtain ⟨x3, ex3, h⟩ := zb h
      refine z_callVq (As := [.int a1]) (rest := []) (nA := 1) (mc := 0) (ms := 0) (rm := ({ frames := 8, cells := 0, slots := 0, locals := 336 } : Room)) (ro := fun _ => some (ad 4 ((L 14 0).getD a1.toNatClampNeg 0).toNatClampNeg)) (pu := fun (_ : Unit) => True) (G1 := fun _ => cx D dA A V L N ad xs) X (cl_get l X.2.2.2.2.2.2.2.2 X.2.2.2.2.2.2.1 (k := 14) (i := 0) (x := a1) rfl rfl h11 q2) g_852 g_554 g_555 g_4 g_556 hd_yJx4a65c_get_915e3 ⟨rfl, rfl, Nat.le_of_ble_eq_true rfl, Nat.le_of_ble_eq_true rfl⟩ rfl (fun _ hG => cx_recvL X (k := 14) rfl rfl h11 hG) rfl (Nat.le_of_ble_eq_true rfl) dX11_legAt_31 ⟨by show _ ≤ 1; omega, by show _ ≤ 6; omega⟩ (fun _ _ => ?_)
      rw [ex3]
      refine zz.pre (fun H hG => cx_elt (k := 14) rfl rfl h11 q2 hG) (fun p4 => ?_)
      rw [ex3] at p4
      refine c_cast X (k := 4) (n := 12) rfl rfl (vp_lt p4) g_897 dX11_legAt_34 ?_
      obtain rfl := Option.some.inj h
      refine zx_ret ?_
      refine zz.widen (k := 1) (n := 6) (by omega) (by omega) ?_
      exact z_aret (o := some (ad 4 x3.toNatClampNeg)) X hr (Or.inl ⟨_, rfl⟩) (fun t hG hF _ => ⟨⟨_, _, rfl, ⟨rfl, ⟨rfl, p4⟩⟩, hG⟩, hF⟩) dX11_legAt_37
    · have h := zn q h
      obtain rfl := Option.some.inj h
      exact z_throwSW (k := 1) (ik := 199) (is := 361) (ic := 203) (text := "no such leg") X hnil cx_grow (by decide) g_326 g_19 hat_1 (by decide) dX11_legAt_15 dX11_legAt_18 dX11_legAt_19 dX11_legAt_22 dX11_legAt_25 ⟨Nat.le_of_ble_eq_true rfl, Nat.le_of_ble_eq_true rfl, by show _ ≤ 1; omega, by show _ ≤ 6; omega⟩ (fun t hG hF => ⟨1, rfl, ⟨rfl, hG⟩, hF⟩) (by omega) (by omega)
theorem cc_legAt (l : Launch) {D : va_G} {dA : Nat → ClassId} {A : Nat → Prop} {n : Nat} (hst : l.stackTraces = false) (hA : ∀ q, n ≤ q → A q) {V : Rho} {L : Lst} {N : Cnt} {ad : Adr} {xs : va_W} (h11 : 0 < N 11) {a1 : Int32} {o : (Int32) ⊕ Nat} (h : fc_legAt V L N a1 = some o) : vx_Met l yX11_legAt (.code yX11_legAt cX11_legAt 2 (some (.object "MeshBiller$Leg")) :: gT) ({ frames := 9, cells := 1, slots := 6, locals := 378 } : Room) (va_Pc [.ref (ad 11 0), .int a1] (zB D dA A n (cx D dA A V L N ad xs))) (va_Qq (fun r (w9 : Int32) => r = some (ad 4 w9.toNatClampNeg) ∧ o = .inl w9 ∧ vp_in w9 (N 4)) (fun (w9 : Int32) t => cx D dA A V L N ad xs t.heap) A) (vx_X (fun (u : Nat) => o = .inr u) (fun E u t => E = exn u ∧ cx D dA A V L N ad xs t.heap) A) 1 6 A :=
  zx_met (by decide) hA hst (Nat.le_of_ble_eq_true rfl) rfl rfl (fun p e s m below meth c X hml hr hnil => bc_legAt X hml hr hnil ⟨by omega, by omega⟩ h11 h)
-- MeshBiller.stateOf(I)I
def fc_stateOf (V : Rho) (L : Lst) (N : Cnt) (a1 : Int32) : Option ((Int32) ⊕ Nat) := (fc_legAt V L N a1).bind fun o1 => Sum.elim (fun u2 => some (.inl (V 87 u2.toNatClampNeg))) (fun e9 => some (.inr e9)) o1
set_option maxRecDepth 100000 in
set_option maxHeartbeats 4000000 in
theorem bc_stateOf {p : Program} {l : Launch} {e : Env} {s : State} {m : MethodId} {args : Array Value} {below : List Frame} {meth : Method} {c : Code} {D : va_G} {dA : Nat → ClassId} {A : Nat → Prop} {xs : va_W} {o : (Int32) ⊕ Nat} {V : Rho} {L : Lst} {N : Cnt} {ad : Adr} (X : zc p l s m args meth c cX11_stateOf RX11 D dA A) (hml : c.maxLocals = 2) (hr : meth.sig.returnType = (some .int)) (hnil : ∀ x ∈ c.exceptionTable.toList, False) {cells slots : Nat} (hcs : cells + 1 ≤ 1 ∧ slots + 6 ≤ 6) (h11 : 0 < N 11) {a1 : Int32} (h : fc_stateOf V L N a1 = some o) : zz p l e ({ frames := 10, cells := 1, slots := 6, locals := 420 } : Room) s m args below meth c A (cx D dA A V L N ad xs) cells slots (vx_MQ below (va_Qi (fun r (w9 : Int32) => r = w9 ∧ o = .inl w9 ∧ True) (fun (w9 : Int32) t => cx D dA A V L N ad xs t.heap) A) (vx_X (fun (u : Nat) => o = .inr u) (fun E u t => E = exn u ∧ cx D dA A V L N ad xs t.heap) A) args s 1 6 A) 0 [(0, .ref (ad 11 0)), (1, .int a1)] [] [] := by
  obtain ⟨hcs1, hcs2⟩ := hcs
  unfold fc_stateOf at h
  refine z_aload_n X dX11_stateOf_0 rfl rfl ?_
  refine z_iload_n X dX11_stateOf_1 rfl rfl ?_
  obtain ⟨o1, co1, h⟩ := zb2 h
  refine z_xVq (As := [.int a1]) (rest := []) (nA := 1) (mc := 1) (ms := 6) (rm := ({ frames := 9, cells := 1, slots := 6, locals := 378 } : Room)) (S := Int32) (r0 := fun u => some (ad 4 u.toNatClampNeg)) (pu := fun u => o1 = .inl u ∧ vp_in u (N 4)) (G1 := fun u => cx D dA A V L N ad xs) X hnil (cc_legAt l X.2.2.2.2.2.2.2.2 X.2.2.2.2.2.2.1 h11 co1) g_1184 g_1186 gs_24 g_1 g_1187 hd_yX11_legAt ⟨rfl, rfl, Nat.le_of_ble_eq_true rfl, Nat.le_of_ble_eq_true rfl⟩ rfl (fun _ hG => cx_recv X (k := 11) (n := 9) rfl rfl h11 hG)  rfl (Nat.le_of_ble_eq_true rfl) dX11_stateOf_2 ⟨by show _ ≤ 1; omega, by show _ ≤ 6; omega⟩ ⟨by omega, by omega⟩ (fun u hu t hG hF => ?_) (fun u2 hu => ?_)
  · rw [hu] at h
    obtain rfl := Option.some.inj h
    exact ⟨u, rfl, ⟨rfl, hG⟩, hF⟩
  · rw [hu.1] at h
    have p3 := hu.2
    simp only [Sum.elim_inl] at h
    refine c_get X 4 7 (v := .int (V 87 u2.toNatClampNeg)) rx4_ws rfl rfl rfl (vp_lt p3) g_941 rfl dX11_stateOf_5 ?_
    obtain rfl := Option.some.inj h
    refine zx_ret ?_
    refine zz.widen (k := 1) (n := 6) (by omega) (by omega) ?_
    exact z_iret X hr rfl (fun t hG hF _ => ⟨⟨_, _, rfl, ⟨rfl, ⟨rfl, trivial⟩⟩, hG⟩, hF⟩) dX11_stateOf_8
theorem cc_stateOf (l : Launch) {D : va_G} {dA : Nat → ClassId} {A : Nat → Prop} {n : Nat} (hst : l.stackTraces = false) (hA : ∀ q, n ≤ q → A q) {V : Rho} {L : Lst} {N : Cnt} {ad : Adr} {xs : va_W} (h11 : 0 < N 11) {a1 : Int32} {o : (Int32) ⊕ Nat} (h : fc_stateOf V L N a1 = some o) : vx_Met l yX11_stateOf (.code yX11_stateOf cX11_stateOf 2 (some .int) :: gT) ({ frames := 10, cells := 1, slots := 6, locals := 420 } : Room) (va_Pc [.ref (ad 11 0), .int a1] (zB D dA A n (cx D dA A V L N ad xs))) (va_Qi (fun r (w9 : Int32) => r = w9 ∧ o = .inl w9 ∧ True) (fun (w9 : Int32) t => cx D dA A V L N ad xs t.heap) A) (vx_X (fun (u : Nat) => o = .inr u) (fun E u t => E = exn u ∧ cx D dA A V L N ad xs t.heap) A) 1 6 A :=
  zx_met (by decide) hA hst (Nat.le_of_ble_eq_true rfl) rfl rfl (fun p e s m below meth c X hml hr hnil => bc_stateOf X hml hr hnil ⟨by omega, by omega⟩ h11 h)
-- MeshBiller.seconds(I)I
def fc_seconds (V : Rho) (L : Lst) (N : Cnt) (a1 : Int32) : Option ((Int32) ⊕ Nat) := (fc_legAt V L N a1).bind fun o1 => Sum.elim (fun u2 => some (.inl (V 88 u2.toNatClampNeg))) (fun e9 => some (.inr e9)) o1
set_option maxRecDepth 100000 in
set_option maxHeartbeats 4000000 in
theorem bc_seconds {p : Program} {l : Launch} {e : Env} {s : State} {m : MethodId} {args : Array Value} {below : List Frame} {meth : Method} {c : Code} {D : va_G} {dA : Nat → ClassId} {A : Nat → Prop} {xs : va_W} {o : (Int32) ⊕ Nat} {V : Rho} {L : Lst} {N : Cnt} {ad : Adr} (X : zc p l s m args meth c cX11_seconds RX11 D dA A) (hml : c.maxLocals = 2) (hr : meth.sig.returnType = (some .int)) (hnil : ∀ x ∈ c.exceptionTable.toList, False) {cells slots : Nat} (hcs : cells + 1 ≤ 1 ∧ slots + 6 ≤ 6) (h11 : 0 < N 11) {a1 : Int32} (h : fc_seconds V L N a1 = some o) : zz p l e ({ frames := 10, cells := 1, slots := 6, locals := 420 } : Room) s m args below meth c A (cx D dA A V L N ad xs) cells slots (vx_MQ below (va_Qi (fun r (w9 : Int32) => r = w9 ∧ o = .inl w9 ∧ True) (fun (w9 : Int32) t => cx D dA A V L N ad xs t.heap) A) (vx_X (fun (u : Nat) => o = .inr u) (fun E u t => E = exn u ∧ cx D dA A V L N ad xs t.heap) A) args s 1 6 A) 0 [(0, .ref (ad 11 0)), (1, .int a1)] [] [] := by
  obtain ⟨hcs1, hcs2⟩ := hcs
  unfold fc_seconds at h
  refine z_aload_n X dX11_seconds_0 rfl rfl ?_
  refine z_iload_n X dX11_seconds_1 rfl rfl ?_
  obtain ⟨o1, co1, h⟩ := zb2 h
  refine z_xVq (As := [.int a1]) (rest := []) (nA := 1) (mc := 1) (ms := 6) (rm := ({ frames := 9, cells := 1, slots := 6, locals := 378 } : Room)) (S := Int32) (r0 := fun u => some (ad 4 u.toNatClampNeg)) (pu := fun u => o1 = .inl u ∧ vp_in u (N 4)) (G1 := fun u => cx D dA A V L N ad xs) X hnil (cc_legAt l X.2.2.2.2.2.2.2.2 X.2.2.2.2.2.2.1 h11 co1) g_1184 g_1186 gs_24 g_1 g_1187 hd_yX11_legAt ⟨rfl, rfl, Nat.le_of_ble_eq_true rfl, Nat.le_of_ble_eq_true rfl⟩ rfl (fun _ hG => cx_recv X (k := 11) (n := 9) rfl rfl h11 hG)  rfl (Nat.le_of_ble_eq_true rfl) dX11_seconds_2 ⟨by show _ ≤ 1; omega, by show _ ≤ 6; omega⟩ ⟨by omega, by omega⟩ (fun u hu t hG hF => ?_) (fun u2 hu => ?_)
  · rw [hu] at h
    obtain rfl := Option.some.inj h
    exact ⟨u, rfl, ⟨rfl, hG⟩, hF⟩
  · rw [hu.1] at h
    have p3 := hu.2
    simp only [Sum.elim_inl] at h
    refine c_get X 4 8 (v := .int (V 88 u2.toNatClampNeg)) rx4_ws rfl rfl rfl (vp_lt p3) g_943 rfl dX11_seconds_5 ?_
    obtain rfl := Option.some.inj h
    refine zx_ret ?_
    refine zz.widen (k := 1) (n := 6) (by omega) (by omega) ?_
    exact z_iret X hr rfl (fun t hG hF _ => ⟨⟨_, _, rfl, ⟨rfl, ⟨rfl, trivial⟩⟩, hG⟩, hF⟩) dX11_seconds_8
theorem cc_seconds (l : Launch) {D : va_G} {dA : Nat → ClassId} {A : Nat → Prop} {n : Nat} (hst : l.stackTraces = false) (hA : ∀ q, n ≤ q → A q) {V : Rho} {L : Lst} {N : Cnt} {ad : Adr} {xs : va_W} (h11 : 0 < N 11) {a1 : Int32} {o : (Int32) ⊕ Nat} (h : fc_seconds V L N a1 = some o) : vx_Met l yX11_seconds (.code yX11_seconds cX11_seconds 2 (some .int) :: gT) ({ frames := 10, cells := 1, slots := 6, locals := 420 } : Room) (va_Pc [.ref (ad 11 0), .int a1] (zB D dA A n (cx D dA A V L N ad xs))) (va_Qi (fun r (w9 : Int32) => r = w9 ∧ o = .inl w9 ∧ True) (fun (w9 : Int32) t => cx D dA A V L N ad xs t.heap) A) (vx_X (fun (u : Nat) => o = .inr u) (fun E u t => E = exn u ∧ cx D dA A V L N ad xs t.heap) A) 1 6 A :=
  zx_met (by decide) hA hst (Nat.le_of_ble_eq_true rfl) rfl rfl (fun p e s m below meth c X hml hr hnil => bc_seconds X hml hr hnil ⟨by omega, by omega⟩ h11 h)
-- MeshBiller.charged(I)I
def fc_charged (V : Rho) (L : Lst) (N : Cnt) (a1 : Int32) : Option ((Int32) ⊕ Nat) := (fc_legAt V L N a1).bind fun o1 => Sum.elim (fun u2 => some (.inl (V 89 u2.toNatClampNeg))) (fun e9 => some (.inr e9)) o1
set_option maxRecDepth 100000 in
set_option maxHeartbeats 4000000 in
theorem bc_charged {p : Program} {l : Launch} {e : Env} {s : State} {m : MethodId} {args : Array Value} {below : List Frame} {meth : Method} {c : Code} {D : va_G} {dA : Nat → ClassId} {A : Nat → Prop} {xs : va_W} {o : (Int32) ⊕ Nat} {V : Rho} {L : Lst} {N : Cnt} {ad : Adr} (X : zc p l s m args meth c cX11_charged RX11 D dA A) (hml : c.maxLocals = 2) (hr : meth.sig.returnType = (some .int)) (hnil : ∀ x ∈ c.exceptionTable.toList, False) {cells slots : Nat} (hcs : cells + 1 ≤ 1 ∧ slots + 6 ≤ 6) (h11 : 0 < N 11) {a1 : Int32} (h : fc_charged V L N a1 = some o) : zz p l e ({ frames := 10, cells := 1, slots := 6, locals := 420 } : Room) s m args below meth c A (cx D dA A V L N ad xs) cells slots (vx_MQ below (va_Qi (fun r (w9 : Int32) => r = w9 ∧ o = .inl w9 ∧ True) (fun (w9 : Int32) t => cx D dA A V L N ad xs t.heap) A) (vx_X (fun (u : Nat) => o = .inr u) (fun E u t => E = exn u ∧ cx D dA A V L N ad xs t.heap) A) args s 1 6 A) 0 [(0, .ref (ad 11 0)), (1, .int a1)] [] [] := by
  obtain ⟨hcs1, hcs2⟩ := hcs
  unfold fc_charged at h
  refine z_aload_n X dX11_charged_0 rfl rfl ?_
  refine z_iload_n X dX11_charged_1 rfl rfl ?_
  obtain ⟨o1, co1, h⟩ := zb2 h
  refine z_xVq (As := [.int a1]) (rest := []) (nA := 1) (mc := 1) (ms := 6) (rm := ({ frames := 9, cells := 1, slots := 6, locals := 378 } : Room)) (S := Int32) (r0 := fun u => some (ad 4 u.toNatClampNeg)) (pu := fun u => o1 = .inl u ∧ vp_in u (N 4)) (G1 := fun u => cx D dA A V L N ad xs) X hnil (cc_legAt l X.2.2.2.2.2.2.2.2 X.2.2.2.2.2.2.1 h11 co1) g_1184 g_1186 gs_24 g_1 g_1187 hd_yX11_legAt ⟨rfl, rfl, Nat.le_of_ble_eq_true rfl, Nat.le_of_ble_eq_true rfl⟩ rfl (fun _ hG => cx_recv X (k := 11) (n := 9) rfl rfl h11 hG)  rfl (Nat.le_of_ble_eq_true rfl) dX11_charged_2 ⟨by show _ ≤ 1; omega, by show _ ≤ 6; omega⟩ ⟨by omega, by omega⟩ (fun u hu t hG hF => ?_) (fun u2 hu => ?_)
  · rw [hu] at h
    obtain rfl := Option.some.inj h
    exact ⟨u, rfl, ⟨rfl, hG⟩, hF⟩
  · rw [hu.1] at h
    have p3 := hu.2
    simp only [Sum.elim_inl] at h
    refine c_get X 4 9 (v := .int (V 89 u2.toNatClampNeg)) rx4_ws rfl rfl rfl (vp_lt p3) g_945 rfl dX11_charged_5 ?_
    obtain rfl := Option.some.inj h
    refine zx_ret ?_
    refine zz.widen (k := 1) (n := 6) (by omega) (by omega) ?_
    exact z_iret X hr rfl (fun t hG hF _ => ⟨⟨_, _, rfl, ⟨rfl, ⟨rfl, trivial⟩⟩, hG⟩, hF⟩) dX11_charged_8
theorem cc_charged (l : Launch) {D : va_G} {dA : Nat → ClassId} {A : Nat → Prop} {n : Nat} (hst : l.stackTraces = false) (hA : ∀ q, n ≤ q → A q) {V : Rho} {L : Lst} {N : Cnt} {ad : Adr} {xs : va_W} (h11 : 0 < N 11) {a1 : Int32} {o : (Int32) ⊕ Nat} (h : fc_charged V L N a1 = some o) : vx_Met l yX11_charged (.code yX11_charged cX11_charged 2 (some .int) :: gT) ({ frames := 10, cells := 1, slots := 6, locals := 420 } : Room) (va_Pc [.ref (ad 11 0), .int a1] (zB D dA A n (cx D dA A V L N ad xs))) (va_Qi (fun r (w9 : Int32) => r = w9 ∧ o = .inl w9 ∧ True) (fun (w9 : Int32) t => cx D dA A V L N ad xs t.heap) A) (vx_X (fun (u : Nat) => o = .inr u) (fun E u t => E = exn u ∧ cx D dA A V L N ad xs t.heap) A) 1 6 A :=
  zx_met (by decide) hA hst (Nat.le_of_ble_eq_true rfl) rfl rfl (fun p e s m below meth c X hml hr hnil => bc_charged X hml hr hnil ⟨by omega, by omega⟩ h11 h)
-- MeshBiller.covered(I)I
def fc_covered (V : Rho) (L : Lst) (N : Cnt) (a1 : Int32) : Option ((Int32) ⊕ Nat) := (fc_legAt V L N a1).bind fun o1 => Sum.elim (fun u2 => some (.inl (V 90 u2.toNatClampNeg))) (fun e9 => some (.inr e9)) o1
set_option maxRecDepth 100000 in
set_option maxHeartbeats 4000000 in
theorem bc_covered {p : Program} {l : Launch} {e : Env} {s : State} {m : MethodId} {args : Array Value} {below : List Frame} {meth : Method} {c : Code} {D : va_G} {dA : Nat → ClassId} {A : Nat → Prop} {xs : va_W} {o : (Int32) ⊕ Nat} {V : Rho} {L : Lst} {N : Cnt} {ad : Adr} (X : zc p l s m args meth c cX11_covered RX11 D dA A) (hml : c.maxLocals = 2) (hr : meth.sig.returnType = (some .int)) (hnil : ∀ x ∈ c.exceptionTable.toList, False) {cells slots : Nat} (hcs : cells + 1 ≤ 1 ∧ slots + 6 ≤ 6) (h11 : 0 < N 11) {a1 : Int32} (h : fc_covered V L N a1 = some o) : zz p l e ({ frames := 10, cells := 1, slots := 6, locals := 420 } : Room) s m args below meth c A (cx D dA A V L N ad xs) cells slots (vx_MQ below (va_Qi (fun r (w9 : Int32) => r = w9 ∧ o = .inl w9 ∧ True) (fun (w9 : Int32) t => cx D dA A V L N ad xs t.heap) A) (vx_X (fun (u : Nat) => o = .inr u) (fun E u t => E = exn u ∧ cx D dA A V L N ad xs t.heap) A) args s 1 6 A) 0 [(0, .ref (ad 11 0)), (1, .int a1)] [] [] := by
  obtain ⟨hcs1, hcs2⟩ := hcs
  unfold fc_covered at h
  refine z_aload_n X dX11_covered_0 rfl rfl ?_
  refine z_iload_n X dX11_covered_1 rfl rfl ?_
  obtain ⟨o1, co1, h⟩ := zb2 h
  refine z_xVq (As := [.int a1]) (rest := []) (nA := 1) (mc := 1) (ms := 6) (rm := ({ frames := 9, cells := 1, slots := 6, locals := 378 } : Room)) (S := Int32) (r0 := fun u => some (ad 4 u.toNatClampNeg)) (pu := fun u => o1 = .inl u ∧ vp_in u (N 4)) (G1 := fun u => cx D dA A V L N ad xs) X hnil (cc_legAt l X.2.2.2.2.2.2.2.2 X.2.2.2.2.2.2.1 h11 co1) g_1184 g_1186 gs_24 g_1 g_1187 hd_yX11_legAt ⟨rfl, rfl, Nat.le_of_ble_eq_true rfl, Nat.le_of_ble_eq_true rfl⟩ rfl (fun _ hG => cx_recv X (k := 11) (n := 9) rfl rfl h11 hG)  rfl (Nat.le_of_ble_eq_true rfl) dX11_covered_2 ⟨by show _ ≤ 1; omega, by show _ ≤ 6; omega⟩ ⟨by omega, by omega⟩ (fun u hu t hG hF => ?_) (fun u2 hu => ?_)
  · rw [hu] at h
    obtain rfl := Option.some.inj h
    exact ⟨u, rfl, ⟨rfl, hG⟩, hF⟩
  · rw [hu.1] at h
    have p3 := hu.2
    simp only [Sum.elim_inl] at h
    refine c_get X 4 10 (v := .int (V 90 u2.toNatClampNeg)) rx4_ws rfl rfl rfl (vp_lt p3) g_947 rfl dX11_covered_5 ?_
    obtain rfl := Option.some.inj h
    refine zx_ret ?_
    refine zz.widen (k := 1) (n := 6) (by omega) (by omega) ?_
    exact z_iret X hr rfl (fun t hG hF _ => ⟨⟨_, _, rfl, ⟨rfl, ⟨rfl, trivial⟩⟩, hG⟩, hF⟩) dX11_covered_8
theorem cc_covered (l : Launch) {D : va_G} {dA : Nat → ClassId} {A : Nat → Prop} {n : Nat} (hst : l.stackTraces = false) (hA : ∀ q, n ≤ q → A q) {V : Rho} {L : Lst} {N : Cnt} {ad : Adr} {xs : va_W} (h11 : 0 < N 11) {a1 : Int32} {o : (Int32) ⊕ Nat} (h : fc_covered V L N a1 = some o) : vx_Met l yX11_covered (.code yX11_covered cX11_covered 2 (some .int) :: gT) ({ frames := 10, cells := 1, slots := 6, locals := 420 } : Room) (va_Pc [.ref (ad 11 0), .int a1] (zB D dA A n (cx D dA A V L N ad xs))) (va_Qi (fun r (w9 : Int32) => r = w9 ∧ o = .inl w9 ∧ True) (fun (w9 : Int32) t => cx D dA A V L N ad xs t.heap) A) (vx_X (fun (u : Nat) => o = .inr u) (fun E u t => E = exn u ∧ cx D dA A V L N ad xs t.heap) A) 1 6 A :=
  zx_met (by decide) hA hst (Nat.le_of_ble_eq_true rfl) rfl rfl (fun p e s m below meth c X hml hr hnil => bc_covered X hml hr hnil ⟨by omega, by omega⟩ h11 h)
-- MeshBiller$RateHistory.costOf(II)I
def fc_RateHistory_costOf_81 (k5 : Rho → Lst → Cnt → Int32 → Int32 → Int32 → Int32 → Int32 → Option (Int32)) (V : Rho) (L : Lst) (N : Cnt) (v0 : Int32) (v1 : Int32) (v2 : Int32) (v3 : Int32) (v4 : Int32) (v5 : Int32) (v6 : Int32) (s0 : Int32) : Option (Int32) := (some (if 0 < (s0 - v6) then (s0 - v6) else 0)).bind fun x1 => (some ((v3 + (x1 * (V 141 v5.toNatClampNeg))))).bind fun x2 => (some (v4 + 1)).bind fun x3 => k5 V L N v0 v1 v2 x2 x3
set_option maxRecDepth 100000 in
set_option maxHeartbeats 4000000 in
theorem bc_RateHistory_costOf_81 {p : Program} {l : Launch} {e : Env} {s : State} {m : MethodId} {args : Array Value} {below : List Frame} {meth : Method} {c : Code} {D : va_G} {dA : Nat → ClassId} {A : Nat → Prop} {xs : va_W} {o : Int32} {V : Rho} {L : Lst} {N : Cnt} {ad : Adr} (X : zc p l s m args meth c cX6_costOf RX6 D dA A) (hml : c.maxLocals = 8) (hr : meth.sig.returnType = (some .int)) {k5 : Rho → Lst → Cnt → Int32 → Int32 → Int32 → Int32 → Int32 → Option (Int32)} (hk5 : ∀ (h11 : 0 < N 11) {v0 : Int32} {v1 : Int32} {v2 : Int32} {v3 : Int32} {v4 : Int32} (fv0 : vp_in v0 (N 6)) , k5 V L N v0 v1 v2 v3 v4 = some o → zz p l e ({ frames := 9, cells := 0, slots := 0, locals := 378 } : Room) s m args below meth c A (cx D dA A V L N ad xs) 0 0 (MQ below (va_Qi (fun r (w9 : Unit) => r = o ∧ True) (fun (w9 : Unit) t => cx D dA A V L N ad xs t.heap) A) args s 0 0 A) 5 [(0, .ref (ad 6 v0.toNatClampNeg)), (1, .int v1), (2, .int v2), (3, .int v3), (4, .int v4)] [] []) (h11 : 0 < N 11) {v0 : Int32} {v1 : Int32} {v2 : Int32} {v3 : Int32} {v4 : Int32} {v5 : Int32} {v6 : Int32} {s0 : Int32} (fv0 : vp_in v0 (N 6)) (fv5 : vp_in v5 (N 7)) (h : fc_RateHistory_costOf_81 k5 V L N v0 v1 v2 v3 v4 v5 v6 s0 = some o) : zz p l e ({ frames := 9, cells := 0, slots := 0, locals := 378 } : Room) s m args below meth c A (cx D dA A V L N ad xs) 0 0 (MQ below (va_Qi (fun r (w9 : Unit) => r = o ∧ True) (fun (w9 : Unit) t => cx D dA A V L N ad xs t.heap) A) args s 0 0 A) 81 [(0, .ref (ad 6 v0.toNatClampNeg)), (1, .int v1), (2, .int v2), (3, .int v3), (4, .int v4), (5, .ref (ad 7 v5.toNatClampNeg)), (6, .int v6)] [] [.int s0] := by
  unfold fc_RateHistory_costOf_81 at h
  refine z_istore (lo' := [(7, .int s0), (0, .ref (ad 6 v0.toNatClampNeg)), (1, .int v1), (2, .int v2), (3, .int v3), (4, .int v4), (5, .ref (ad 7 v5.toNatClampNeg)), (6, .int v6)]) X dX6_costOf_81 (by rw [hml]; decide) rfl rfl ?_
  refine z_iload_n X dX6_costOf_83 rfl rfl ?_
  refine z_iconst (v := 0) X dX6_costOf_84 (by decide) ?_
  refine z_iload X dX6_costOf_85 rfl ?_
  refine z_iload X dX6_costOf_87 rfl ?_
  refine z_isub X dX6_costOf_89 ?_
  obtain ⟨x1, ex1, h⟩ := zb h
  refine z_max X g_1227 g_126 g_9 g_127 (Nat.le_of_ble_eq_true rfl) (Nat.le_of_ble_eq_true rfl) ⟨Nat.le_refl _, Nat.le_refl _⟩ dX6_costOf_90 ?_
  rw [ex1]
  refine z_aload X dX6_costOf_93 rfl ?_
  refine c_get X 7 1 (v := .int (V 141 v5.toNatClampNeg)) rx7_ws rfl rfl rfl (vp_lt fv5) g_100 rfl dX6_costOf_95 ?_
  refine z_imul X dX6_costOf_98 ?_
  refine z_iadd X dX6_costOf_99 ?_
  obtain ⟨x2, ex2, h⟩ := zb h
  rw [ex2]
  refine z_istore_n (lo' := [(3, .int x2), (7, .int s0), (0, .ref (ad 6 v0.toNatClampNeg)), (1, .int v1), (2, .int v2), (4, .int v4), (5, .ref (ad 7 v5.toNatClampNeg)), (6, .int v6)]) X dX6_costOf_100 rfl (by rw [hml]; decide) rfl rfl ?_
  obtain ⟨x3, ex3, h⟩ := zb h
  refine z_iinc (v := x3) (lo' := [(4, .int x3), (3, .int x2), (7, .int s0), (0, .ref (ad 6 v0.toNatClampNeg)), (1, .int v1), (2, .int v2), (5, .ref (ad 7 v5.toNatClampNeg)), (6, .int v6)]) X dX6_costOf_101 rfl ex3 (by rw [hml]; decide) rfl rfl ?_
  refine z_goto (tgt := 5) X dX6_costOf_104 (by decide) ?_
  refine zz.pick (lo' := [(0, .ref (ad 6 v0.toNatClampNeg)), (1, .int v1), (2, .int v2), (3, .int x2), (4, .int x3)]) [0, 1, 2, 3, 4] rfl ?_
  exact hk5 h11 fv0 h
def fc_RateHistory_costOf_5 : Nat → Rho → Lst → Cnt → Int32 → Int32 → Int32 → Int32 → Int32 → Option (Int32)
  | 0, _, _, _, _, _, _, _, _ => none
  | n + 1, V, L, N, v0, v1, v2, v3, v4 => (some (nI (L 16 v0.toNatClampNeg).length)).bind fun x1 => (if x1 ≤ v4 then some v3
  else if v4 < 0 ∨ (L 16 v0.toNatClampNeg).length ≤ (v4).toNatClampNeg then none else (some ((L 16 v0.toNatClampNeg).getD v4.toNatClampNeg 0)).bind fun x3 => (some (if v1 < (V 140 x3.toNatClampNeg) then (V 140 x3.toNatClampNeg) else v1)).bind fun x5 => (some (nI (L 16 v0.toNatClampNeg).length)).bind fun x6 => (if x6 ≤ (v4 + 1) then fc_RateHistory_costOf_81 (fc_RateHistory_costOf_5 n) V L N v0 v1 v2 v3 v4 x3 x5 v2
  else if (v4 + 1) < 0 ∨ (L 16 v0.toNatClampNeg).length ≤ ((v4 + 1)).toNatClampNeg then none else (some ((L 16 v0.toNatClampNeg).getD (v4 + 1).toNatClampNeg 0)).bind fun x8 => (some (if (V 140 x8.toNatClampNeg) < v2 then (V 140 x8.toNatClampNeg) else v2)).bind fun x10 => fc_RateHistory_costOf_81 (fc_RateHistory_costOf_5 n) V L N v0 v1 v2 v3 v4 x3 x5 x10))
set_option maxRecDepth 100000 in
set_option maxHeartbeats 4000000 in
theorem bc_RateHistory_costOf_5 {p : Program} {l : Launch} {e : Env} {s : State} {m : MethodId} {args : Array Value} {below : List Frame} {meth : Method} {c : Code} {D : va_G} {dA : Nat → ClassId} {A : Nat → Prop} {xs : va_W} {o : Int32} {V : Rho} {L : Lst} {N : Cnt} {ad : Adr} (X : zc p l s m args meth c cX6_costOf RX6 D dA A) (hml : c.maxLocals = 8) (hr : meth.sig.returnType = (some .int)) : ∀ (n : Nat) (h11 : 0 < N 11) {v0 : Int32} {v1 : Int32} {v2 : Int32} {v3 : Int32} {v4 : Int32} (fv0 : vp_in v0 (N 6)) , fc_RateHistory_costOf_5 n V L N v0 v1 v2 v3 v4 = some o → zz p l e ({ frames := 9, cells := 0, slots := 0, locals := 378 } : Room) s m args below meth c A (cx D dA A V L N ad xs) 0 0 (MQ below (va_Qi (fun r (w9 : Unit) => r = o ∧ True) (fun (w9 : Unit) t => cx D dA A V L N ad xs t.heap) A) args s 0 0 A) 5 [(0, .ref (ad 6 v0.toNatClampNeg)), (1, .int v1), (2, .int v2), (3, .int v3), (4, .int v4)] [] [] := by
  intro n
  induction n with
  | zero => intro  h11 v0 v1 v2 v3 v4 fv0 h; exact (nomatch (show none = some o from h))
  | succ n ih =>
    intro  h11 v0 v1 v2 v3 v4 fv0 h
    rw [fc_RateHistory_costOf_5] at h
    refine z_iload X dX6_costOf_5 rfl ?_
    refine z_aload_n X dX6_costOf_7 rfl rfl ?_
    refine c_get X 6 0 (v := .ref (ad 16 v0.toNatClampNeg)) rx6_ws rfl rfl rfl (vp_lt fv0) g_172 rfl dX6_costOf_8 ?_
    obtain ⟨x1, ex1, h⟩ := zb h
    refine z_callVi (As := []) (rest := [.int v4]) (nA := 0) (mc := 0) (ms := 0) (rm := ({ frames := 8, cells := 0, slots := 0, locals := 336 } : Room)) (r0 := (nI (L 16 v0.toNatClampNeg).length)) (pu := fun (_ : Unit) => True) (G1 := fun _ => cx D dA A V L N ad xs) X (cl_size l X.2.2.2.2.2.2.2.2 X.2.2.2.2.2.2.1 (k := 16) (i := v0.toNatClampNeg) rfl rfl (vp_lt fv0)) g_461 g_309 g_310 g_4 g_311 hd_yJx4a65c_size_8abf5 ⟨rfl, rfl, Nat.le_of_ble_eq_true rfl, Nat.le_of_ble_eq_true rfl⟩ rfl (fun _ hG => cx_recvL X (k := 16) rfl rfl (vp_lt fv0) hG) rfl (Nat.le_of_ble_eq_true rfl) dX6_costOf_11 ⟨Nat.le_refl _, Nat.le_refl _⟩ (fun _ _ => ?_)
    rw [ex1]
    refine z_icmp_ge (tgt := 107) X dX6_costOf_14 (by decide) (fun q => ?_) (fun q => ?_)
    · have h := zp q h
      refine z_iload_n X dX6_costOf_107 rfl rfl ?_
      obtain rfl := Option.some.inj h
      exact z_iret X hr rfl (fun t hG hF _ => ⟨⟨_, (), rfl, ⟨rfl, trivial⟩, hG⟩, hF⟩) dX6_costOf_108
    · have h := zn q h
      refine z_aload_n X dX6_costOf_17 rfl rfl ?_
      refine c_get X 6 0 (v := .ref (ad 16 v0.toNatClampNeg)) rx6_ws rfl rfl rfl (vp_lt fv0) g_172 rfl dX6_costOf_18 ?_
      refine z_iload X dX6_costOf_21 rfl ?_
      obtain ⟨q2, h⟩ := zg h
      obtain ⟨x3, ex3, h⟩ := zb h
      refine z_callVq (As := [.int v4]) (rest := []) (nA := 1) (mc := 0) (ms := 0) (rm := ({ frames := 8, cells := 0, slots := 0, locals := 336 } : Room)) (ro := fun _ => some (ad 7 ((L 16 v0.toNatClampNeg).getD v4.toNatClampNeg 0).toNatClampNeg)) (pu := fun (_ : Unit) => True) (G1 := fun _ => cx D dA A V L N ad xs) X (cl_get l X.2.2.2.2.2.2.2.2 X.2.2.2.2.2.2.1 (k := 16) (i := v0.toNatClampNeg) (x := v4) rfl rfl (vp_lt fv0) q2) g_1226 g_554 g_555 g_4 g_556 hd_yJx4a65c_get_915e3 ⟨rfl, rfl, Nat.le_of_ble_eq_true rfl, Nat.le_of_ble_eq_true rfl⟩ rfl (fun _ hG => cx_recvL X (k := 16) rfl rfl (vp_lt fv0) hG) rfl (Nat.le_of_ble_eq_true rfl) dX6_costOf_23 ⟨Nat.le_refl _, Nat.le_refl _⟩ (fun _ _ => ?_)
      rw [ex3]
      refine zz.pre (fun H hG => cx_elt (k := 16) rfl rfl (vp_lt fv0) q2 hG) (fun p4 => ?_)
      rw [ex3] at p4
      refine c_cast X (k := 7) (n := 2) rfl rfl (vp_lt p4) g_91 dX6_costOf_26 ?_
      refine z_astore (lo' := [(5, .ref (ad 7 x3.toNatClampNeg)), (0, .ref (ad 6 v0.toNatClampNeg)), (1, .int v1), (2, .int v2), (3, .int v3), (4, .int v4)]) X dX6_costOf_29 (by rw [hml]; decide) rfl rfl ?_
      refine z_iload_n X dX6_costOf_31 rfl rfl ?_
      refine z_aload X dX6_costOf_32 rfl ?_
      refine c_get X 7 0 (v := .int (V 140 x3.toNatClampNeg)) rx7_ws rfl rfl rfl (vp_lt p4) g_98 rfl dX6_costOf_34 ?_
      obtain ⟨x5, ex5, h⟩ := zb h
      refine z_max X g_1227 g_126 g_9 g_127 (Nat.le_of_ble_eq_true rfl) (Nat.le_of_ble_eq_true rfl) ⟨Nat.le_refl _, Nat.le_refl _⟩ dX6_costOf_37 ?_
      rw [ex5]
      refine z_istore (lo' := [(6, .int x5), (5, .ref (ad 7 x3.toNatClampNeg)), (0, .ref (ad 6 v0.toNatClampNeg)), (1, .int v1), (2, .int v2), (3, .int v3), (4, .int v4)]) X dX6_costOf_40 (by rw [hml]; decide) rfl rfl ?_
      refine z_iload X dX6_costOf_42 rfl ?_
      refine z_iconst (v := 1) X dX6_costOf_44 (by decide) ?_
      refine z_iadd X dX6_costOf_45 ?_
      refine z_aload_n X dX6_costOf_46 rfl rfl ?_
      refine c_get X 6 0 (v := .ref (ad 16 v0.toNatClampNeg)) rx6_ws rfl rfl rfl (vp_lt fv0) g_172 rfl dX6_costOf_47 ?_
      obtain ⟨x6, ex6, h⟩ := zb h
      refine z_callVi (As := []) (rest := [.int (v4 + 1)]) (nA := 0) (mc := 0) (ms := 0) (rm := ({ frames := 8, cells := 0, slots := 0, locals := 336 } : Room)) (r0 := (nI (L 16 v0.toNatClampNeg).length)) (pu := fun (_ : Unit) => True) (G1 := fun _ => cx D dA A V L N ad xs) X (cl_size l X.2.2.2.2.2.2.2.2 X.2.2.2.2.2.2.1 (k := 16) (i := v0.toNatClampNeg) rfl rfl (vp_lt fv0)) g_461 g_309 g_310 g_4 g_311 hd_yJx4a65c_size_8abf5 ⟨rfl, rfl, Nat.le_of_ble_eq_true rfl, Nat.le_of_ble_eq_true rfl⟩ rfl (fun _ hG => cx_recvL X (k := 16) rfl rfl (vp_lt fv0) hG) rfl (Nat.le_of_ble_eq_true rfl) dX6_costOf_50 ⟨Nat.le_refl _, Nat.le_refl _⟩ (fun _ _ => ?_)
      rw [ex6]
      refine z_icmp_ge (tgt := 80) X dX6_costOf_53 (by decide) (fun q => ?_) (fun q => ?_)
      · have h := zp q h
        refine z_iload_n X dX6_costOf_80 rfl rfl ?_
        refine zz.pick (lo' := [(0, .ref (ad 6 v0.toNatClampNeg)), (1, .int v1), (2, .int v2), (3, .int v3), (4, .int v4), (5, .ref (ad 7 x3.toNatClampNeg)), (6, .int x5)]) [0, 1, 2, 3, 4, 5, 6] rfl ?_
        exact bc_RateHistory_costOf_81 X hml hr ih h11 fv0 p4 h
      · have h := zn q h
        refine z_iload_n X dX6_costOf_56 rfl rfl ?_
        refine z_aload_n X dX6_costOf_57 rfl rfl ?_
        refine c_get X 6 0 (v := .ref (ad 16 v0.toNatClampNeg)) rx6_ws rfl rfl rfl (vp_lt fv0) g_172 rfl dX6_costOf_58 ?_
        refine z_iload X dX6_costOf_61 rfl ?_
        refine z_iconst (v := 1) X dX6_costOf_63 (by decide) ?_
        refine z_iadd X dX6_costOf_64 ?_
        obtain ⟨q7, h⟩ := zg h
        obtain ⟨x8, ex8, h⟩ := zb h
        refine z_callVq (As := [.int (v4 + 1)]) (rest := [.int v2]) (nA := 1) (mc := 0) (ms := 0) (rm := ({ frames := 8, cells := 0, slots := 0, locals := 336 } : Room)) (ro := fun _ => some (ad 7 ((L 16 v0.toNatClampNeg).getD (v4 + 1).toNatClampNeg 0).toNatClampNeg)) (pu := fun (_ : Unit) => True) (G1 := fun _ => cx D dA A V L N ad xs) X (cl_get l X.2.2.2.2.2.2.2.2 X.2.2.2.2.2.2.1 (k := 16) (i := v0.toNatClampNeg) (x := (v4 + 1)) rfl rfl (vp_lt fv0) q7) g_1226 g_554 g_555 g_4 g_556 hd_yJx4a65c_get_915e3 ⟨rfl, rfl, Nat.le_of_ble_eq_true rfl, Nat.le_of_ble_eq_true rfl⟩ rfl (fun _ hG => cx_recvL X (k := 16) rfl rfl (vp_lt fv0) hG) rfl (Nat.le_of_ble_eq_true rfl) dX6_costOf_65 ⟨Nat.le_refl _, Nat.le_refl _⟩ (fun _ _ => ?_)
        rw [ex8]
        refine zz.pre (fun H hG => cx_elt (k := 16) rfl rfl (vp_lt fv0) q7 hG) (fun p9 => ?_)
        rw [ex8] at p9
        refine c_cast X (k := 7) (n := 2) rfl rfl (vp_lt p9) g_91 dX6_costOf_68 ?_
        refine c_get X 7 0 (v := .int (V 140 x8.toNatClampNeg)) rx7_ws rfl rfl rfl (vp_lt p9) g_98 rfl dX6_costOf_71 ?_
        obtain ⟨x10, ex10, h⟩ := zb h
        refine z_min X g_1228 g_165 g_9 g_166 (Nat.le_of_ble_eq_true rfl) (Nat.le_of_ble_eq_true rfl) ⟨Nat.le_refl _, Nat.le_refl _⟩ dX6_costOf_74 ?_
        rw [ex10]
        refine z_goto (tgt := 81) X dX6_costOf_77 (by decide) ?_
        refine zz.pick (lo' := [(0, .ref (ad 6 v0.toNatClampNeg)), (1, .int v1), (2, .int v2), (3, .int v3), (4, .int v4), (5, .ref (ad 7 x3.toNatClampNeg)), (6, .int x5)]) [0, 1, 2, 3, 4, 5, 6] rfl ?_
        exact bc_RateHistory_costOf_81 X hml hr ih h11 fv0 p4 h
def fc_RateHistory_costOf (V : Rho) (L : Lst) (N : Cnt) (a0 : Int32) (a1 : Int32) (a2 : Int32) : Option (Int32) := fc_RateHistory_costOf_5 FU V L N a0 a1 a2 0 0
set_option maxRecDepth 100000 in
set_option maxHeartbeats 4000000 in
theorem bc_RateHistory_costOf {p : Program} {l : Launch} {e : Env} {s : State} {m : MethodId} {args : Array Value} {below : List Frame} {meth : Method} {c : Code} {D : va_G} {dA : Nat → ClassId} {A : Nat → Prop} {xs : va_W} {o : Int32} {V : Rho} {L : Lst} {N : Cnt} {ad : Adr} (X : zc p l s m args meth c cX6_costOf RX6 D dA A) (hml : c.maxLocals = 8) (hr : meth.sig.returnType = (some .int)) (h11 : 0 < N 11) {a0 : Int32} {a1 : Int32} {a2 : Int32} (va0 : vp_in a0 (N 6)) (h : fc_RateHistory_costOf V L N a0 a1 a2 = some o) : zz p l e ({ frames := 9, cells := 0, slots := 0, locals := 378 } : Room) s m args below meth c A (cx D dA A V L N ad xs) 0 0 (MQ below (va_Qi (fun r (w9 : Unit) => r = o ∧ True) (fun (w9 : Unit) t => cx D dA A V L N ad xs t.heap) A) args s 0 0 A) 0 [(0, .ref (ad 6 a0.toNatClampNeg)), (1, .int a1), (2, .int a2)] [] [] := by
  unfold fc_RateHistory_costOf at h
  refine z_iconst (v := 0) X dX6_costOf_0 (by decide) ?_
  refine z_istore_n (lo' := [(3, .int 0), (0, .ref (ad 6 a0.toNatClampNeg)), (1, .int a1), (2, .int a2)]) X dX6_costOf_1 rfl (by rw [hml]; decide) rfl rfl ?_
  refine z_iconst (v := 0) X dX6_costOf_2 (by decide) ?_
  refine z_istore (lo' := [(4, .int 0), (3, .int 0), (0, .ref (ad 6 a0.toNatClampNeg)), (1, .int a1), (2, .int a2)]) X dX6_costOf_3 (by rw [hml]; decide) rfl rfl ?_
  refine zz.pick (lo' := [(0, .ref (ad 6 a0.toNatClampNeg)), (1, .int a1), (2, .int a2), (3, .int 0), (4, .int 0)]) [0, 1, 2, 3, 4] rfl ?_
  exact bc_RateHistory_costOf_5 X hml hr FU h11 va0 h
theorem cc_RateHistory_costOf (l : Launch) {D : va_G} {dA : Nat → ClassId} {A : Nat → Prop} {n : Nat} (hst : l.stackTraces = false) (hA : ∀ q, n ≤ q → A q) {V : Rho} {L : Lst} {N : Cnt} {ad : Adr} {xs : va_W} (h11 : 0 < N 11) {a0 : Int32} {a1 : Int32} {a2 : Int32} (va0 : vp_in a0 (N 6)) {o : Int32} (h : fc_RateHistory_costOf V L N a0 a1 a2 = some o) : Met l yX6_costOf (.code yX6_costOf cX6_costOf 8 (some .int) :: gT) ({ frames := 9, cells := 0, slots := 0, locals := 378 } : Room) (va_Pc [.ref (ad 6 a0.toNatClampNeg), .int a1, .int a2] (zB D dA A n (cx D dA A V L N ad xs))) (va_Qi (fun r (w9 : Unit) => r = o ∧ True) (fun (w9 : Unit) t => cx D dA A V L N ad xs t.heap) A) 0 0 A :=
  z_met (by decide) hA hst (Nat.le_of_ble_eq_true rfl) rfl rfl (fun p e s m below meth c X hml hr _ => bc_RateHistory_costOf X hml hr h11 va0 h)
-- MeshBiller.costOfStay(LMeshBiller$Zone;II)I
def fc_costOfStay_10 : Nat → Rho → Lst → Cnt → Int32 → Int32 → Int32 → Int32 → Int32 → Option (Int32)
  | 0, _, _, _, _, _, _, _, _ => none
  | n + 1, V, L, N, v0, v1, v2, v3, v4 => (if v2 ≤ v4 then some v3
  else (some (if v1 < v4 then v4 else v1)).bind fun x1 => (some (if (v4 + 100) < v2 then (v4 + 100) else v2)).bind fun x2 => (fc_isPeakAt V L N v4).bind fun o3 => (fc_Zone_historyFor V L N v0 o3).bind fun o4 => (fc_RateHistory_costOf V L N o4 x1 x2).bind fun o6 => (some ((v3 + o6))).bind fun x7 => (some (v4 + 100)).bind fun x8 => fc_costOfStay_10 n V L N v0 v1 v2 x7 x8)
set_option maxRecDepth 100000 in
set_option maxHeartbeats 4000000 in
theorem bc_costOfStay_10 {p : Program} {l : Launch} {e : Env} {s : State} {m : MethodId} {args : Array Value} {below : List Frame} {meth : Method} {c : Code} {D : va_G} {dA : Nat → ClassId} {A : Nat → Prop} {xs : va_W} {o : Int32} {V : Rho} {L : Lst} {N : Cnt} {ad : Adr} (X : zc p l s m args meth c cX11_costOfStay RX11 D dA A) (hml : c.maxLocals = 7) (hr : meth.sig.returnType = (some .int)) : ∀ (n : Nat) (h11 : 0 < N 11) {v0 : Int32} {v1 : Int32} {v2 : Int32} {v3 : Int32} {v4 : Int32} (fv0 : vp_in v0 (N 10)) , fc_costOfStay_10 n V L N v0 v1 v2 v3 v4 = some o → zz p l e ({ frames := 10, cells := 0, slots := 0, locals := 420 } : Room) s m args below meth c A (cx D dA A V L N ad xs) 0 0 (MQ below (va_Qi (fun r (w9 : Unit) => r = o ∧ True) (fun (w9 : Unit) t => cx D dA A V L N ad xs t.heap) A) args s 0 0 A) 10 [(0, .ref (ad 10 v0.toNatClampNeg)), (1, .int v1), (2, .int v2), (3, .int v3), (4, .int v4)] [] [] := by
  intro n
  induction n with
  | zero => intro  h11 v0 v1 v2 v3 v4 fv0 h; exact (nomatch (show none = some o from h))
  | succ n ih =>
    intro  h11 v0 v1 v2 v3 v4 fv0 h
    rw [fc_costOfStay_10] at h
    refine z_iload X dX11_costOfStay_10 rfl ?_
    refine z_iload_n X dX11_costOfStay_12 rfl rfl ?_
    refine z_icmp_ge (tgt := 60) X dX11_costOfStay_13 (by decide) (fun q => ?_) (fun q => ?_)
    · have h := zp q h
      refine z_iload_n X dX11_costOfStay_60 rfl rfl ?_
      obtain rfl := Option.some.inj h
      exact z_iret X hr rfl (fun t hG hF _ => ⟨⟨_, (), rfl, ⟨rfl, trivial⟩, hG⟩, hF⟩) dX11_costOfStay_61
    · have h := zn q h
      refine z_iload_n X dX11_costOfStay_16 rfl rfl ?_
      refine z_iload X dX11_costOfStay_17 rfl ?_
      obtain ⟨x1, ex1, h⟩ := zb h
      refine z_max X g_1221 g_126 g_9 g_127 (Nat.le_of_ble_eq_true rfl) (Nat.le_of_ble_eq_true rfl) ⟨Nat.le_refl _, Nat.le_refl _⟩ dX11_costOfStay_19 ?_
      rw [ex1]
      refine z_istore (lo' := [(5, .int x1), (0, .ref (ad 10 v0.toNatClampNeg)), (1, .int v1), (2, .int v2), (3, .int v3), (4, .int v4)]) X dX11_costOfStay_22 (by rw [hml]; decide) rfl rfl ?_
      refine z_iload_n X dX11_costOfStay_24 rfl rfl ?_
      refine z_iload X dX11_costOfStay_25 rfl ?_
      refine z_bipush (v := 100) X dX11_costOfStay_27 (by decide) ?_
      refine z_iadd X dX11_costOfStay_29 ?_
      obtain ⟨x2, ex2, h⟩ := zb h
      refine z_min X g_1020 g_165 g_9 g_166 (Nat.le_of_ble_eq_true rfl) (Nat.le_of_ble_eq_true rfl) ⟨Nat.le_refl _, Nat.le_refl _⟩ dX11_costOfStay_30 ?_
      rw [ex2]
      refine z_istore (lo' := [(6, .int x2), (5, .int x1), (0, .ref (ad 10 v0.toNatClampNeg)), (1, .int v1), (2, .int v2), (3, .int v3), (4, .int v4)]) X dX11_costOfStay_33 (by rw [hml]; decide) rfl rfl ?_
      refine z_iload_n X dX11_costOfStay_35 rfl rfl ?_
      refine z_aload_n X dX11_costOfStay_36 rfl rfl ?_
      refine z_iload X dX11_costOfStay_37 rfl ?_
      obtain ⟨o3, co3, h⟩ := zb2 h
      refine z_callSi (As := [.int v4]) (rest := [.ref (ad 10 v0.toNatClampNeg), .int v3]) (nA := 1) (mc := 0) (ms := 0) (rm := ({ frames := 1, cells := 0, slots := 0, locals := 42 } : Room)) (r0 := o3) (pu := fun (_ : Unit) => True) (G1 := fun _ => cx D dA A V L N ad xs) X (cc_isPeakAt l X.2.2.2.2.2.2.2.2 X.2.2.2.2.2.2.1 h11 co3) g_1029 g_1030 g_1 g_1031 hd_yX11_isPeakAt ⟨rfl, rfl, Nat.le_of_ble_eq_true rfl, Nat.le_of_ble_eq_true rfl⟩ rfl rfl (Nat.le_of_ble_eq_true rfl) dX11_costOfStay_39 ⟨Nat.le_refl _, Nat.le_refl _⟩ (fun _ _ => ?_)
      obtain ⟨o4, co4, h⟩ := zb2 h
      refine z_callVq (As := [.int o3]) (rest := [.int v3]) (nA := 1) (mc := 0) (ms := 0) (rm := ({ frames := 1, cells := 0, slots := 0, locals := 42 } : Room)) (ro := fun _ => some (ad 6 o4.toNatClampNeg)) (pu := fun (_ : Unit) => vp_in o4 (N 6)) (G1 := fun _ => cx D dA A V L N ad xs) X (cc_Zone_historyFor l X.2.2.2.2.2.2.2.2 X.2.2.2.2.2.2.1 h11 fv0 co4) g_453 g_454 g_455 g_5 g_456 hd_yX10_historyFor ⟨rfl, rfl, Nat.le_of_ble_eq_true rfl, Nat.le_of_ble_eq_true rfl⟩ rfl (fun _ hG => cx_recv X (k := 10) (n := 3) rfl rfl (vp_lt fv0) hG) rfl (Nat.le_of_ble_eq_true rfl) dX11_costOfStay_42 ⟨Nat.le_refl _, Nat.le_refl _⟩ (fun _ p5 => ?_)
      refine z_iload X dX11_costOfStay_45 rfl ?_
      refine z_iload X dX11_costOfStay_47 rfl ?_
      obtain ⟨o6, co6, h⟩ := zb2 h
      refine z_callVi (As := [.int x1, .int x2]) (rest := [.int v3]) (nA := 2) (mc := 0) (ms := 0) (rm := ({ frames := 9, cells := 0, slots := 0, locals := 378 } : Room)) (r0 := o6) (pu := fun (_ : Unit) => True) (G1 := fun _ => cx D dA A V L N ad xs) X (cc_RateHistory_costOf l X.2.2.2.2.2.2.2.2 X.2.2.2.2.2.2.1 h11 p5 co6) g_1222 g_1223 g_1224 g_6 g_1225 hd_yX6_costOf ⟨rfl, rfl, Nat.le_of_ble_eq_true rfl, Nat.le_of_ble_eq_true rfl⟩ rfl (fun _ hG => cx_recv X (k := 6) (n := 2) rfl rfl (vp_lt p5) hG) rfl (Nat.le_of_ble_eq_true rfl) dX11_costOfStay_49 ⟨Nat.le_refl _, Nat.le_refl _⟩ (fun _ _ => ?_)
      refine z_iadd X dX11_costOfStay_52 ?_
      obtain ⟨x7, ex7, h⟩ := zb h
      rw [ex7]
      refine z_istore_n (lo' := [(3, .int x7), (6, .int x2), (5, .int x1), (0, .ref (ad 10 v0.toNatClampNeg)), (1, .int v1), (2, .int v2), (4, .int v4)]) X dX11_costOfStay_53 rfl (by rw [hml]; decide) rfl rfl ?_
      obtain ⟨x8, ex8, h⟩ := zb h
      refine z_iinc (v := x8) (lo' := [(4, .int x8), (3, .int x7), (6, .int x2), (5, .int x1), (0, .ref (ad 10 v0.toNatClampNeg)), (1, .int v1), (2, .int v2)]) X dX11_costOfStay_54 rfl ex8 (by rw [hml]; decide) rfl rfl ?_
      refine z_goto (tgt := 10) X dX11_costOfStay_57 (by decide) ?_
      refine zz.pick (lo' := [(0, .ref (ad 10 v0.toNatClampNeg)), (1, .int v1), (2, .int v2), (3, .int x7), (4, .int x8)]) [0, 1, 2, 3, 4] rfl ?_
      exact ih h11 fv0 h
def fc_costOfStay (V : Rho) (L : Lst) (N : Cnt) (a1 : Int32) (a2 : Int32) (a3 : Int32) : Option (Int32) := (some ((a2 - (a2 - a2 / 100 * 100)))).bind fun x1 => fc_costOfStay_10 FU V L N a1 a2 a3 0 x1
set_option maxRecDepth 100000 in
set_option maxHeartbeats 4000000 in
theorem bc_costOfStay {p : Program} {l : Launch} {e : Env} {s : State} {m : MethodId} {args : Array Value} {below : List Frame} {meth : Method} {c : Code} {D : va_G} {dA : Nat → ClassId} {A : Nat → Prop} {xs : va_W} {o : Int32} {V : Rho} {L : Lst} {N : Cnt} {ad : Adr} (X : zc p l s m args meth c cX11_costOfStay RX11 D dA A) (hml : c.maxLocals = 7) (hr : meth.sig.returnType = (some .int)) (h11 : 0 < N 11) {a1 : Int32} {a2 : Int32} {a3 : Int32} (va1 : vp_in a1 (N 10)) (h : fc_costOfStay V L N a1 a2 a3 = some o) : zz p l e ({ frames := 10, cells := 0, slots := 0, locals := 420 } : Room) s m args below meth c A (cx D dA A V L N ad xs) 0 0 (MQ below (va_Qi (fun r (w9 : Unit) => r = o ∧ True) (fun (w9 : Unit) t => cx D dA A V L N ad xs t.heap) A) args s 0 0 A) 0 [(0, .ref (ad 10 a1.toNatClampNeg)), (1, .int a2), (2, .int a3)] [] [] := by
  unfold fc_costOfStay at h
  refine z_iconst (v := 0) X dX11_costOfStay_0 (by decide) ?_
  refine z_istore_n (lo' := [(3, .int 0), (0, .ref (ad 10 a1.toNatClampNeg)), (1, .int a2), (2, .int a3)]) X dX11_costOfStay_1 rfl (by rw [hml]; decide) rfl rfl ?_
  refine z_iload_n X dX11_costOfStay_2 rfl rfl ?_
  refine z_iload_n X dX11_costOfStay_3 rfl rfl ?_
  refine z_bipush (v := 100) X dX11_costOfStay_4 (by decide) ?_
  refine z_irem X dX11_costOfStay_6 (by decide) ?_
  refine z_isub X dX11_costOfStay_7 ?_
  obtain ⟨x1, ex1, h⟩ := zb h
  rw [ex1]
  refine z_istore (lo' := [(4, .int x1), (3, .int 0), (0, .ref (ad 10 a1.toNatClampNeg)), (1, .int a2), (2, .int a3)]) X dX11_costOfStay_8 (by rw [hml]; decide) rfl rfl ?_
  refine zz.pick (lo' := [(0, .ref (ad 10 a1.toNatClampNeg)), (1, .int a2), (2, .int a3), (3, .int 0), (4, .int x1)]) [0, 1, 2, 3, 4] rfl ?_
  exact bc_costOfStay_10 X hml hr FU h11 va1 h
theorem cc_costOfStay (l : Launch) {D : va_G} {dA : Nat → ClassId} {A : Nat → Prop} {n : Nat} (hst : l.stackTraces = false) (hA : ∀ q, n ≤ q → A q) {V : Rho} {L : Lst} {N : Cnt} {ad : Adr} {xs : va_W} (h11 : 0 < N 11) {a1 : Int32} {a2 : Int32} {a3 : Int32} (va1 : vp_in a1 (N 10)) {o : Int32} (h : fc_costOfStay V L N a1 a2 a3 = some o) : Met l yX11_costOfStay (.code yX11_costOfStay cX11_costOfStay 7 (some .int) :: gT) ({ frames := 10, cells := 0, slots := 0, locals := 420 } : Room) (va_Pc [.ref (ad 10 a1.toNatClampNeg), .int a2, .int a3] (zB D dA A n (cx D dA A V L N ad xs))) (va_Qi (fun r (w9 : Unit) => r = o ∧ True) (fun (w9 : Unit) t => cx D dA A V L N ad xs t.heap) A) 0 0 A :=
  z_met (by decide) hA hst (Nat.le_of_ble_eq_true rfl) rfl rfl (fun p e s m below meth c X hml hr _ => bc_costOfStay X hml hr h11 va1 h)
-- MeshBiller.ratedByEvents(I)I
def fc_ratedByEvents_98 (k14 : Rho → Lst → Cnt → Int32 → Int32 → Int32 → Option ((Int32) ⊕ Nat)) (V : Rho) (L : Lst) (N : Cnt) (v2 : Int32) (v3 : Int32) (v4 : Int32) : Option ((Int32) ⊕ Nat) := (some (v4 + 1)).bind fun x1 => k14 V L N v2 v3 x1
set_option maxRecDepth 100000 in
set_option maxHeartbeats 4000000 in
theorem bc_ratedByEvents_98 {p : Program} {l : Launch} {e : Env} {s : State} {m : MethodId} {args : Array Value} {below : List Frame} {meth : Method} {c : Code} {D : va_G} {dA : Nat → ClassId} {A : Nat → Prop} {xs : va_W} {o : (Int32) ⊕ Nat} {V : Rho} {L : Lst} {N : Cnt} {ad : Adr} (X : zc p l s m args meth c cX11_ratedByEvents RX11 D dA A) (hml : c.maxLocals = 7) (hr : meth.sig.returnType = (some .int)) (hnil : ∀ x ∈ c.exceptionTable.toList, False) {cells slots : Nat} (hcs : cells + 0 ≤ 1 ∧ slots + 0 ≤ 6) {k14 : Rho → Lst → Cnt → Int32 → Int32 → Int32 → Option ((Int32) ⊕ Nat)} (hk14 : ∀ (h11 : 0 < N 11) {v2 : Int32} {v3 : Int32} {v4 : Int32} (fv2 : vp_in v2 (N 4)) , k14 V L N v2 v3 v4 = some o → zz p l e ({ frames := 11, cells := 1, slots := 6, locals := 462 } : Room) s m args below meth c A (cx D dA A V L N ad xs) cells slots (vx_MQ below (va_Qi (fun r (w9 : Int32) => r = w9 ∧ o = .inl w9 ∧ True) (fun (w9 : Int32) t => cx D dA A V L N ad xs t.heap) A) (vx_X (fun (u : Nat) => o = .inr u) (fun E u t => E = exn u ∧ cx D dA A V L N ad xs t.heap) A) args s 1 6 A) 14 [(0, .ref (ad 11 0)), (2, .ref (ad 18 v2.toNatClampNeg)), (3, .int v3), (4, .int v4)] [] []) (h11 : 0 < N 11) {v2 : Int32} {v3 : Int32} {v4 : Int32} (fv2 : vp_in v2 (N 4)) (h : fc_ratedByEvents_98 k14 V L N v2 v3 v4 = some o) : zz p l e ({ frames := 11, cells := 1, slots := 6, locals := 462 } : Room) s m args below meth c A (cx D dA A V L N ad xs) cells slots (vx_MQ below (va_Qi (fun r (w9 : Int32) => r = w9 ∧ o = .inl w9 ∧ True) (fun (w9 : Int32) t => cx D dA A V L N ad xs t.heap) A) (vx_X (fun (u : Nat) => o = .inr u) (fun E u t => E = exn u ∧ cx D dA A V L N ad xs t.heap) A) args s 1 6 A) 98 [(0, .ref (ad 11 0)), (2, .ref (ad 18 v2.toNatClampNeg)), (3, .int v3), (4, .int v4)] [] [] := by
  obtain ⟨hcs1, hcs2⟩ := hcs
  unfold fc_ratedByEvents_98 at h
  obtain ⟨x1, ex1, h⟩ := zb h
  refine z_iinc (v := x1) (lo' := [(4, .int x1), (0, .ref (ad 11 0)), (2, .ref (ad 18 v2.toNatClampNeg)), (3, .int v3)]) X dX11_ratedByEvents_98 rfl ex1 (by rw [hml]; decide) rfl rfl ?_
  refine z_goto (tgt := 14) X dX11_ratedByEvents_101 (by decide) ?_
  refine zz.pick (lo' := [(0, .ref (ad 11 0)), (2, .ref (ad 18 v2.toNatClampNeg)), (3, .int v3), (4, .int x1)]) [0, 2, 3, 4] rfl ?_
  exact hk14 h11 fv2 h
def fc_ratedByEvents_75 (k14 : Rho → Lst → Cnt → Int32 → Int32 → Int32 → Option ((Int32) ⊕ Nat)) (V : Rho) (L : Lst) (N : Cnt) (v2 : Int32) (v3 : Int32) (v4 : Int32) (v5 : Int32) (s0 : Int32) : Option ((Int32) ⊕ Nat) := (fc_costOfStay V L N (V 41 (V 62 v5.toNatClampNeg).toNatClampNeg) (V 61 v5.toNatClampNeg) s0).bind fun o3 => (some ((v3 + o3))).bind fun x4 => fc_ratedByEvents_98 k14 V L N v2 x4 v4
set_option maxRecDepth 100000 in
set_option maxHeartbeats 4000000 in
theorem bc_ratedByEvents_75 {p : Program} {l : Launch} {e : Env} {s : State} {m : MethodId} {args : Array Value} {below : List Frame} {meth : Method} {c : Code} {D : va_G} {dA : Nat → ClassId} {A : Nat → Prop} {xs : va_W} {o : (Int32) ⊕ Nat} {V : Rho} {L : Lst} {N : Cnt} {ad : Adr} (X : zc p l s m args meth c cX11_ratedByEvents RX11 D dA A) (hml : c.maxLocals = 7) (hr : meth.sig.returnType = (some .int)) (hnil : ∀ x ∈ c.exceptionTable.toList, False) {cells slots : Nat} (hcs : cells + 0 ≤ 1 ∧ slots + 0 ≤ 6) {k14 : Rho → Lst → Cnt → Int32 → Int32 → Int32 → Option ((Int32) ⊕ Nat)} (hk14 : ∀ (h11 : 0 < N 11) {v2 : Int32} {v3 : Int32} {v4 : Int32} (fv2 : vp_in v2 (N 4)) , k14 V L N v2 v3 v4 = some o → zz p l e ({ frames := 11, cells := 1, slots := 6, locals := 462 } : Room) s m args below meth c A (cx D dA A V L N ad xs) cells slots (vx_MQ below (va_Qi (fun r (w9 : Int32) => r = w9 ∧ o = .inl w9 ∧ True) (fun (w9 : Int32) t => cx D dA A V L N ad xs t.heap) A) (vx_X (fun (u : Nat) => o = .inr u) (fun E u t => E = exn u ∧ cx D dA A V L N ad xs t.heap) A) args s 1 6 A) 14 [(0, .ref (ad 11 0)), (2, .ref (ad 18 v2.toNatClampNeg)), (3, .int v3), (4, .int v4)] [] []) (h11 : 0 < N 11) {v2 : Int32} {v3 : Int32} {v4 : Int32} {v5 : Int32} {s0 : Int32} (fv2 : vp_in v2 (N 4)) (fv5 : vp_in v5 (N 3)) (h : fc_ratedByEvents_75 k14 V L N v2 v3 v4 v5 s0 = some o) : zz p l e ({ frames := 11, cells := 1, slots := 6, locals := 462 } : Room) s m args below meth c A (cx D dA A V L N ad xs) cells slots (vx_MQ below (va_Qi (fun r (w9 : Int32) => r = w9 ∧ o = .inl w9 ∧ True) (fun (w9 : Int32) t => cx D dA A V L N ad xs t.heap) A) (vx_X (fun (u : Nat) => o = .inr u) (fun E u t => E = exn u ∧ cx D dA A V L N ad xs t.heap) A) args s 1 6 A) 75 [(0, .ref (ad 11 0)), (2, .ref (ad 18 v2.toNatClampNeg)), (3, .int v3), (4, .int v4), (5, .ref (ad 3 v5.toNatClampNeg))] [] [.int s0] := by
  obtain ⟨hcs1, hcs2⟩ := hcs
  unfold fc_ratedByEvents_75 at h
  refine z_istore (lo' := [(6, .int s0), (0, .ref (ad 11 0)), (2, .ref (ad 18 v2.toNatClampNeg)), (3, .int v3), (4, .int v4), (5, .ref (ad 3 v5.toNatClampNeg))]) X dX11_ratedByEvents_75 (by rw [hml]; decide) rfl rfl ?_
  refine z_iload_n X dX11_ratedByEvents_77 rfl rfl ?_
  refine z_aload X dX11_ratedByEvents_78 rfl ?_
  refine c_get X 3 2 (v := .ref (ad 2 (V 62 v5.toNatClampNeg).toNatClampNeg)) rx3_ws rfl rfl rfl (vp_lt fv5) g_994 rfl dX11_ratedByEvents_80 ?_
  refine zz.pre (fun H hG => cx_fact (k := 3) (i := v5.toNatClampNeg) (f := 2) rfl (vp_lt fv5) rfl hG) (fun (p1 : vp_in (V 62 v5.toNatClampNeg) (N 2)) => ?_)
  refine c_get X 2 1 (v := .ref (ad 10 (V 41 (V 62 v5.toNatClampNeg).toNatClampNeg).toNatClampNeg)) rx2_ws rfl rfl rfl (vp_lt p1) g_201 rfl dX11_ratedByEvents_83 ?_
  refine zz.pre (fun H hG => cx_fact (k := 2) (i := (V 62 v5.toNatClampNeg).toNatClampNeg) (f := 1) rfl (vp_lt p1) rfl hG) (fun (p2 : vp_in (V 41 (V 62 v5.toNatClampNeg).toNatClampNeg) (N 10)) => ?_)
  refine z_aload X dX11_ratedByEvents_86 rfl ?_
  refine c_get X 3 1 (v := .int (V 61 v5.toNatClampNeg)) rx3_ws rfl rfl rfl (vp_lt fv5) g_991 rfl dX11_ratedByEvents_88 ?_
  refine z_iload X dX11_ratedByEvents_91 rfl ?_
  obtain ⟨o3, co3, h⟩ := zb2 h
  refine z_callSi (As := [.ref (ad 10 (V 41 (V 62 v5.toNatClampNeg).toNatClampNeg).toNatClampNeg), .int (V 61 v5.toNatClampNeg), .int s0]) (rest := [.int v3]) (nA := 3) (mc := 0) (ms := 0) (rm := ({ frames := 10, cells := 0, slots := 0, locals := 420 } : Room)) (r0 := o3) (pu := fun (_ : Unit) => True) (G1 := fun _ => cx D dA A V L N ad xs) X (cc_costOfStay l X.2.2.2.2.2.2.2.2 X.2.2.2.2.2.2.1 h11 p2 co3) g_1218 g_1219 g_1 g_1220 hd_yX11_costOfStay ⟨rfl, rfl, Nat.le_of_ble_eq_true rfl, Nat.le_of_ble_eq_true rfl⟩ rfl rfl (Nat.le_of_ble_eq_true rfl) dX11_ratedByEvents_93 ⟨by show _ ≤ 1; omega, by show _ ≤ 6; omega⟩ (fun _ _ => ?_)
  refine z_iadd X dX11_ratedByEvents_96 ?_
  obtain ⟨x4, ex4, h⟩ := zb h
  rw [ex4]
  refine z_istore_n (lo' := [(3, .int x4), (6, .int s0), (0, .ref (ad 11 0)), (2, .ref (ad 18 v2.toNatClampNeg)), (4, .int v4), (5, .ref (ad 3 v5.toNatClampNeg))]) X dX11_ratedByEvents_97 rfl (by rw [hml]; decide) rfl rfl ?_
  refine zz.pick (lo' := [(0, .ref (ad 11 0)), (2, .ref (ad 18 v2.toNatClampNeg)), (3, .int x4), (4, .int v4)]) [0, 2, 3, 4] rfl ?_
  exact bc_ratedByEvents_98 X hml hr hnil ⟨by omega, by omega⟩ hk14 h11 fv2 h
def fc_ratedByEvents_14 : Nat → Rho → Lst → Cnt → Int32 → Int32 → Int32 → Option ((Int32) ⊕ Nat)
  | 0, _, _, _, _, _, _ => none
  | n + 1, V, L, N, v2, v3, v4 => (some (nI (L 18 v2.toNatClampNeg).length)).bind fun x1 => (if x1 ≤ v4 then some (.inl v3)
  else if v4 < 0 ∨ (L 18 v2.toNatClampNeg).length ≤ (v4).toNatClampNeg then none else (some ((L 18 v2.toNatClampNeg).getD v4.toNatClampNeg 0)).bind fun x3 => (if (V 60 x3.toNatClampNeg) = 2 then fc_ratedByEvents_98 (fc_ratedByEvents_14 n) V L N v2 v3 v4
  else (some (nI (L 18 v2.toNatClampNeg).length)).bind fun x5 => (if x5 ≤ (v4 + 1) then fc_ratedByEvents_75 (fc_ratedByEvents_14 n) V L N v2 v3 v4 x3 (V 228 0)
  else if (v4 + 1) < 0 ∨ (L 18 v2.toNatClampNeg).length ≤ ((v4 + 1)).toNatClampNeg then none else (some ((L 18 v2.toNatClampNeg).getD (v4 + 1).toNatClampNeg 0)).bind fun x7 => fc_ratedByEvents_75 (fc_ratedByEvents_14 n) V L N v2 v3 v4 x3 (V 61 x7.toNatClampNeg))))
set_option maxRecDepth 100000 in
set_option maxHeartbeats 4000000 in
theorem bc_ratedByEvents_14 {p : Program} {l : Launch} {e : Env} {s : State} {m : MethodId} {args : Array Value} {below : List Frame} {meth : Method} {c : Code} {D : va_G} {dA : Nat → ClassId} {A : Nat → Prop} {xs : va_W} {o : (Int32) ⊕ Nat} {V : Rho} {L : Lst} {N : Cnt} {ad : Adr} (X : zc p l s m args meth c cX11_ratedByEvents RX11 D dA A) (hml : c.maxLocals = 7) (hr : meth.sig.returnType = (some .int)) (hnil : ∀ x ∈ c.exceptionTable.toList, False) {cells slots : Nat} (hcs : cells + 0 ≤ 1 ∧ slots + 0 ≤ 6) : ∀ (n : Nat) (h11 : 0 < N 11) {v2 : Int32} {v3 : Int32} {v4 : Int32} (fv2 : vp_in v2 (N 4)) , fc_ratedByEvents_14 n V L N v2 v3 v4 = some o → zz p l e ({ frames := 11, cells := 1, slots := 6, locals := 462 } : Room) s m args below meth c A (cx D dA A V L N ad xs) cells slots (vx_MQ below (va_Qi (fun r (w9 : Int32) => r = w9 ∧ o = .inl w9 ∧ True) (fun (w9 : Int32) t => cx D dA A V L N ad xs t.heap) A) (vx_X (fun (u : Nat) => o = .inr u) (fun E u t => E = exn u ∧ cx D dA A V L N ad xs t.heap) A) args s 1 6 A) 14 [(0, .ref (ad 11 0)), (2, .ref (ad 18 v2.toNatClampNeg)), (3, .int v3), (4, .int v4)] [] [] := by
  obtain ⟨hcs1, hcs2⟩ := hcs
  intro n
  induction n with
  | zero => intro  h11 v2 v3 v4 fv2 h; exact (nomatch (show none = some o from h))
  | succ n ih =>
    intro  h11 v2 v3 v4 fv2 h
    rw [fc_ratedByEvents_14] at h
    refine z_iload X dX11_ratedByEvents_14 rfl ?_
    refine z_aload_n X dX11_ratedByEvents_16 rfl rfl ?_
    obtain ⟨x1, ex1, h⟩ := zb h
    refine z_callVi (As := []) (rest := [.int v4]) (nA := 0) (mc := 0) (ms := 0) (rm := ({ frames := 8, cells := 0, slots := 0, locals := 336 } : Room)) (r0 := (nI (L 18 v2.toNatClampNeg).length)) (pu := fun (_ : Unit) => True) (G1 := fun _ => cx D dA A V L N ad xs) X (cl_size l X.2.2.2.2.2.2.2.2 X.2.2.2.2.2.2.1 (k := 18) (i := v2.toNatClampNeg) rfl rfl (vp_lt fv2)) g_308 g_309 g_310 g_4 g_311 hd_yJx4a65c_size_8abf5 ⟨rfl, rfl, Nat.le_of_ble_eq_true rfl, Nat.le_of_ble_eq_true rfl⟩ rfl (fun _ hG => cx_recvL X (k := 18) rfl rfl (vp_lt fv2) hG) rfl (Nat.le_of_ble_eq_true rfl) dX11_ratedByEvents_17 ⟨by show _ ≤ 1; omega, by show _ ≤ 6; omega⟩ (fun _ _ => ?_)
    rw [ex1]
    refine z_icmp_ge (tgt := 104) X dX11_ratedByEvents_20 (by decide) (fun q => ?_) (fun q => ?_)
    · have h := zp q h
      refine z_iload_n X dX11_ratedByEvents_104 rfl rfl ?_
      obtain rfl := Option.some.inj h
      refine zx_ret ?_
      refine zz.widen (k := 1) (n := 6) (by omega) (by omega) ?_
      exact z_iret X hr rfl (fun t hG hF _ => ⟨⟨_, _, rfl, ⟨rfl, ⟨rfl, trivial⟩⟩, hG⟩, hF⟩) dX11_ratedByEvents_105
    · have h := zn q h
      refine z_aload_n X dX11_ratedByEvents_23 rfl rfl ?_
      refine z_iload X dX11_ratedByEvents_24 rfl ?_
      obtain ⟨q2, h⟩ := zg h
      obtain ⟨x3, ex3, h⟩ := zb h
      refine z_callVq (As := [.int v4]) (rest := []) (nA := 1) (mc := 0) (ms := 0) (rm := ({ frames := 8, cells := 0, slots := 0, locals := 336 } : Room)) (ro := fun _ => some (ad 3 ((L 18 v2.toNatClampNeg).getD v4.toNatClampNeg 0).toNatClampNeg)) (pu := fun (_ : Unit) => True) (G1 := fun _ => cx D dA A V L N ad xs) X (cl_get l X.2.2.2.2.2.2.2.2 X.2.2.2.2.2.2.1 (k := 18) (i := v2.toNatClampNeg) (x := v4) rfl rfl (vp_lt fv2) q2) g_852 g_554 g_555 g_4 g_556 hd_yJx4a65c_get_915e3 ⟨rfl, rfl, Nat.le_of_ble_eq_true rfl, Nat.le_of_ble_eq_true rfl⟩ rfl (fun _ hG => cx_recvL X (k := 18) rfl rfl (vp_lt fv2) hG) rfl (Nat.le_of_ble_eq_true rfl) dX11_ratedByEvents_26 ⟨by show _ ≤ 1; omega, by show _ ≤ 6; omega⟩ (fun _ _ => ?_)
      rw [ex3]
      refine zz.pre (fun H hG => cx_elt (k := 18) rfl rfl (vp_lt fv2) q2 hG) (fun p4 => ?_)
      rw [ex3] at p4
      refine c_cast X (k := 3) (n := 3) rfl rfl (vp_lt p4) g_1217 dX11_ratedByEvents_29 ?_
      refine z_astore (lo' := [(5, .ref (ad 3 x3.toNatClampNeg)), (0, .ref (ad 11 0)), (2, .ref (ad 18 v2.toNatClampNeg)), (3, .int v3), (4, .int v4)]) X dX11_ratedByEvents_32 (by rw [hml]; decide) rfl rfl ?_
      refine z_aload X dX11_ratedByEvents_34 rfl ?_
      refine c_get X 3 0 (v := .int (V 60 x3.toNatClampNeg)) rx3_ws rfl rfl rfl (vp_lt p4) g_988 rfl dX11_ratedByEvents_36 ?_
      refine z_iconst (v := 2) X dX11_ratedByEvents_39 (by decide) ?_
      refine z_icmp_eq (tgt := 98) X dX11_ratedByEvents_40 (by decide) (fun q => ?_) (fun q => ?_)
      · have h := zp q h
        refine zz.pick (lo' := [(0, .ref (ad 11 0)), (2, .ref (ad 18 v2.toNatClampNeg)), (3, .int v3), (4, .int v4)]) [0, 2, 3, 4] rfl ?_
        exact bc_ratedByEvents_98 X hml hr hnil ⟨by omega, by omega⟩ ih h11 fv2 h
      · have h := zn q h
        refine z_iload X dX11_ratedByEvents_43 rfl ?_
        refine z_iconst (v := 1) X dX11_ratedByEvents_45 (by decide) ?_
        refine z_iadd X dX11_ratedByEvents_46 ?_
        refine z_aload_n X dX11_ratedByEvents_47 rfl rfl ?_
        obtain ⟨x5, ex5, h⟩ := zb h
        refine z_callVi (As := []) (rest := [.int (v4 + 1)]) (nA := 0) (mc := 0) (ms := 0) (rm := ({ frames := 8, cells := 0, slots := 0, locals := 336 } : Room)) (r0 := (nI (L 18 v2.toNatClampNeg).length)) (pu := fun (_ : Unit) => True) (G1 := fun _ => cx D dA A V L N ad xs) X (cl_size l X.2.2.2.2.2.2.2.2 X.2.2.2.2.2.2.1 (k := 18) (i := v2.toNatClampNeg) rfl rfl (vp_lt fv2)) g_308 g_309 g_310 g_4 g_311 hd_yJx4a65c_size_8abf5 ⟨rfl, rfl, Nat.le_of_ble_eq_true rfl, Nat.le_of_ble_eq_true rfl⟩ rfl (fun _ hG => cx_recvL X (k := 18) rfl rfl (vp_lt fv2) hG) rfl (Nat.le_of_ble_eq_true rfl) dX11_ratedByEvents_48 ⟨by show _ ≤ 1; omega, by show _ ≤ 6; omega⟩ (fun _ _ => ?_)
        rw [ex5]
        refine z_icmp_ge (tgt := 71) X dX11_ratedByEvents_51 (by decide) (fun q => ?_) (fun q => ?_)
        · have h := zp q h
          refine z_aload_n X dX11_ratedByEvents_71 rfl rfl ?_
          refine c_get X 11 8 (v := .int (V 228 0)) rx11_ws rfl rfl rfl h11 g_280 rfl dX11_ratedByEvents_72 ?_
          refine zz.pick (lo' := [(0, .ref (ad 11 0)), (2, .ref (ad 18 v2.toNatClampNeg)), (3, .int v3), (4, .int v4), (5, .ref (ad 3 x3.toNatClampNeg))]) [0, 2, 3, 4, 5] rfl ?_
          exact bc_ratedByEvents_75 X hml hr hnil ⟨by omega, by omega⟩ ih h11 fv2 p4 h
        · have h := zn q h
          refine z_aload_n X dX11_ratedByEvents_54 rfl rfl ?_
          refine z_iload X dX11_ratedByEvents_55 rfl ?_
          refine z_iconst (v := 1) X dX11_ratedByEvents_57 (by decide) ?_
          refine z_iadd X dX11_ratedByEvents_58 ?_
          obtain ⟨q6, h⟩ := zg h
          obtain ⟨x7, ex7, h⟩ := zb h
          refine z_callVq (As := [.int (v4 + 1)]) (rest := []) (nA := 1) (mc := 0) (ms := 0) (rm := ({ frames := 8, cells := 0, slots := 0, locals := 336 } : Room)) (ro := fun _ => some (ad 3 ((L 18 v2.toNatClampNeg).getD (v4 + 1).toNatClampNeg 0).toNatClampNeg)) (pu := fun (_ : Unit) => True) (G1 := fun _ => cx D dA A V L N ad xs) X (cl_get l X.2.2.2.2.2.2.2.2 X.2.2.2.2.2.2.1 (k := 18) (i := v2.toNatClampNeg) (x := (v4 + 1)) rfl rfl (vp_lt fv2) q6) g_852 g_554 g_555 g_4 g_556 hd_yJx4a65c_get_915e3 ⟨rfl, rfl, Nat.le_of_ble_eq_true rfl, Nat.le_of_ble_eq_true rfl⟩ rfl (fun _ hG => cx_recvL X (k := 18) rfl rfl (vp_lt fv2) hG) rfl (Nat.le_of_ble_eq_true rfl) dX11_ratedByEvents_59 ⟨by show _ ≤ 1; omega, by show _ ≤ 6; omega⟩ (fun _ _ => ?_)
          rw [ex7]
          refine zz.pre (fun H hG => cx_elt (k := 18) rfl rfl (vp_lt fv2) q6 hG) (fun p8 => ?_)
          rw [ex7] at p8
          refine c_cast X (k := 3) (n := 3) rfl rfl (vp_lt p8) g_1217 dX11_ratedByEvents_62 ?_
          refine c_get X 3 1 (v := .int (V 61 x7.toNatClampNeg)) rx3_ws rfl rfl rfl (vp_lt p8) g_991 rfl dX11_ratedByEvents_65 ?_
          refine z_goto (tgt := 75) X dX11_ratedByEvents_68 (by decide) ?_
          refine zz.pick (lo' := [(0, .ref (ad 11 0)), (2, .ref (ad 18 v2.toNatClampNeg)), (3, .int v3), (4, .int v4), (5, .ref (ad 3 x3.toNatClampNeg))]) [0, 2, 3, 4, 5] rfl ?_
          exact bc_ratedByEvents_75 X hml hr hnil ⟨by omega, by omega⟩ ih h11 fv2 p4 h
def fc_ratedByEvents (V : Rho) (L : Lst) (N : Cnt) (a1 : Int32) : Option ((Int32) ⊕ Nat) := (fc_legAt V L N a1).bind fun o1 => Sum.elim (fun u2 => fc_ratedByEvents_14 FU V L N u2 0 0) (fun e9 => some (.inr e9)) o1
set_option maxRecDepth 100000 in
set_option maxHeartbeats 4000000 in
theorem bc_ratedByEvents {p : Program} {l : Launch} {e : Env} {s : State} {m : MethodId} {args : Array Value} {below : List Frame} {meth : Method} {c : Code} {D : va_G} {dA : Nat → ClassId} {A : Nat → Prop} {xs : va_W} {o : (Int32) ⊕ Nat} {V : Rho} {L : Lst} {N : Cnt} {ad : Adr} (X : zc p l s m args meth c cX11_ratedByEvents RX11 D dA A) (hml : c.maxLocals = 7) (hr : meth.sig.returnType = (some .int)) (hnil : ∀ x ∈ c.exceptionTable.toList, False) {cells slots : Nat} (hcs : cells + 1 ≤ 1 ∧ slots + 6 ≤ 6) (h11 : 0 < N 11) {a1 : Int32} (h : fc_ratedByEvents V L N a1 = some o) : zz p l e ({ frames := 11, cells := 1, slots := 6, locals := 462 } : Room) s m args below meth c A (cx D dA A V L N ad xs) cells slots (vx_MQ below (va_Qi (fun r (w9 : Int32) => r = w9 ∧ o = .inl w9 ∧ True) (fun (w9 : Int32) t => cx D dA A V L N ad xs t.heap) A) (vx_X (fun (u : Nat) => o = .inr u) (fun E u t => E = exn u ∧ cx D dA A V L N ad xs t.heap) A) args s 1 6 A) 0 [(0, .ref (ad 11 0)), (1, .int a1)] [] [] := by
  obtain ⟨hcs1, hcs2⟩ := hcs
  unfold fc_ratedByEvents at h
  refine z_aload_n X dX11_ratedByEvents_0 rfl rfl ?_
  refine z_iload_n X dX11_ratedByEvents_1 rfl rfl ?_
  obtain ⟨o1, co1, h⟩ := zb2 h
  refine z_xVq (As := [.int a1]) (rest := []) (nA := 1) (mc := 1) (ms := 6) (rm := ({ frames := 9, cells := 1, slots := 6, locals := 378 } : Room)) (S := Int32) (r0 := fun u => some (ad 4 u.toNatClampNeg)) (pu := fun u => o1 = .inl u ∧ vp_in u (N 4)) (G1 := fun u => cx D dA A V L N ad xs) X hnil (cc_legAt l X.2.2.2.2.2.2.2.2 X.2.2.2.2.2.2.1 h11 co1) g_1184 g_1186 gs_24 g_1 g_1187 hd_yX11_legAt ⟨rfl, rfl, Nat.le_of_ble_eq_true rfl, Nat.le_of_ble_eq_true rfl⟩ rfl (fun _ hG => cx_recv X (k := 11) (n := 9) rfl rfl h11 hG)  rfl (Nat.le_of_ble_eq_true rfl) dX11_ratedByEvents_2 ⟨by show _ ≤ 1; omega, by show _ ≤ 6; omega⟩ ⟨by omega, by omega⟩ (fun u hu t hG hF => ?_) (fun u2 hu => ?_)
  · rw [hu] at h
    obtain rfl := Option.some.inj h
    exact ⟨u, rfl, ⟨rfl, hG⟩, hF⟩
  · rw [hu.1] at h
    have p3 := hu.2
    simp only [Sum.elim_inl] at h
    refine c_get X 4 6 (v := .ref (ad 18 u2.toNatClampNeg)) rx4_ws rfl rfl rfl (vp_lt p3) g_938 rfl dX11_ratedByEvents_5 ?_
    refine z_astore_n (lo' := [(2, .ref (ad 18 u2.toNatClampNeg)), (0, .ref (ad 11 0)), (1, .int a1)]) X dX11_ratedByEvents_8 rfl (by rw [hml]; decide) rfl rfl ?_
    refine z_iconst (v := 0) X dX11_ratedByEvents_9 (by decide) ?_
    refine z_istore_n (lo' := [(3, .int 0), (2, .ref (ad 18 u2.toNatClampNeg)), (0, .ref (ad 11 0)), (1, .int a1)]) X dX11_ratedByEvents_10 rfl (by rw [hml]; decide) rfl rfl ?_
    refine z_iconst (v := 0) X dX11_ratedByEvents_11 (by decide) ?_
    refine z_istore (lo' := [(4, .int 0), (3, .int 0), (2, .ref (ad 18 u2.toNatClampNeg)), (0, .ref (ad 11 0)), (1, .int a1)]) X dX11_ratedByEvents_12 (by rw [hml]; decide) rfl rfl ?_
    refine zz.pick (lo' := [(0, .ref (ad 11 0)), (2, .ref (ad 18 u2.toNatClampNeg)), (3, .int 0), (4, .int 0)]) [0, 2, 3, 4] rfl ?_
    exact bc_ratedByEvents_14 X hml hr hnil ⟨by omega, by omega⟩ FU h11 p3 h
theorem cc_ratedByEvents (l : Launch) {D : va_G} {dA : Nat → ClassId} {A : Nat → Prop} {n : Nat} (hst : l.stackTraces = false) (hA : ∀ q, n ≤ q → A q) {V : Rho} {L : Lst} {N : Cnt} {ad : Adr} {xs : va_W} (h11 : 0 < N 11) {a1 : Int32} {o : (Int32) ⊕ Nat} (h : fc_ratedByEvents V L N a1 = some o) : vx_Met l yX11_ratedByEvents (.code yX11_ratedByEvents cX11_ratedByEvents 7 (some .int) :: gT) ({ frames := 11, cells := 1, slots := 6, locals := 462 } : Room) (va_Pc [.ref (ad 11 0), .int a1] (zB D dA A n (cx D dA A V L N ad xs))) (va_Qi (fun r (w9 : Int32) => r = w9 ∧ o = .inl w9 ∧ True) (fun (w9 : Int32) t => cx D dA A V L N ad xs t.heap) A) (vx_X (fun (u : Nat) => o = .inr u) (fun E u t => E = exn u ∧ cx D dA A V L N ad xs t.heap) A) 1 6 A :=
  zx_met (by decide) hA hst (Nat.le_of_ble_eq_true rfl) rfl rfl (fun p e s m below meth c X hml hr hnil => bc_ratedByEvents X hml hr hnil ⟨by omega, by omega⟩ h11 h)
-- MeshBiller.tag(I)I
def fc_tag (V : Rho) (L : Lst) (N : Cnt) (a1 : Int32) : Option ((Int32) ⊕ Nat) := (fc_legAt V L N a1).bind fun o1 => Sum.elim (fun u2 => some (.inl (V 91 u2.toNatClampNeg))) (fun e9 => some (.inr e9)) o1
set_option maxRecDepth 100000 in
set_option maxHeartbeats 4000000 in
theorem bc_tag {p : Program} {l : Launch} {e : Env} {s : State} {m : MethodId} {args : Array Value} {below : List Frame} {meth : Method} {c : Code} {D : va_G} {dA : Nat → ClassId} {A : Nat → Prop} {xs : va_W} {o : (Int32) ⊕ Nat} {V : Rho} {L : Lst} {N : Cnt} {ad : Adr} (X : zc p l s m args meth c cX11_tag RX11 D dA A) (hml : c.maxLocals = 2) (hr : meth.sig.returnType = (some .int)) (hnil : ∀ x ∈ c.exceptionTable.toList, False) {cells slots : Nat} (hcs : cells + 1 ≤ 1 ∧ slots + 6 ≤ 6) (h11 : 0 < N 11) {a1 : Int32} (h : fc_tag V L N a1 = some o) : zz p l e ({ frames := 10, cells := 1, slots := 6, locals := 420 } : Room) s m args below meth c A (cx D dA A V L N ad xs) cells slots (vx_MQ below (va_Qi (fun r (w9 : Int32) => r = w9 ∧ o = .inl w9 ∧ True) (fun (w9 : Int32) t => cx D dA A V L N ad xs t.heap) A) (vx_X (fun (u : Nat) => o = .inr u) (fun E u t => E = exn u ∧ cx D dA A V L N ad xs t.heap) A) args s 1 6 A) 0 [(0, .ref (ad 11 0)), (1, .int a1)] [] [] := by
  obtain ⟨hcs1, hcs2⟩ := hcs
  unfold fc_tag at h
  refine z_aload_n X dX11_tag_0 rfl rfl ?_
  refine z_iload_n X dX11_tag_1 rfl rfl ?_
  obtain ⟨o1, co1, h⟩ := zb2 h
  refine z_xVq (As := [.int a1]) (rest := []) (nA := 1) (mc := 1) (ms := 6) (rm := ({ frames := 9, cells := 1, slots := 6, locals := 378 } : Room)) (S := Int32) (r0 := fun u => some (ad 4 u.toNatClampNeg)) (pu := fun u => o1 = .inl u ∧ vp_in u (N 4)) (G1 := fun u => cx D dA A V L N ad xs) X hnil (cc_legAt l X.2.2.2.2.2.2.2.2 X.2.2.2.2.2.2.1 h11 co1) g_1184 g_1186 gs_24 g_1 g_1187 hd_yX11_legAt ⟨rfl, rfl, Nat.le_of_ble_eq_true rfl, Nat.le_of_ble_eq_true rfl⟩ rfl (fun _ hG => cx_recv X (k := 11) (n := 9) rfl rfl h11 hG)  rfl (Nat.le_of_ble_eq_true rfl) dX11_tag_2 ⟨by show _ ≤ 1; omega, by show _ ≤ 6; omega⟩ ⟨by omega, by omega⟩ (fun u hu t hG hF => ?_) (fun u2 hu => ?_)
  · rw [hu] at h
    obtain rfl := Option.some.inj h
    exact ⟨u, rfl, ⟨rfl, hG⟩, hF⟩
  · rw [hu.1] at h
    have p3 := hu.2
    simp only [Sum.elim_inl] at h
    refine c_get X 4 11 (v := .int (V 91 u2.toNatClampNeg)) rx4_ws rfl rfl rfl (vp_lt p3) g_949 rfl dX11_tag_5 ?_
    obtain rfl := Option.some.inj h
    refine zx_ret ?_
    refine zz.widen (k := 1) (n := 6) (by omega) (by omega) ?_
    exact z_iret X hr rfl (fun t hG hF _ => ⟨⟨_, _, rfl, ⟨rfl, ⟨rfl, trivial⟩⟩, hG⟩, hF⟩) dX11_tag_8
theorem cc_tag (l : Launch) {D : va_G} {dA : Nat → ClassId} {A : Nat → Prop} {n : Nat} (hst : l.stackTraces = false) (hA : ∀ q, n ≤ q → A q) {V : Rho} {L : Lst} {N : Cnt} {ad : Adr} {xs : va_W} (h11 : 0 < N 11) {a1 : Int32} {o : (Int32) ⊕ Nat} (h : fc_tag V L N a1 = some o) : vx_Met l yX11_tag (.code yX11_tag cX11_tag 2 (some .int) :: gT) ({ frames := 10, cells := 1, slots := 6, locals := 420 } : Room) (va_Pc [.ref (ad 11 0), .int a1] (zB D dA A n (cx D dA A V L N ad xs))) (va_Qi (fun r (w9 : Int32) => r = w9 ∧ o = .inl w9 ∧ True) (fun (w9 : Int32) t => cx D dA A V L N ad xs t.heap) A) (vx_X (fun (u : Nat) => o = .inr u) (fun E u t => E = exn u ∧ cx D dA A V L N ad xs t.heap) A) 1 6 A :=
  zx_met (by decide) hA hst (Nat.le_of_ble_eq_true rfl) rfl rfl (fun p e s m below meth c X hml hr hnil => bc_tag X hml hr hnil ⟨by omega, by omega⟩ h11 h)
-- MeshBiller$Leg.computeSeal()I
def fc_Leg_computeSeal_10 : Nat → Rho → Lst → Cnt → Int32 → Int32 → Int32 → Option (Int32)
  | 0, _, _, _, _, _, _ => none
  | n + 1, V, L, N, v0, v1, v2 => (some (nI (L 18 v0.toNatClampNeg).length)).bind fun x1 => (if x1 ≤ v2 then some (v1 ^^^ (((v1 : Int32).toUInt32 >>> ((16 : Int32).toUInt32 &&& Int32.toUInt32 31)).toInt32))
  else if v2 < 0 ∨ (L 18 v0.toNatClampNeg).length ≤ (v2).toNatClampNeg then none else (some ((L 18 v0.toNatClampNeg).getD v2.toNatClampNeg 0)).bind fun x3 => (some (((v1 <<< (5 &&& 31)) ||| (((v1 : Int32).toUInt32 >>> ((27 : Int32).toUInt32 &&& Int32.toUInt32 31)).toInt32)))).bind fun x5 => (some ((x5 + (31 * (V 61 x3.toNatClampNeg))))).bind fun x6 => (some ((x6 ^^^ ((8 * (V 60 x3.toNatClampNeg)) + (V 40 (V 62 x3.toNatClampNeg).toNatClampNeg))))).bind fun x8 => (some (v2 + 1)).bind fun x9 => fc_Leg_computeSeal_10 n V L N v0 x8 x9)
set_option maxRecDepth 100000 in
set_option maxHeartbeats 4000000 in
theorem bc_Leg_computeSeal_10 {p : Program} {l : Launch} {e : Env} {s : State} {m : MethodId} {args : Array Value} {below : List Frame} {meth : Method} {c : Code} {D : va_G} {dA : Nat → ClassId} {A : Nat → Prop} {xs : va_W} {o : Int32} {V : Rho} {L : Lst} {N : Cnt} {ad : Adr} (X : zc p l s m args meth c cX4_computeSeal RX4 D dA A) (hml : c.maxLocals = 4) (hr : meth.sig.returnType = (some .int)) : ∀ (n : Nat) (h11 : 0 < N 11) {v0 : Int32} {v1 : Int32} {v2 : Int32} (fv0 : vp_in v0 (N 4)) , fc_Leg_computeSeal_10 n V L N v0 v1 v2 = some o → zz p l e ({ frames := 9, cells := 0, slots := 0, locals := 378 } : Room) s m args below meth c A (cx D dA A V L N ad xs) 0 0 (MQ below (va_Qi (fun r (w9 : Unit) => r = o ∧ True) (fun (w9 : Unit) t => cx D dA A V L N ad xs t.heap) A) args s 0 0 A) 10 [(0, .ref (ad 4 v0.toNatClampNeg)), (1, .int v1), (2, .int v2)] [] [] := by
  intro n
  induction n with
  | zero => intro  h11 v0 v1 v2 fv0 h; exact (nomatch (show none = some o from h))
  | succ n ih =>
    intro  h11 v0 v1 v2 fv0 h
    rw [fc_Leg_computeSeal_10] at h
    refine z_iload_n X dX4_computeSeal_10 rfl rfl ?_
    refine z_aload_n X dX4_computeSeal_11 rfl rfl ?_
    refine c_get X 4 6 (v := .ref (ad 18 v0.toNatClampNeg)) rx4_ws rfl rfl rfl (vp_lt fv0) g_937 rfl dX4_computeSeal_12 ?_
    obtain ⟨x1, ex1, h⟩ := zb h
    refine z_callVi (As := []) (rest := [.int v2]) (nA := 0) (mc := 0) (ms := 0) (rm := ({ frames := 8, cells := 0, slots := 0, locals := 336 } : Room)) (r0 := (nI (L 18 v0.toNatClampNeg).length)) (pu := fun (_ : Unit) => True) (G1 := fun _ => cx D dA A V L N ad xs) X (cl_size l X.2.2.2.2.2.2.2.2 X.2.2.2.2.2.2.1 (k := 18) (i := v0.toNatClampNeg) rfl rfl (vp_lt fv0)) g_979 g_309 g_310 g_4 g_311 hd_yJx4a65c_size_8abf5 ⟨rfl, rfl, Nat.le_of_ble_eq_true rfl, Nat.le_of_ble_eq_true rfl⟩ rfl (fun _ hG => cx_recvL X (k := 18) rfl rfl (vp_lt fv0) hG) rfl (Nat.le_of_ble_eq_true rfl) dX4_computeSeal_15 ⟨Nat.le_refl _, Nat.le_refl _⟩ (fun _ _ => ?_)
    rw [ex1]
    refine z_icmp_ge (tgt := 76) X dX4_computeSeal_18 (by decide) (fun q => ?_) (fun q => ?_)
    · have h := zp q h
      refine z_iload_n X dX4_computeSeal_76 rfl rfl ?_
      refine z_iload_n X dX4_computeSeal_77 rfl rfl ?_
      refine z_bipush (v := 16) X dX4_computeSeal_78 (by decide) ?_
      refine z_iushr X dX4_computeSeal_80 ?_
      refine z_ixor X dX4_computeSeal_81 ?_
      obtain rfl := Option.some.inj h
      exact z_iret X hr rfl (fun t hG hF _ => ⟨⟨_, (), rfl, ⟨rfl, trivial⟩, hG⟩, hF⟩) dX4_computeSeal_82
    · have h := zn q h
      refine z_aload_n X dX4_computeSeal_21 rfl rfl ?_
      refine c_get X 4 6 (v := .ref (ad 18 v0.toNatClampNeg)) rx4_ws rfl rfl rfl (vp_lt fv0) g_937 rfl dX4_computeSeal_22 ?_
      refine z_iload_n X dX4_computeSeal_25 rfl rfl ?_
      obtain ⟨q2, h⟩ := zg h
      obtain ⟨x3, ex3, h⟩ := zb h
      refine z_callVq (As := [.int v2]) (rest := []) (nA := 1) (mc := 0) (ms := 0) (rm := ({ frames := 8, cells := 0, slots := 0, locals := 336 } : Room)) (ro := fun _ => some (ad 3 ((L 18 v0.toNatClampNeg).getD v2.toNatClampNeg 0).toNatClampNeg)) (pu := fun (_ : Unit) => True) (G1 := fun _ => cx D dA A V L N ad xs) X (cl_get l X.2.2.2.2.2.2.2.2 X.2.2.2.2.2.2.1 (k := 18) (i := v0.toNatClampNeg) (x := v2) rfl rfl (vp_lt fv0) q2) g_1247 g_554 g_555 g_4 g_556 hd_yJx4a65c_get_915e3 ⟨rfl, rfl, Nat.le_of_ble_eq_true rfl, Nat.le_of_ble_eq_true rfl⟩ rfl (fun _ hG => cx_recvL X (k := 18) rfl rfl (vp_lt fv0) hG) rfl (Nat.le_of_ble_eq_true rfl) dX4_computeSeal_26 ⟨Nat.le_refl _, Nat.le_refl _⟩ (fun _ _ => ?_)
      rw [ex3]
      refine zz.pre (fun H hG => cx_elt (k := 18) rfl rfl (vp_lt fv0) q2 hG) (fun p4 => ?_)
      rw [ex3] at p4
      refine c_cast X (k := 3) (n := 3) rfl rfl (vp_lt p4) g_980 dX4_computeSeal_29 ?_
      refine z_astore_n (lo' := [(3, .ref (ad 3 x3.toNatClampNeg)), (0, .ref (ad 4 v0.toNatClampNeg)), (1, .int v1), (2, .int v2)]) X dX4_computeSeal_32 rfl (by rw [hml]; decide) rfl rfl ?_
      refine z_iload_n X dX4_computeSeal_33 rfl rfl ?_
      refine z_iconst (v := 5) X dX4_computeSeal_34 (by decide) ?_
      refine z_ishl X dX4_computeSeal_35 ?_
      refine z_iload_n X dX4_computeSeal_36 rfl rfl ?_
      refine z_bipush (v := 27) X dX4_computeSeal_37 (by decide) ?_
      refine z_iushr X dX4_computeSeal_39 ?_
      refine z_ior X dX4_computeSeal_40 ?_
      obtain ⟨x5, ex5, h⟩ := zb h
      rw [ex5]
      refine z_istore_n (lo' := [(1, .int x5), (3, .ref (ad 3 x3.toNatClampNeg)), (0, .ref (ad 4 v0.toNatClampNeg)), (2, .int v2)]) X dX4_computeSeal_41 rfl (by rw [hml]; decide) rfl rfl ?_
      refine z_iload_n X dX4_computeSeal_42 rfl rfl ?_
      refine z_bipush (v := 31) X dX4_computeSeal_43 (by decide) ?_
      refine z_aload_n X dX4_computeSeal_45 rfl rfl ?_
      refine c_get X 3 1 (v := .int (V 61 x3.toNatClampNeg)) rx3_ws rfl rfl rfl (vp_lt p4) g_990 rfl dX4_computeSeal_46 ?_
      refine z_imul X dX4_computeSeal_49 ?_
      refine z_iadd X dX4_computeSeal_50 ?_
      obtain ⟨x6, ex6, h⟩ := zb h
      rw [ex6]
      refine z_istore_n (lo' := [(1, .int x6), (3, .ref (ad 3 x3.toNatClampNeg)), (0, .ref (ad 4 v0.toNatClampNeg)), (2, .int v2)]) X dX4_computeSeal_51 rfl (by rw [hml]; decide) rfl rfl ?_
      refine z_iload_n X dX4_computeSeal_52 rfl rfl ?_
      refine z_bipush (v := 8) X dX4_computeSeal_53 (by decide) ?_
      refine z_aload_n X dX4_computeSeal_55 rfl rfl ?_
      refine c_get X 3 0 (v := .int (V 60 x3.toNatClampNeg)) rx3_ws rfl rfl rfl (vp_lt p4) g_987 rfl dX4_computeSeal_56 ?_
      refine z_imul X dX4_computeSeal_59 ?_
      refine z_aload_n X dX4_computeSeal_60 rfl rfl ?_
      refine c_get X 3 2 (v := .ref (ad 2 (V 62 x3.toNatClampNeg).toNatClampNeg)) rx3_ws rfl rfl rfl (vp_lt p4) g_993 rfl dX4_computeSeal_61 ?_
      refine zz.pre (fun H hG => cx_fact (k := 3) (i := x3.toNatClampNeg) (f := 2) rfl (vp_lt p4) rfl hG) (fun (p7 : vp_in (V 62 x3.toNatClampNeg) (N 2)) => ?_)
      refine c_get X 2 0 (v := .int (V 40 (V 62 x3.toNatClampNeg).toNatClampNeg)) rx2_ws rfl rfl rfl (vp_lt p7) g_198 rfl dX4_computeSeal_64 ?_
      refine z_iadd X dX4_computeSeal_67 ?_
      refine z_ixor X dX4_computeSeal_68 ?_
      obtain ⟨x8, ex8, h⟩ := zb h
      rw [ex8]
      refine z_istore_n (lo' := [(1, .int x8), (3, .ref (ad 3 x3.toNatClampNeg)), (0, .ref (ad 4 v0.toNatClampNeg)), (2, .int v2)]) X dX4_computeSeal_69 rfl (by rw [hml]; decide) rfl rfl ?_
      obtain ⟨x9, ex9, h⟩ := zb h
      refine z_iinc (v := x9) (lo' := [(2, .int x9), (1, .int x8), (3, .ref (ad 3 x3.toNatClampNeg)), (0, .ref (ad 4 v0.toNatClampNeg))]) X dX4_computeSeal_70 rfl ex9 (by rw [hml]; decide) rfl rfl ?_
      refine z_goto (tgt := 10) X dX4_computeSeal_73 (by decide) ?_
      refine zz.pick (lo' := [(0, .ref (ad 4 v0.toNatClampNeg)), (1, .int x8), (2, .int x9)]) [0, 1, 2] rfl ?_
      exact ih h11 fv0 h
def fc_Leg_computeSeal (V : Rho) (L : Lst) (N : Cnt) (a0 : Int32) : Option (Int32) := (some ((V 100 (V 81 a0.toNatClampNeg).toNatClampNeg))).bind fun x2 => fc_Leg_computeSeal_10 FU V L N a0 x2 0
set_option maxRecDepth 100000 in
set_option maxHeartbeats 4000000 in
theorem bc_Leg_computeSeal {p : Program} {l : Launch} {e : Env} {s : State} {m : MethodId} {args : Array Value} {below : List Frame} {meth : Method} {c : Code} {D : va_G} {dA : Nat → ClassId} {A : Nat → Prop} {xs : va_W} {o : Int32} {V : Rho} {L : Lst} {N : Cnt} {ad : Adr} (X : zc p l s m args meth c cX4_computeSeal RX4 D dA A) (hml : c.maxLocals = 4) (hr : meth.sig.returnType = (some .int)) (h11 : 0 < N 11) {a0 : Int32} (va0 : vp_in a0 (N 4)) (h : fc_Leg_computeSeal V L N a0 = some o) : zz p l e ({ frames := 9, cells := 0, slots := 0, locals := 378 } : Room) s m args below meth c A (cx D dA A V L N ad xs) 0 0 (MQ below (va_Qi (fun r (w9 : Unit) => r = o ∧ True) (fun (w9 : Unit) t => cx D dA A V L N ad xs t.heap) A) args s 0 0 A) 0 [(0, .ref (ad 4 a0.toNatClampNeg))] [] [] := by
  unfold fc_Leg_computeSeal at h
  refine z_aload_n X dX4_computeSeal_0 rfl rfl ?_
  refine c_get X 4 1 (v := .ref (ad 5 (V 81 a0.toNatClampNeg).toNatClampNeg)) rx4_ws rfl rfl rfl (vp_lt va0) g_928 rfl dX4_computeSeal_1 ?_
  refine zz.pre (fun H hG => cx_fact (k := 4) (i := a0.toNatClampNeg) (f := 1) rfl (vp_lt va0) rfl hG) (fun (p1 : vp_in (V 81 a0.toNatClampNeg) (N 5)) => ?_)
  refine c_get X 5 0 (v := .int (V 100 (V 81 a0.toNatClampNeg).toNatClampNeg)) rx5_ws rfl rfl rfl (vp_lt p1) g_245 rfl dX4_computeSeal_4 ?_
  obtain ⟨x2, ex2, h⟩ := zb h
  rw [ex2]
  refine z_istore_n (lo' := [(1, .int x2), (0, .ref (ad 4 a0.toNatClampNeg))]) X dX4_computeSeal_7 rfl (by rw [hml]; decide) rfl rfl ?_
  refine z_iconst (v := 0) X dX4_computeSeal_8 (by decide) ?_
  refine z_istore_n (lo' := [(2, .int 0), (1, .int x2), (0, .ref (ad 4 a0.toNatClampNeg))]) X dX4_computeSeal_9 rfl (by rw [hml]; decide) rfl rfl ?_
  refine zz.pick (lo' := [(0, .ref (ad 4 a0.toNatClampNeg)), (1, .int x2), (2, .int 0)]) [0, 1, 2] rfl ?_
  exact bc_Leg_computeSeal_10 X hml hr FU h11 va0 h
theorem cc_Leg_computeSeal (l : Launch) {D : va_G} {dA : Nat → ClassId} {A : Nat → Prop} {n : Nat} (hst : l.stackTraces = false) (hA : ∀ q, n ≤ q → A q) {V : Rho} {L : Lst} {N : Cnt} {ad : Adr} {xs : va_W} (h11 : 0 < N 11) {a0 : Int32} (va0 : vp_in a0 (N 4)) {o : Int32} (h : fc_Leg_computeSeal V L N a0 = some o) : Met l yX4_computeSeal (.code yX4_computeSeal cX4_computeSeal 4 (some .int) :: gT) ({ frames := 9, cells := 0, slots := 0, locals := 378 } : Room) (va_Pc [.ref (ad 4 a0.toNatClampNeg)] (zB D dA A n (cx D dA A V L N ad xs))) (va_Qi (fun r (w9 : Unit) => r = o ∧ True) (fun (w9 : Unit) t => cx D dA A V L N ad xs t.heap) A) 0 0 A :=
  z_met (by decide) hA hst (Nat.le_of_ble_eq_true rfl) rfl rfl (fun p e s m below meth c X hml hr _ => bc_Leg_computeSeal X hml hr h11 va0 h)
-- MeshBiller.seal(I)I
def fc_seal (V : Rho) (L : Lst) (N : Cnt) (a1 : Int32) : Option ((Int32) ⊕ Nat) := (fc_legAt V L N a1).bind fun o1 => Sum.elim (fun u2 => (fc_Leg_computeSeal V L N u2).bind fun o4 => some (.inl o4)) (fun e9 => some (.inr e9)) o1
set_option maxRecDepth 100000 in
set_option maxHeartbeats 4000000 in
theorem bc_seal {p : Program} {l : Launch} {e : Env} {s : State} {m : MethodId} {args : Array Value} {below : List Frame} {meth : Method} {c : Code} {D : va_G} {dA : Nat → ClassId} {A : Nat → Prop} {xs : va_W} {o : (Int32) ⊕ Nat} {V : Rho} {L : Lst} {N : Cnt} {ad : Adr} (X : zc p l s m args meth c cX11_seal RX11 D dA A) (hml : c.maxLocals = 2) (hr : meth.sig.returnType = (some .int)) (hnil : ∀ x ∈ c.exceptionTable.toList, False) {cells slots : Nat} (hcs : cells + 1 ≤ 1 ∧ slots + 6 ≤ 6) (h11 : 0 < N 11) {a1 : Int32} (h : fc_seal V L N a1 = some o) : zz p l e ({ frames := 10, cells := 1, slots := 6, locals := 420 } : Room) s m args below meth c A (cx D dA A V L N ad xs) cells slots (vx_MQ below (va_Qi (fun r (w9 : Int32) => r = w9 ∧ o = .inl w9 ∧ True) (fun (w9 : Int32) t => cx D dA A V L N ad xs t.heap) A) (vx_X (fun (u : Nat) => o = .inr u) (fun E u t => E = exn u ∧ cx D dA A V L N ad xs t.heap) A) args s 1 6 A) 0 [(0, .ref (ad 11 0)), (1, .int a1)] [] [] := by
  obtain ⟨hcs1, hcs2⟩ := hcs
  unfold fc_seal at h
  refine z_aload_n X dX11_seal_0 rfl rfl ?_
  refine z_iload_n X dX11_seal_1 rfl rfl ?_
  obtain ⟨o1, co1, h⟩ := zb2 h
  refine z_xVq (As := [.int a1]) (rest := []) (nA := 1) (mc := 1) (ms := 6) (rm := ({ frames := 9, cells := 1, slots := 6, locals := 378 } : Room)) (S := Int32) (r0 := fun u => some (ad 4 u.toNatClampNeg)) (pu := fun u => o1 = .inl u ∧ vp_in u (N 4)) (G1 := fun u => cx D dA A V L N ad xs) X hnil (cc_legAt l X.2.2.2.2.2.2.2.2 X.2.2.2.2.2.2.1 h11 co1) g_1184 g_1186 gs_24 g_1 g_1187 hd_yX11_legAt ⟨rfl, rfl, Nat.le_of_ble_eq_true rfl, Nat.le_of_ble_eq_true rfl⟩ rfl (fun _ hG => cx_recv X (k := 11) (n := 9) rfl rfl h11 hG)  rfl (Nat.le_of_ble_eq_true rfl) dX11_seal_2 ⟨by show _ ≤ 1; omega, by show _ ≤ 6; omega⟩ ⟨by omega, by omega⟩ (fun u hu t hG hF => ?_) (fun u2 hu => ?_)
  · rw [hu] at h
    obtain rfl := Option.some.inj h
    exact ⟨u, rfl, ⟨rfl, hG⟩, hF⟩
  · rw [hu.1] at h
    have p3 := hu.2
    simp only [Sum.elim_inl] at h
    obtain ⟨o4, co4, h⟩ := zb2 h
    refine z_callVi (As := []) (rest := []) (nA := 0) (mc := 0) (ms := 0) (rm := ({ frames := 9, cells := 0, slots := 0, locals := 378 } : Room)) (r0 := o4) (pu := fun (_ : Unit) => True) (G1 := fun _ => cx D dA A V L N ad xs) X (cc_Leg_computeSeal l X.2.2.2.2.2.2.2.2 X.2.2.2.2.2.2.1 h11 p3 co4) g_1243 g_1244 g_1245 g_33 g_1246 hd_yX4_computeSeal ⟨rfl, rfl, Nat.le_of_ble_eq_true rfl, Nat.le_of_ble_eq_true rfl⟩ rfl (fun _ hG => cx_recv X (k := 4) (n := 12) rfl rfl (vp_lt p3) hG) rfl (Nat.le_of_ble_eq_true rfl) dX11_seal_5 ⟨by show _ ≤ 1; omega, by show _ ≤ 6; omega⟩ (fun _ _ => ?_)
    obtain rfl := Option.some.inj h
    refine zx_ret ?_
    refine zz.widen (k := 1) (n := 6) (by omega) (by omega) ?_
    exact z_iret X hr rfl (fun t hG hF _ => ⟨⟨_, _, rfl, ⟨rfl, ⟨rfl, trivial⟩⟩, hG⟩, hF⟩) dX11_seal_8
theorem cc_seal (l : Launch) {D : va_G} {dA : Nat → ClassId} {A : Nat → Prop} {n : Nat} (hst : l.stackTraces = false) (hA : ∀ q, n ≤ q → A q) {V : Rho} {L : Lst} {N : Cnt} {ad : Adr} {xs : va_W} (h11 : 0 < N 11) {a1 : Int32} {o : (Int32) ⊕ Nat} (h : fc_seal V L N a1 = some o) : vx_Met l yX11_seal (.code yX11_seal cX11_seal 2 (some .int) :: gT) ({ frames := 10, cells := 1, slots := 6, locals := 420 } : Room) (va_Pc [.ref (ad 11 0), .int a1] (zB D dA A n (cx D dA A V L N ad xs))) (va_Qi (fun r (w9 : Int32) => r = w9 ∧ o = .inl w9 ∧ True) (fun (w9 : Int32) t => cx D dA A V L N ad xs t.heap) A) (vx_X (fun (u : Nat) => o = .inr u) (fun E u t => E = exn u ∧ cx D dA A V L N ad xs t.heap) A) 1 6 A :=
  zx_met (by decide) hA hst (Nat.le_of_ble_eq_true rfl) rfl rfl (fun p e s m below meth c X hml hr hnil => bc_seal X hml hr hnil ⟨by omega, by omega⟩ h11 h)
-- MeshBiller.stamp(I)I
def fc_stamp_17 : Nat → Rho → Lst → Cnt → Int32 → Int32 → Int64 → Option ((Int32) ⊕ Nat)
  | 0, _, _, _, _, _, _ => none
  | n + 1, V, L, N, v2, v5, u3 => (some (nI (L 17 v2.toNatClampNeg).length)).bind fun x1 => (if x1 ≤ v5 then some (.inl (((u3 >>> ((32 : Int32).toInt64 &&& 63)) : Int64).toInt32 ^^^ (u3 : Int64).toInt32))
  else (some (((u3 <<< ((7 : Int32).toInt64 &&& 63)) ||| (((u3 : Int64).toUInt64 >>> (((57 : Int32).toInt64).toUInt64 &&& Int64.toUInt64 63)).toInt64)))).bind fun x2 => if v5 < 0 ∨ (L 17 v2.toNatClampNeg).length ≤ (v5).toNatClampNeg then none else (some ((L 17 v2.toNatClampNeg).getD v5.toNatClampNeg 0)).bind fun x4 => (fc_Leg_computeSeal V L N x4).bind fun o6 => (some ((x2 + (o6 : Int32).toInt64))).bind fun x7 => (some (v5 + 1)).bind fun x8 => fc_stamp_17 n V L N v2 x8 (x7))
set_option maxRecDepth 100000 in
set_option maxHeartbeats 4000000 in
theorem bc_stamp_17 {p : Program} {l : Launch} {e : Env} {s : State} {m : MethodId} {args : Array Value} {below : List Frame} {meth : Method} {c : Code} {D : va_G} {dA : Nat → ClassId} {A : Nat → Prop} {xs : va_W} {o : (Int32) ⊕ Nat} {V : Rho} {L : Lst} {N : Cnt} {ad : Adr} (X : zc p l s m args meth c cX11_stamp RX11 D dA A) (hml : c.maxLocals = 6) (hr : meth.sig.returnType = (some .int)) (hnil : ∀ x ∈ c.exceptionTable.toList, False) {cells slots : Nat} (hcs : cells + 0 ≤ 1 ∧ slots + 0 ≤ 6) : ∀ (n : Nat) (h11 : 0 < N 11) {v2 : Int32} {v5 : Int32} {u3 : Int64} (fv2 : vp_in v2 (N 1)) , fc_stamp_17 n V L N v2 v5 u3 = some o → zz p l e ({ frames := 10, cells := 1, slots := 6, locals := 420 } : Room) s m args below meth c A (cx D dA A V L N ad xs) cells slots (vx_MQ below (va_Qi (fun r (w9 : Int32) => r = w9 ∧ o = .inl w9 ∧ True) (fun (w9 : Int32) t => cx D dA A V L N ad xs t.heap) A) (vx_X (fun (u : Nat) => o = .inr u) (fun E u t => E = exn u ∧ cx D dA A V L N ad xs t.heap) A) args s 1 6 A) 17 [(2, .ref (ad 1 v2.toNatClampNeg)), (5, .int v5)] [(3, u3)] [] := by
  obtain ⟨hcs1, hcs2⟩ := hcs
  intro n
  induction n with
  | zero => intro  h11 v2 v5 u3 fv2 h; exact (nomatch (show none = some o from h))
  | succ n ih =>
    intro  h11 v2 v5 u3 fv2 h
    rw [fc_stamp_17] at h
    refine z_iload X dX11_stamp_17 rfl ?_
    refine z_aload_n X dX11_stamp_19 rfl rfl ?_
    refine c_get X 1 2 (v := .ref (ad 17 v2.toNatClampNeg)) rx1_ws rfl rfl rfl (vp_lt fv2) g_885 rfl dX11_stamp_20 ?_
    obtain ⟨x1, ex1, h⟩ := zb h
    refine z_callVi (As := []) (rest := [.int v5]) (nA := 0) (mc := 0) (ms := 0) (rm := ({ frames := 8, cells := 0, slots := 0, locals := 336 } : Room)) (r0 := (nI (L 17 v2.toNatClampNeg).length)) (pu := fun (_ : Unit) => True) (G1 := fun _ => cx D dA A V L N ad xs) X (cl_size l X.2.2.2.2.2.2.2.2 X.2.2.2.2.2.2.1 (k := 17) (i := v2.toNatClampNeg) rfl rfl (vp_lt fv2)) g_308 g_309 g_310 g_4 g_311 hd_yJx4a65c_size_8abf5 ⟨rfl, rfl, Nat.le_of_ble_eq_true rfl, Nat.le_of_ble_eq_true rfl⟩ rfl (fun _ hG => cx_recvL X (k := 17) rfl rfl (vp_lt fv2) hG) rfl (Nat.le_of_ble_eq_true rfl) dX11_stamp_23 ⟨by show _ ≤ 1; omega, by show _ ≤ 6; omega⟩ (fun _ _ => ?_)
    rw [ex1]
    refine z_icmp_ge (tgt := 64) X dX11_stamp_26 (by decide) (fun q => ?_) (fun q => ?_)
    · have h := zp q h
      refine z_lload_n X dX11_stamp_64 rfl rfl ?_
      refine z_bipush (v := 32) X dX11_stamp_65 (by decide) ?_
      refine z_lshr X dX11_stamp_67 ?_
      refine z_l2i X dX11_stamp_68 ?_
      refine z_lload_n X dX11_stamp_69 rfl rfl ?_
      refine z_l2i X dX11_stamp_70 ?_
      refine z_ixor X dX11_stamp_71 ?_
      obtain rfl := Option.some.inj h
      refine zx_ret ?_
      refine zz.widen (k := 1) (n := 6) (by omega) (by omega) ?_
      exact z_iret X hr rfl (fun t hG hF _ => ⟨⟨_, _, rfl, ⟨rfl, ⟨rfl, trivial⟩⟩, hG⟩, hF⟩) dX11_stamp_72
    · have h := zn q h
      refine z_lload_n X dX11_stamp_29 rfl rfl ?_
      refine z_bipush (v := 7) X dX11_stamp_30 (by decide) ?_
      refine z_lshl X dX11_stamp_32 ?_
      refine z_lload_n X dX11_stamp_33 rfl rfl ?_
      refine z_bipush (v := 57) X dX11_stamp_34 (by decide) ?_
      refine z_lushr X dX11_stamp_36 ?_
      refine z_lor X dX11_stamp_37 ?_
      obtain ⟨x2, ex2, h⟩ := zb h
      rw [ex2]
      refine z_lstore_n X dX11_stamp_38 rfl (by rw [hml]; decide) (lo' := [(2, .ref (ad 1 v2.toNatClampNeg)), (5, .int v5)]) (ll' := [(3, x2)]) rfl rfl ?_
      refine z_lload_n X dX11_stamp_39 rfl rfl ?_
      refine z_aload_n X dX11_stamp_40 rfl rfl ?_
      refine c_get X 1 2 (v := .ref (ad 17 v2.toNatClampNeg)) rx1_ws rfl rfl rfl (vp_lt fv2) g_885 rfl dX11_stamp_41 ?_
      refine z_iload X dX11_stamp_44 rfl ?_
      obtain ⟨q3, h⟩ := zg h
      obtain ⟨x4, ex4, h⟩ := zb h
      refine z_callVq (As := [.int v5]) (rest := [.long x2]) (nA := 1) (mc := 0) (ms := 0) (rm := ({ frames := 8, cells := 0, slots := 0, locals := 336 } : Room)) (ro := fun _ => some (ad 4 ((L 17 v2.toNatClampNeg).getD v5.toNatClampNeg 0).toNatClampNeg)) (pu := fun (_ : Unit) => True) (G1 := fun _ => cx D dA A V L N ad xs) X (cl_get l X.2.2.2.2.2.2.2.2 X.2.2.2.2.2.2.1 (k := 17) (i := v2.toNatClampNeg) (x := v5) rfl rfl (vp_lt fv2) q3) g_852 g_554 g_555 g_4 g_556 hd_yJx4a65c_get_915e3 ⟨rfl, rfl, Nat.le_of_ble_eq_true rfl, Nat.le_of_ble_eq_true rfl⟩ rfl (fun _ hG => cx_recvL X (k := 17) rfl rfl (vp_lt fv2) hG) rfl (Nat.le_of_ble_eq_true rfl) dX11_stamp_46 ⟨by show _ ≤ 1; omega, by show _ ≤ 6; omega⟩ (fun _ _ => ?_)
      rw [ex4]
      refine zz.pre (fun H hG => cx_elt (k := 17) rfl rfl (vp_lt fv2) q3 hG) (fun p5 => ?_)
      rw [ex4] at p5
      refine c_cast X (k := 4) (n := 12) rfl rfl (vp_lt p5) g_897 dX11_stamp_49 ?_
      obtain ⟨o6, co6, h⟩ := zb2 h
      refine z_callVi (As := []) (rest := [.long x2]) (nA := 0) (mc := 0) (ms := 0) (rm := ({ frames := 9, cells := 0, slots := 0, locals := 378 } : Room)) (r0 := o6) (pu := fun (_ : Unit) => True) (G1 := fun _ => cx D dA A V L N ad xs) X (cc_Leg_computeSeal l X.2.2.2.2.2.2.2.2 X.2.2.2.2.2.2.1 h11 p5 co6) g_1243 g_1244 g_1245 g_33 g_1246 hd_yX4_computeSeal ⟨rfl, rfl, Nat.le_of_ble_eq_true rfl, Nat.le_of_ble_eq_true rfl⟩ rfl (fun _ hG => cx_recv X (k := 4) (n := 12) rfl rfl (vp_lt p5) hG) rfl (Nat.le_of_ble_eq_true rfl) dX11_stamp_52 ⟨by show _ ≤ 1; omega, by show _ ≤ 6; omega⟩ (fun _ _ => ?_)
      refine z_i2l X dX11_stamp_55 ?_
      refine z_ladd X dX11_stamp_56 ?_
      obtain ⟨x7, ex7, h⟩ := zb h
      rw [ex7]
      refine z_lstore_n X dX11_stamp_57 rfl (by rw [hml]; decide) (lo' := [(2, .ref (ad 1 v2.toNatClampNeg)), (5, .int v5)]) (ll' := [(3, x7)]) rfl rfl ?_
      obtain ⟨x8, ex8, h⟩ := zb h
      refine z_iinc (v := x8) (lo' := [(5, .int x8), (2, .ref (ad 1 v2.toNatClampNeg))]) X dX11_stamp_58 rfl ex8 (by rw [hml]; decide) rfl rfl ?_
      refine z_goto (tgt := 17) X dX11_stamp_61 (by decide) ?_
      refine zz.pick (lo' := [(2, .ref (ad 1 v2.toNatClampNeg)), (5, .int x8)]) [2, 5] rfl ?_
      exact ih h11 fv2 h
def fc_stamp (V : Rho) (L : Lst) (N : Cnt) (a1 : Int32) : Option ((Int32) ⊕ Nat) := (fc_callAt V L N a1).bind fun o1 => Sum.elim (fun u2 => (some ((((V 20 u2.toNatClampNeg) + 1) : Int32).toInt64)).bind fun x4 => fc_stamp_17 FU V L N u2 0 (x4)) (fun e9 => some (.inr e9)) o1
set_option maxRecDepth 100000 in
set_option maxHeartbeats 4000000 in
theorem bc_stamp {p : Program} {l : Launch} {e : Env} {s : State} {m : MethodId} {args : Array Value} {below : List Frame} {meth : Method} {c : Code} {D : va_G} {dA : Nat → ClassId} {A : Nat → Prop} {xs : va_W} {o : (Int32) ⊕ Nat} {V : Rho} {L : Lst} {N : Cnt} {ad : Adr} (X : zc p l s m args meth c cX11_stamp RX11 D dA A) (hml : c.maxLocals = 6) (hr : meth.sig.returnType = (some .int)) (hnil : ∀ x ∈ c.exceptionTable.toList, False) {cells slots : Nat} (hcs : cells + 1 ≤ 1 ∧ slots + 6 ≤ 6) (h11 : 0 < N 11) {a1 : Int32} (h : fc_stamp V L N a1 = some o) : zz p l e ({ frames := 10, cells := 1, slots := 6, locals := 420 } : Room) s m args below meth c A (cx D dA A V L N ad xs) cells slots (vx_MQ below (va_Qi (fun r (w9 : Int32) => r = w9 ∧ o = .inl w9 ∧ True) (fun (w9 : Int32) t => cx D dA A V L N ad xs t.heap) A) (vx_X (fun (u : Nat) => o = .inr u) (fun E u t => E = exn u ∧ cx D dA A V L N ad xs t.heap) A) args s 1 6 A) 0 [(0, .ref (ad 11 0)), (1, .int a1)] [] [] := by
  obtain ⟨hcs1, hcs2⟩ := hcs
  unfold fc_stamp at h
  refine z_aload_n X dX11_stamp_0 rfl rfl ?_
  refine z_iload_n X dX11_stamp_1 rfl rfl ?_
  obtain ⟨o1, co1, h⟩ := zb2 h
  refine z_xVq (As := [.int a1]) (rest := []) (nA := 1) (mc := 1) (ms := 6) (rm := ({ frames := 9, cells := 1, slots := 6, locals := 378 } : Room)) (S := Int32) (r0 := fun u => some (ad 1 u.toNatClampNeg)) (pu := fun u => o1 = .inl u ∧ vp_in u (N 1)) (G1 := fun u => cx D dA A V L N ad xs) X hnil (cc_callAt l X.2.2.2.2.2.2.2.2 X.2.2.2.2.2.2.1 h11 co1) g_1079 g_1081 gs_20 g_1 g_1082 hd_yX11_callAt ⟨rfl, rfl, Nat.le_of_ble_eq_true rfl, Nat.le_of_ble_eq_true rfl⟩ rfl (fun _ hG => cx_recv X (k := 11) (n := 9) rfl rfl h11 hG)  rfl (Nat.le_of_ble_eq_true rfl) dX11_stamp_2 ⟨by show _ ≤ 1; omega, by show _ ≤ 6; omega⟩ ⟨by omega, by omega⟩ (fun u hu t hG hF => ?_) (fun u2 hu => ?_)
  · rw [hu] at h
    obtain rfl := Option.some.inj h
    exact ⟨u, rfl, ⟨rfl, hG⟩, hF⟩
  · rw [hu.1] at h
    have p3 := hu.2
    simp only [Sum.elim_inl] at h
    refine z_astore_n (lo' := [(2, .ref (ad 1 u2.toNatClampNeg)), (0, .ref (ad 11 0)), (1, .int a1)]) X dX11_stamp_5 rfl (by rw [hml]; decide) rfl rfl ?_
    refine z_aload_n X dX11_stamp_6 rfl rfl ?_
    refine c_get X 1 0 (v := .int (V 20 u2.toNatClampNeg)) rx1_ws rfl rfl rfl (vp_lt p3) g_881 rfl dX11_stamp_7 ?_
    refine z_iconst (v := 1) X dX11_stamp_10 (by decide) ?_
    refine z_iadd X dX11_stamp_11 ?_
    refine z_i2l X dX11_stamp_12 ?_
    obtain ⟨x4, ex4, h⟩ := zb h
    rw [ex4]
    refine z_lstore_n X dX11_stamp_13 rfl (by rw [hml]; decide) (lo' := [(2, .ref (ad 1 u2.toNatClampNeg)), (0, .ref (ad 11 0)), (1, .int a1)]) (ll' := [(3, x4)]) rfl rfl ?_
    refine z_iconst (v := 0) X dX11_stamp_14 (by decide) ?_
    refine z_istore (lo' := [(5, .int 0), (2, .ref (ad 1 u2.toNatClampNeg)), (0, .ref (ad 11 0)), (1, .int a1)]) X dX11_stamp_15 (by rw [hml]; decide) rfl rfl ?_
    refine zz.pick (lo' := [(2, .ref (ad 1 u2.toNatClampNeg)), (5, .int 0)]) [2, 5] rfl ?_
    exact bc_stamp_17 X hml hr hnil ⟨by omega, by omega⟩ FU h11 p3 h
theorem cc_stamp (l : Launch) {D : va_G} {dA : Nat → ClassId} {A : Nat → Prop} {n : Nat} (hst : l.stackTraces = false) (hA : ∀ q, n ≤ q → A q) {V : Rho} {L : Lst} {N : Cnt} {ad : Adr} {xs : va_W} (h11 : 0 < N 11) {a1 : Int32} {o : (Int32) ⊕ Nat} (h : fc_stamp V L N a1 = some o) : vx_Met l yX11_stamp (.code yX11_stamp cX11_stamp 6 (some .int) :: gT) ({ frames := 10, cells := 1, slots := 6, locals := 420 } : Room) (va_Pc [.ref (ad 11 0), .int a1] (zB D dA A n (cx D dA A V L N ad xs))) (va_Qi (fun r (w9 : Int32) => r = w9 ∧ o = .inl w9 ∧ True) (fun (w9 : Int32) t => cx D dA A V L N ad xs t.heap) A) (vx_X (fun (u : Nat) => o = .inr u) (fun E u t => E = exn u ∧ cx D dA A V L N ad xs t.heap) A) 1 6 A :=
  zx_met (by decide) hA hst (Nat.le_of_ble_eq_true rfl) rfl rfl (fun p e s m below meth c X hml hr hnil => bc_stamp X hml hr hnil ⟨by omega, by omega⟩ h11 h)
-- MeshBiller.signOf(I)C
def fc_signOf (V : Rho) (L : Lst) (N : Cnt) (a1 : Int32) : Option (Int32) := (if a1 = 1 then some 46 else (if a1 = 2 then some 33 else (if a1 = 3 then some 63 else some 126)))
set_option maxRecDepth 100000 in
set_option maxHeartbeats 4000000 in
theorem bc_signOf {p : Program} {l : Launch} {e : Env} {s : State} {m : MethodId} {args : Array Value} {below : List Frame} {meth : Method} {c : Code} {D : va_G} {dA : Nat → ClassId} {A : Nat → Prop} {xs : va_W} {o : Int32} {V : Rho} {L : Lst} {N : Cnt} {ad : Adr} (X : zc p l s m args meth c cX11_signOf RX11 D dA A) (hml : c.maxLocals = 1) (hr : meth.sig.returnType = (some .char)) (h11 : 0 < N 11) {a1 : Int32} (h : fc_signOf V L N a1 = some o) : zz p l e ({ frames := 1, cells := 0, slots := 0, locals := 42 } : Room) s m args below meth c A (cx D dA A V L N ad xs) 0 0 (MQ below (va_Qi (fun r (w9 : Unit) => r = o ∧ True) (fun (w9 : Unit) t => cx D dA A V L N ad xs t.heap) A) args s 0 0 A) 0 [(0, .int a1)] [] [] := by
  unfold fc_signOf at h
  refine z_iload_n X dX11_signOf_0 rfl rfl ?_
  rcases Decidable.em (a1 = 1) with q1 | q1
  · have h := zp q1 h
    refine z_tableIn (tgt := 28) X dX11_signOf_1 (by rw [q1]; decide) (by rw [q1]; decide) (by rw [q1]; rfl) (by decide) ?_
    refine z_bipush (v := 46) X dX11_signOf_28 (by decide) ?_
    obtain rfl := Option.some.inj h
    exact z_iret X hr rfl (fun t hG hF _ => ⟨⟨_, (), rfl, ⟨rfl, trivial⟩, hG⟩, hF⟩) dX11_signOf_30
  · have h := zn q1 h
    rcases Decidable.em (a1 = 2) with q2 | q2
    · have h := zp q2 h
      refine z_tableIn (tgt := 31) X dX11_signOf_1 (by rw [q2]; decide) (by rw [q2]; decide) (by rw [q2]; rfl) (by decide) ?_
      refine z_bipush (v := 33) X dX11_signOf_31 (by decide) ?_
      obtain rfl := Option.some.inj h
      exact z_iret X hr rfl (fun t hG hF _ => ⟨⟨_, (), rfl, ⟨rfl, trivial⟩, hG⟩, hF⟩) dX11_signOf_33
    · have h := zn q2 h
      rcases Decidable.em (a1 = 3) with q3 | q3
      · have h := zp q3 h
        refine z_tableIn (tgt := 34) X dX11_signOf_1 (by rw [q3]; decide) (by rw [q3]; decide) (by rw [q3]; rfl) (by decide) ?_
        refine z_bipush (v := 63) X dX11_signOf_34 (by decide) ?_
        obtain rfl := Option.some.inj h
        exact z_iret X hr rfl (fun t hG hF _ => ⟨⟨_, (), rfl, ⟨rfl, trivial⟩, hG⟩, hF⟩) dX11_signOf_36
      · have h := zn q3 h
        refine z_tableOut (tgt := 37) X dX11_signOf_1 (z_out3 q1 q2 q3) (by decide) ?_
        refine z_bipush (v := 126) X dX11_signOf_37 (by decide) ?_
        obtain rfl := Option.some.inj h
        exact z_iret X hr rfl (fun t hG hF _ => ⟨⟨_, (), rfl, ⟨rfl, trivial⟩, hG⟩, hF⟩) dX11_signOf_39
theorem cc_signOf (l : Launch) {D : va_G} {dA : Nat → ClassId} {A : Nat → Prop} {n : Nat} (hst : l.stackTraces = false) (hA : ∀ q, n ≤ q → A q) {V : Rho} {L : Lst} {N : Cnt} {ad : Adr} {xs : va_W} (h11 : 0 < N 11) {a1 : Int32} {o : Int32} (h : fc_signOf V L N a1 = some o) : Met l yX11_signOf (.code yX11_signOf cX11_signOf 1 (some .char) :: gT) ({ frames := 1, cells := 0, slots := 0, locals := 42 } : Room) (va_Pc [.int a1] (zB D dA A n (cx D dA A V L N ad xs))) (va_Qi (fun r (w9 : Unit) => r = o ∧ True) (fun (w9 : Unit) t => cx D dA A V L N ad xs t.heap) A) 0 0 A :=
  z_met (by decide) hA hst (Nat.le_of_ble_eq_true rfl) rfl rfl (fun p e s m below meth c X hml hr _ => bc_signOf X hml hr h11 h)
