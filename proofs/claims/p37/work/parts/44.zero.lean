/-! QUESTIONS that are answered: nothing is made -/
-- phoneAt
set_option maxRecDepth 100000 in
set_option maxHeartbeats 4000000 in
theorem bz_phoneAt {p : Program} {l : Launch} {e : Env} {s : State} {m : MethodId} {args : Array Value} {below : List Frame} {meth : Method} {c : Code} {D : va_G} {dA : Nat → ClassId} {A : Nat → Prop} {xs : va_W} {o : (Int32) ⊕ Nat} {V : Rho} {L : Lst} {N : Cnt} {ad : Adr} (X : zc p l s m args meth c cX11_phoneAt RX11 D dA A) (hml : c.maxLocals = 2) (hr : meth.sig.returnType = (some (.object "MeshBiller$Phone"))) (hnil : ∀ x ∈ c.exceptionTable.toList, False) (h9 : ∀ u, o ≠ .inr u) {cells slots : Nat} (hcs : cells + 0 ≤ 0 ∧ slots + 0 ≤ 0) (h11 : 0 < N 11) {a1 : Int32} (h : fc_phoneAt V L N a1 = some o) : zz p l e ({ frames := 6, cells := 0, slots := 0, locals := 252 } : Room) s m args below meth c A (cx D dA A V L N ad xs) cells slots (vx_MQ below (va_Qq (fun r (w9 : Int32) => r = some (ad 5 w9.toNatClampNeg) ∧ o = .inl w9 ∧ vp_in w9 (N 5)) (fun (w9 : Int32) t => cx D dA A V L N ad xs t.heap) A) (vx_X (fun (u : Nat) => o = .inr u) (fun E u t => E = exn u ∧ cx D dA A V L N ad xs t.heap) A) args s 0 0 A) 0 [(0, .ref (ad 11 0)), (1, .int a1)] [] [] := by
  obtain ⟨hcs1, hcs2⟩ := hcs
  unfold fc_phoneAt at h
  refine z_iload_n X dX11_phoneAt_0 rfl rfl ?_
  refine z_if_lt (tgt := 13) X dX11_phoneAt_1 (by decide) (fun q => ?_) (fun q => ?_)
  · have h := zp q h
    obtain rfl := Option.some.inj h
    exact (h9 _ rfl).elim
  · have h := zn q h
    refine z_iload_n X dX11_phoneAt_4 rfl rfl ?_
    refine z_aload_n X dX11_phoneAt_5 rfl rfl ?_
    refine c_get X 11 3 (v := .ref (ad 29 0)) rx11_ws rfl rfl rfl h11 g_275 rfl dX11_phoneAt_6 ?_
    refine c_alen X 29 (n := 10) rfl rfl rfl h11 (by decide) dX11_phoneAt_9 ?_
    refine z_icmp_lt (tgt := 24) X dX11_phoneAt_10 (by decide) (fun q => ?_) (fun q => ?_)
    · have h := zp q h
      refine z_aload_n X dX11_phoneAt_24 rfl rfl ?_
      refine c_get X 11 3 (v := .ref (ad 29 0)) rx11_ws rfl rfl rfl h11 g_275 rfl dX11_phoneAt_25 ?_
      refine z_iload_n X dX11_phoneAt_28 rfl rfl ?_
      obtain ⟨q1, h⟩ := zg h
      refine c_aald X 29 rfl rfl rfl h11 q1 dX11_phoneAt_29 ?_
      refine zz.pre (fun H hG => vp_of q1 (hG.2.2.2.2.2.2.2.2.1.1 h11).2.2.2.2.1) (fun (p2 : vp_in a1 (N 5)) => ?_)
      obtain rfl := Option.some.inj h
      refine zx_ret ?_
      refine zz.widen (k := 0) (n := 0) (by omega) (by omega) ?_
      exact z_aret (o := some (ad 5 a1.toNatClampNeg)) X hr (Or.inl ⟨_, rfl⟩) (fun t hG hF _ => ⟨⟨_, _, rfl, ⟨rfl, ⟨rfl, p2⟩⟩, hG⟩, hF⟩) dX11_phoneAt_30
    · have h := zn q h
      obtain rfl := Option.some.inj h
      exact (h9 _ rfl).elim
theorem cz_phoneAt (l : Launch) {D : va_G} {dA : Nat → ClassId} {A : Nat → Prop} {n : Nat} (hst : l.stackTraces = false) (hA : ∀ q, n ≤ q → A q) {V : Rho} {L : Lst} {N : Cnt} {ad : Adr} {xs : va_W} (h11 : 0 < N 11) {a1 : Int32} {o : (Int32) ⊕ Nat} (h9 : ∀ u, o ≠ .inr u) (h : fc_phoneAt V L N a1 = some o) : vx_Met l yX11_phoneAt (.code yX11_phoneAt cX11_phoneAt 2 (some (.object "MeshBiller$Phone")) :: gT) ({ frames := 6, cells := 0, slots := 0, locals := 252 } : Room) (va_Pc [.ref (ad 11 0), .int a1] (zB D dA A n (cx D dA A V L N ad xs))) (va_Qq (fun r (w9 : Int32) => r = some (ad 5 w9.toNatClampNeg) ∧ o = .inl w9 ∧ vp_in w9 (N 5)) (fun (w9 : Int32) t => cx D dA A V L N ad xs t.heap) A) (vx_X (fun (u : Nat) => o = .inr u) (fun E u t => E = exn u ∧ cx D dA A V L N ad xs t.heap) A) 0 0 A :=
  zx_met (by decide) hA hst (Nat.le_of_ble_eq_true rfl) rfl rfl (fun p e s m below meth c X hml hr hnil => bz_phoneAt X hml hr hnil h9 ⟨by omega, by omega⟩ h11 h)
-- walletAt
set_option maxRecDepth 100000 in
set_option maxHeartbeats 4000000 in
theorem bz_walletAt {p : Program} {l : Launch} {e : Env} {s : State} {m : MethodId} {args : Array Value} {below : List Frame} {meth : Method} {c : Code} {D : va_G} {dA : Nat → ClassId} {A : Nat → Prop} {xs : va_W} {o : (Int32) ⊕ Nat} {V : Rho} {L : Lst} {N : Cnt} {ad : Adr} (X : zc p l s m args meth c cX11_walletAt RX11 D dA A) (hml : c.maxLocals = 2) (hr : meth.sig.returnType = (some (.object "MeshBiller$Wallet"))) (hnil : ∀ x ∈ c.exceptionTable.toList, False) (h9 : ∀ u, o ≠ .inr u) {cells slots : Nat} (hcs : cells + 0 ≤ 0 ∧ slots + 0 ≤ 0) (h11 : 0 < N 11) {a1 : Int32} (h : fc_walletAt V L N a1 = some o) : zz p l e ({ frames := 6, cells := 0, slots := 0, locals := 252 } : Room) s m args below meth c A (cx D dA A V L N ad xs) cells slots (vx_MQ below (va_Qq (fun r (w9 : Int32) => r = some (ad 9 w9.toNatClampNeg) ∧ o = .inl w9 ∧ vp_in w9 (N 9)) (fun (w9 : Int32) t => cx D dA A V L N ad xs t.heap) A) (vx_X (fun (u : Nat) => o = .inr u) (fun E u t => E = exn u ∧ cx D dA A V L N ad xs t.heap) A) args s 0 0 A) 0 [(0, .ref (ad 11 0)), (1, .int a1)] [] [] := by
  obtain ⟨hcs1, hcs2⟩ := hcs
  unfold fc_walletAt at h
  refine z_iload_n X dX11_walletAt_0 rfl rfl ?_
  refine z_if_lt (tgt := 13) X dX11_walletAt_1 (by decide) (fun q => ?_) (fun q => ?_)
  · have h := zp q h
    obtain rfl := Option.some.inj h
    exact (h9 _ rfl).elim
  · have h := zn q h
    refine z_iload_n X dX11_walletAt_4 rfl rfl ?_
    refine z_aload_n X dX11_walletAt_5 rfl rfl ?_
    refine c_get X 11 2 (v := .ref (ad 28 0)) rx11_ws rfl rfl rfl h11 g_274 rfl dX11_walletAt_6 ?_
    refine c_alen X 28 (n := 4) rfl rfl rfl h11 (by decide) dX11_walletAt_9 ?_
    refine z_icmp_lt (tgt := 24) X dX11_walletAt_10 (by decide) (fun q => ?_) (fun q => ?_)
    · have h := zp q h
      refine z_aload_n X dX11_walletAt_24 rfl rfl ?_
      refine c_get X 11 2 (v := .ref (ad 28 0)) rx11_ws rfl rfl rfl h11 g_274 rfl dX11_walletAt_25 ?_
      refine z_iload_n X dX11_walletAt_28 rfl rfl ?_
      obtain ⟨q1, h⟩ := zg h
      refine c_aald X 28 rfl rfl rfl h11 q1 dX11_walletAt_29 ?_
      refine zz.pre (fun H hG => vp_of q1 (hG.2.2.2.2.2.2.2.2.1.1 h11).2.2.2.1) (fun (p2 : vp_in a1 (N 9)) => ?_)
      obtain rfl := Option.some.inj h
      refine zx_ret ?_
      refine zz.widen (k := 0) (n := 0) (by omega) (by omega) ?_
      exact z_aret (o := some (ad 9 a1.toNatClampNeg)) X hr (Or.inl ⟨_, rfl⟩) (fun t hG hF _ => ⟨⟨_, _, rfl, ⟨rfl, ⟨rfl, p2⟩⟩, hG⟩, hF⟩) dX11_walletAt_30
    · have h := zn q h
      obtain rfl := Option.some.inj h
      exact (h9 _ rfl).elim
theorem cz_walletAt (l : Launch) {D : va_G} {dA : Nat → ClassId} {A : Nat → Prop} {n : Nat} (hst : l.stackTraces = false) (hA : ∀ q, n ≤ q → A q) {V : Rho} {L : Lst} {N : Cnt} {ad : Adr} {xs : va_W} (h11 : 0 < N 11) {a1 : Int32} {o : (Int32) ⊕ Nat} (h9 : ∀ u, o ≠ .inr u) (h : fc_walletAt V L N a1 = some o) : vx_Met l yX11_walletAt (.code yX11_walletAt cX11_walletAt 2 (some (.object "MeshBiller$Wallet")) :: gT) ({ frames := 6, cells := 0, slots := 0, locals := 252 } : Room) (va_Pc [.ref (ad 11 0), .int a1] (zB D dA A n (cx D dA A V L N ad xs))) (va_Qq (fun r (w9 : Int32) => r = some (ad 9 w9.toNatClampNeg) ∧ o = .inl w9 ∧ vp_in w9 (N 9)) (fun (w9 : Int32) t => cx D dA A V L N ad xs t.heap) A) (vx_X (fun (u : Nat) => o = .inr u) (fun E u t => E = exn u ∧ cx D dA A V L N ad xs t.heap) A) 0 0 A :=
  zx_met (by decide) hA hst (Nat.le_of_ble_eq_true rfl) rfl rfl (fun p e s m below meth c X hml hr hnil => bz_walletAt X hml hr hnil h9 ⟨by omega, by omega⟩ h11 h)
-- legAt
set_option maxRecDepth 100000 in
set_option maxHeartbeats 4000000 in
theorem bz_legAt {p : Program} {l : Launch} {e : Env} {s : State} {m : MethodId} {args : Array Value} {below : List Frame} {meth : Method} {c : Code} {D : va_G} {dA : Nat → ClassId} {A : Nat → Prop} {xs : va_W} {o : (Int32) ⊕ Nat} {V : Rho} {L : Lst} {N : Cnt} {ad : Adr} (X : zc p l s m args meth c cX11_legAt RX11 D dA A) (hml : c.maxLocals = 2) (hr : meth.sig.returnType = (some (.object "MeshBiller$Leg"))) (hnil : ∀ x ∈ c.exceptionTable.toList, False) (h9 : ∀ u, o ≠ .inr u) {cells slots : Nat} (hcs : cells + 0 ≤ 0 ∧ slots + 0 ≤ 0) (h11 : 0 < N 11) {a1 : Int32} (h : fc_legAt V L N a1 = some o) : zz p l e ({ frames := 9, cells := 0, slots := 0, locals := 378 } : Room) s m args below meth c A (cx D dA A V L N ad xs) cells slots (vx_MQ below (va_Qq (fun r (w9 : Int32) => r = some (ad 4 w9.toNatClampNeg) ∧ o = .inl w9 ∧ vp_in w9 (N 4)) (fun (w9 : Int32) t => cx D dA A V L N ad xs t.heap) A) (vx_X (fun (u : Nat) => o = .inr u) (fun E u t => E = exn u ∧ cx D dA A V L N ad xs t.heap) A) args s 0 0 A) 0 [(0, .ref (ad 11 0)), (1, .int a1)] [] [] := by
  obtain ⟨hcs1, hcs2⟩ := hcs
  unfold fc_legAt at h
  refine z_iload_n X dX11_legAt_0 rfl rfl ?_
  refine z_if_lt (tgt := 15) X dX11_legAt_1 (by decide) (fun q => ?_) (fun q => ?_)
  · have h := zp q h
    obtain rfl := Option.some.inj h
    exact (h9 _ rfl).elim
  · have h := zn q h
    refine z_iload_n X dX11_legAt_4 rfl rfl ?_
    refine z_aload_n X dX11_legAt_5 rfl rfl ?_
    refine c_get X 11 6 (v := .ref (ad 14 0)) rx11_ws rfl rfl rfl h11 g_278 rfl dX11_legAt_6 ?_
    obtain ⟨x1, ex1, h⟩ := zb h
    refine z_callVi (As := []) (rest := [.int a1]) (nA := 0) (mc := 0) (ms := 0) (rm := ({ frames := 8, cells := 0, slots := 0, locals := 336 } : Room)) (r0 := (nI (L 14 0).length)) (pu := fun (_ : Unit) => True) (G1 := fun _ => cx D dA A V L N ad xs) X (cl_size l X.2.2.2.2.2.2.2.2 X.2.2.2.2.2.2.1 (k := 14) (i := 0) rfl rfl h11) g_308 g_309 g_310 g_4 g_311 hd_yJx4a65c_size_8abf5 ⟨rfl, rfl, Nat.le_of_ble_eq_true rfl, Nat.le_of_ble_eq_true rfl⟩ rfl (fun _ hG => cx_recvL X (k := 14) rfl rfl h11 hG) rfl (Nat.le_of_ble_eq_true rfl) dX11_legAt_9 ⟨by show _ ≤ 0; omega, by show _ ≤ 0; omega⟩ (fun _ _ => ?_)
    rw [ex1]
    refine z_icmp_lt (tgt := 26) X dX11_legAt_12 (by decide) (fun q => ?_) (fun q => ?_)
    · have h := zp q h
      refine z_aload_n X dX11_legAt_26 rfl rfl ?_
      refine c_get X 11 6 (v := .ref (ad 14 0)) rx11_ws rfl rfl rfl h11 g_278 rfl dX11_legAt_27 ?_
      refine z_iload_n X dX11_legAt_30 rfl rfl ?_
      obtain ⟨q2, h⟩ := zg h
      obtain ⟨x3, ex3, h⟩ := zb h
      refine z_callVq (As := [.int a1]) (rest := []) (nA := 1) (mc := 0) (ms := 0) (rm := ({ frames := 8, cells := 0, slots := 0, locals := 336 } : Room)) (ro := fun _ => some (ad 4 ((L 14 0).getD a1.toNatClampNeg 0).toNatClampNeg)) (pu := fun (_ : Unit) => True) (G1 := fun _ => cx D dA A V L N ad xs) X (cl_get l X.2.2.2.2.2.2.2.2 X.2.2.2.2.2.2.1 (k := 14) (i := 0) (x := a1) rfl rfl h11 q2) g_852 g_554 g_555 g_4 g_556 hd_yJx4a65c_get_915e3 ⟨rfl, rfl, Nat.le_of_ble_eq_true rfl, Nat.le_of_ble_eq_true rfl⟩ rfl (fun _ hG => cx_recvL X (k := 14) rfl rfl h11 hG) rfl (Nat.le_of_ble_eq_true rfl) dX11_legAt_31 ⟨by show _ ≤ 0; omega, by show _ ≤ 0; omega⟩ (fun _ _ => ?_)
      rw [ex3]
      refine zz.pre (fun H hG => cx_elt (k := 14) rfl rfl h11 q2 hG) (fun p4 => ?_)
      rw [ex3] at p4
      refine c_cast X (k := 4) (n := 12) rfl rfl (vp_lt p4) g_897 dX11_legAt_34 ?_
      obtain rfl := Option.some.inj h
      refine zx_ret ?_
      refine zz.widen (k := 0) (n := 0) (by omega) (by omega) ?_
      exact z_aret (o := some (ad 4 x3.toNatClampNeg)) X hr (Or.inl ⟨_, rfl⟩) (fun t hG hF _ => ⟨⟨_, _, rfl, ⟨rfl, ⟨rfl, p4⟩⟩, hG⟩, hF⟩) dX11_legAt_37
    · have h := zn q h
      obtain rfl := Option.some.inj h
      exact (h9 _ rfl).elim
theorem cz_legAt (l : Launch) {D : va_G} {dA : Nat → ClassId} {A : Nat → Prop} {n : Nat} (hst : l.stackTraces = false) (hA : ∀ q, n ≤ q → A q) {V : Rho} {L : Lst} {N : Cnt} {ad : Adr} {xs : va_W} (h11 : 0 < N 11) {a1 : Int32} {o : (Int32) ⊕ Nat} (h9 : ∀ u, o ≠ .inr u) (h : fc_legAt V L N a1 = some o) : vx_Met l yX11_legAt (.code yX11_legAt cX11_legAt 2 (some (.object "MeshBiller$Leg")) :: gT) ({ frames := 9, cells := 0, slots := 0, locals := 378 } : Room) (va_Pc [.ref (ad 11 0), .int a1] (zB D dA A n (cx D dA A V L N ad xs))) (va_Qq (fun r (w9 : Int32) => r = some (ad 4 w9.toNatClampNeg) ∧ o = .inl w9 ∧ vp_in w9 (N 4)) (fun (w9 : Int32) t => cx D dA A V L N ad xs t.heap) A) (vx_X (fun (u : Nat) => o = .inr u) (fun E u t => E = exn u ∧ cx D dA A V L N ad xs t.heap) A) 0 0 A :=
  zx_met (by decide) hA hst (Nat.le_of_ble_eq_true rfl) rfl rfl (fun p e s m below meth c X hml hr hnil => bz_legAt X hml hr hnil h9 ⟨by omega, by omega⟩ h11 h)
-- callAt
set_option maxRecDepth 100000 in
set_option maxHeartbeats 4000000 in
theorem bz_callAt {p : Program} {l : Launch} {e : Env} {s : State} {m : MethodId} {args : Array Value} {below : List Frame} {meth : Method} {c : Code} {D : va_G} {dA : Nat → ClassId} {A : Nat → Prop} {xs : va_W} {o : (Int32) ⊕ Nat} {V : Rho} {L : Lst} {N : Cnt} {ad : Adr} (X : zc p l s m args meth c cX11_callAt RX11 D dA A) (hml : c.maxLocals = 2) (hr : meth.sig.returnType = (some (.object "MeshBiller$Call"))) (hnil : ∀ x ∈ c.exceptionTable.toList, False) (h9 : ∀ u, o ≠ .inr u) {cells slots : Nat} (hcs : cells + 0 ≤ 0 ∧ slots + 0 ≤ 0) (h11 : 0 < N 11) {a1 : Int32} (h : fc_callAt V L N a1 = some o) : zz p l e ({ frames := 9, cells := 0, slots := 0, locals := 378 } : Room) s m args below meth c A (cx D dA A V L N ad xs) cells slots (vx_MQ below (va_Qq (fun r (w9 : Int32) => r = some (ad 1 w9.toNatClampNeg) ∧ o = .inl w9 ∧ vp_in w9 (N 1)) (fun (w9 : Int32) t => cx D dA A V L N ad xs t.heap) A) (vx_X (fun (u : Nat) => o = .inr u) (fun E u t => E = exn u ∧ cx D dA A V L N ad xs t.heap) A) args s 0 0 A) 0 [(0, .ref (ad 11 0)), (1, .int a1)] [] [] := by
  obtain ⟨hcs1, hcs2⟩ := hcs
  unfold fc_callAt at h
  refine z_iload_n X dX11_callAt_0 rfl rfl ?_
  refine z_if_lt (tgt := 15) X dX11_callAt_1 (by decide) (fun q => ?_) (fun q => ?_)
  · have h := zp q h
    obtain rfl := Option.some.inj h
    exact (h9 _ rfl).elim
  · have h := zn q h
    refine z_iload_n X dX11_callAt_4 rfl rfl ?_
    refine z_aload_n X dX11_callAt_5 rfl rfl ?_
    refine c_get X 11 5 (v := .ref (ad 13 0)) rx11_ws rfl rfl rfl h11 g_277 rfl dX11_callAt_6 ?_
    obtain ⟨x1, ex1, h⟩ := zb h
    refine z_callVi (As := []) (rest := [.int a1]) (nA := 0) (mc := 0) (ms := 0) (rm := ({ frames := 8, cells := 0, slots := 0, locals := 336 } : Room)) (r0 := (nI (L 13 0).length)) (pu := fun (_ : Unit) => True) (G1 := fun _ => cx D dA A V L N ad xs) X (cl_size l X.2.2.2.2.2.2.2.2 X.2.2.2.2.2.2.1 (k := 13) (i := 0) rfl rfl h11) g_308 g_309 g_310 g_4 g_311 hd_yJx4a65c_size_8abf5 ⟨rfl, rfl, Nat.le_of_ble_eq_true rfl, Nat.le_of_ble_eq_true rfl⟩ rfl (fun _ hG => cx_recvL X (k := 13) rfl rfl h11 hG) rfl (Nat.le_of_ble_eq_true rfl) dX11_callAt_9 ⟨by show _ ≤ 0; omega, by show _ ≤ 0; omega⟩ (fun _ _ => ?_)
    rw [ex1]
    refine z_icmp_lt (tgt := 26) X dX11_callAt_12 (by decide) (fun q => ?_) (fun q => ?_)
    · have h := zp q h
      refine z_aload_n X dX11_callAt_26 rfl rfl ?_
      refine c_get X 11 5 (v := .ref (ad 13 0)) rx11_ws rfl rfl rfl h11 g_277 rfl dX11_callAt_27 ?_
      refine z_iload_n X dX11_callAt_30 rfl rfl ?_
      obtain ⟨q2, h⟩ := zg h
      obtain ⟨x3, ex3, h⟩ := zb h
      refine z_callVq (As := [.int a1]) (rest := []) (nA := 1) (mc := 0) (ms := 0) (rm := ({ frames := 8, cells := 0, slots := 0, locals := 336 } : Room)) (ro := fun _ => some (ad 1 ((L 13 0).getD a1.toNatClampNeg 0).toNatClampNeg)) (pu := fun (_ : Unit) => True) (G1 := fun _ => cx D dA A V L N ad xs) X (cl_get l X.2.2.2.2.2.2.2.2 X.2.2.2.2.2.2.1 (k := 13) (i := 0) (x := a1) rfl rfl h11 q2) g_852 g_554 g_555 g_4 g_556 hd_yJx4a65c_get_915e3 ⟨rfl, rfl, Nat.le_of_ble_eq_true rfl, Nat.le_of_ble_eq_true rfl⟩ rfl (fun _ hG => cx_recvL X (k := 13) rfl rfl h11 hG) rfl (Nat.le_of_ble_eq_true rfl) dX11_callAt_31 ⟨by show _ ≤ 0; omega, by show _ ≤ 0; omega⟩ (fun _ _ => ?_)
      rw [ex3]
      refine zz.pre (fun H hG => cx_elt (k := 13) rfl rfl h11 q2 hG) (fun p4 => ?_)
      rw [ex3] at p4
      refine c_cast X (k := 1) (n := 3) rfl rfl (vp_lt p4) g_872 dX11_callAt_34 ?_
      obtain rfl := Option.some.inj h
      refine zx_ret ?_
      refine zz.widen (k := 0) (n := 0) (by omega) (by omega) ?_
      exact z_aret (o := some (ad 1 x3.toNatClampNeg)) X hr (Or.inl ⟨_, rfl⟩) (fun t hG hF _ => ⟨⟨_, _, rfl, ⟨rfl, ⟨rfl, p4⟩⟩, hG⟩, hF⟩) dX11_callAt_37
    · have h := zn q h
      obtain rfl := Option.some.inj h
      exact (h9 _ rfl).elim
theorem cz_callAt (l : Launch) {D : va_G} {dA : Nat → ClassId} {A : Nat → Prop} {n : Nat} (hst : l.stackTraces = false) (hA : ∀ q, n ≤ q → A q) {V : Rho} {L : Lst} {N : Cnt} {ad : Adr} {xs : va_W} (h11 : 0 < N 11) {a1 : Int32} {o : (Int32) ⊕ Nat} (h9 : ∀ u, o ≠ .inr u) (h : fc_callAt V L N a1 = some o) : vx_Met l yX11_callAt (.code yX11_callAt cX11_callAt 2 (some (.object "MeshBiller$Call")) :: gT) ({ frames := 9, cells := 0, slots := 0, locals := 378 } : Room) (va_Pc [.ref (ad 11 0), .int a1] (zB D dA A n (cx D dA A V L N ad xs))) (va_Qq (fun r (w9 : Int32) => r = some (ad 1 w9.toNatClampNeg) ∧ o = .inl w9 ∧ vp_in w9 (N 1)) (fun (w9 : Int32) t => cx D dA A V L N ad xs t.heap) A) (vx_X (fun (u : Nat) => o = .inr u) (fun E u t => E = exn u ∧ cx D dA A V L N ad xs t.heap) A) 0 0 A :=
  zx_met (by decide) hA hst (Nat.le_of_ble_eq_true rfl) rfl rfl (fun p e s m below meth c X hml hr hnil => bz_callAt X hml hr hnil h9 ⟨by omega, by omega⟩ h11 h)
-- free
set_option maxRecDepth 100000 in
set_option maxHeartbeats 4000000 in
theorem bz_free {p : Program} {l : Launch} {e : Env} {s : State} {m : MethodId} {args : Array Value} {below : List Frame} {meth : Method} {c : Code} {D : va_G} {dA : Nat → ClassId} {A : Nat → Prop} {xs : va_W} {o : (Int32) ⊕ Nat} {V : Rho} {L : Lst} {N : Cnt} {ad : Adr} (X : zc p l s m args meth c cX11_free RX11 D dA A) (hml : c.maxLocals = 2) (hr : meth.sig.returnType = (some .int)) (hnil : ∀ x ∈ c.exceptionTable.toList, False) (h9 : ∀ u, o ≠ .inr u) {cells slots : Nat} (hcs : cells + 0 ≤ 0 ∧ slots + 0 ≤ 0) (h11 : 0 < N 11) {a1 : Int32} (h : fc_free V L N a1 = some o) : zz p l e ({ frames := 7, cells := 0, slots := 0, locals := 294 } : Room) s m args below meth c A (cx D dA A V L N ad xs) cells slots (vx_MQ below (va_Qi (fun r (w9 : Int32) => r = w9 ∧ o = .inl w9 ∧ True) (fun (w9 : Int32) t => cx D dA A V L N ad xs t.heap) A) (vx_X (fun (u : Nat) => o = .inr u) (fun E u t => E = exn u ∧ cx D dA A V L N ad xs t.heap) A) args s 0 0 A) 0 [(0, .ref (ad 11 0)), (1, .int a1)] [] [] := by
  obtain ⟨hcs1, hcs2⟩ := hcs
  unfold fc_free at h
  refine z_aload_n X dX11_free_0 rfl rfl ?_
  refine z_iload_n X dX11_free_1 rfl rfl ?_
  obtain ⟨o1, co1, h⟩ := zb2 h
  have k9 : ∀ u, o1 ≠ .inr u := fun u z => by rw [z] at h; exact h9 u (Option.some.inj h).symm
  refine z_xVq (As := [.int a1]) (rest := []) (nA := 1) (mc := 0) (ms := 0) (rm := ({ frames := 6, cells := 0, slots := 0, locals := 252 } : Room)) (S := Int32) (r0 := fun u => some (ad 9 u.toNatClampNeg)) (pu := fun u => o1 = .inl u ∧ vp_in u (N 9)) (G1 := fun u => cx D dA A V L N ad xs) X hnil (cz_walletAt l X.2.2.2.2.2.2.2.2 X.2.2.2.2.2.2.1 h11 k9 co1) g_491 g_493 gs_7 g_1 g_494 hd_yX11_walletAt ⟨rfl, rfl, Nat.le_of_ble_eq_true rfl, Nat.le_of_ble_eq_true rfl⟩ rfl (fun _ hG => cx_recv X (k := 11) (n := 9) rfl rfl h11 hG)  rfl (Nat.le_of_ble_eq_true rfl) dX11_free_2 ⟨by show _ ≤ 0; omega, by show _ ≤ 0; omega⟩ ⟨by omega, by omega⟩ (fun u hu t hG hF => ?_) (fun u2 hu => ?_)
  · rw [hu] at h
    obtain rfl := Option.some.inj h
    exact ⟨u, rfl, ⟨rfl, hG⟩, hF⟩
  · rw [hu.1] at h
    have p3 := hu.2
    simp only [Sum.elim_inl] at h
    refine c_get X 9 2 (v := .int (V 182 u2.toNatClampNeg)) rx9_ws rfl rfl rfl (vp_lt p3) g_226 rfl dX11_free_5 ?_
    obtain rfl := Option.some.inj h
    refine zx_ret ?_
    refine zz.widen (k := 0) (n := 0) (by omega) (by omega) ?_
    exact z_iret X hr rfl (fun t hG hF _ => ⟨⟨_, _, rfl, ⟨rfl, ⟨rfl, trivial⟩⟩, hG⟩, hF⟩) dX11_free_8
theorem cz_free (l : Launch) {D : va_G} {dA : Nat → ClassId} {A : Nat → Prop} {n : Nat} (hst : l.stackTraces = false) (hA : ∀ q, n ≤ q → A q) {V : Rho} {L : Lst} {N : Cnt} {ad : Adr} {xs : va_W} (h11 : 0 < N 11) {a1 : Int32} {o : (Int32) ⊕ Nat} (h9 : ∀ u, o ≠ .inr u) (h : fc_free V L N a1 = some o) : vx_Met l yX11_free (.code yX11_free cX11_free 2 (some .int) :: gT) ({ frames := 7, cells := 0, slots := 0, locals := 294 } : Room) (va_Pc [.ref (ad 11 0), .int a1] (zB D dA A n (cx D dA A V L N ad xs))) (va_Qi (fun r (w9 : Int32) => r = w9 ∧ o = .inl w9 ∧ True) (fun (w9 : Int32) t => cx D dA A V L N ad xs t.heap) A) (vx_X (fun (u : Nat) => o = .inr u) (fun E u t => E = exn u ∧ cx D dA A V L N ad xs t.heap) A) 0 0 A :=
  zx_met (by decide) hA hst (Nat.le_of_ble_eq_true rfl) rfl rfl (fun p e s m below meth c X hml hr hnil => bz_free X hml hr hnil h9 ⟨by omega, by omega⟩ h11 h)
-- aside
set_option maxRecDepth 100000 in
set_option maxHeartbeats 4000000 in
theorem bz_aside_70 {p : Program} {l : Launch} {e : Env} {s : State} {m : MethodId} {args : Array Value} {below : List Frame} {meth : Method} {c : Code} {D : va_G} {dA : Nat → ClassId} {A : Nat → Prop} {xs : va_W} {o : (Int32) ⊕ Nat} {V : Rho} {L : Lst} {N : Cnt} {ad : Adr} (X : zc p l s m args meth c cX11_aside RX11 D dA A) (hml : c.maxLocals = 8) (hr : meth.sig.returnType = (some .int)) (hnil : ∀ x ∈ c.exceptionTable.toList, False) (h9 : ∀ u, o ≠ .inr u) {cells slots : Nat} (hcs : cells + 0 ≤ 0 ∧ slots + 0 ≤ 0) {k22 : Rho → Lst → Cnt → Int32 → Int32 → Int32 → Int32 → Option ((Int32) ⊕ Nat)} (hk22 : ∀ (h11 : 0 < N 11) {v2 : Int32} {v3 : Int32} {v5 : Int32} {v6 : Int32} (fv2 : vp_in v2 (N 9)) , k22 V L N v2 v3 v5 v6 = some o → zz p l e ({ frames := 7, cells := 0, slots := 0, locals := 294 } : Room) s m args below meth c A (cx D dA A V L N ad xs) cells slots (vx_MQ below (va_Qi (fun r (w9 : Int32) => r = w9 ∧ o = .inl w9 ∧ True) (fun (w9 : Int32) t => cx D dA A V L N ad xs t.heap) A) (vx_X (fun (u : Nat) => o = .inr u) (fun E u t => E = exn u ∧ cx D dA A V L N ad xs t.heap) A) args s 0 0 A) 22 [(2, .ref (ad 9 v2.toNatClampNeg)), (3, .int v3), (4, .ref (ad 29 0)), (5, .int v5), (6, .int v6)] [] []) (h11 : 0 < N 11) {v2 : Int32} {v3 : Int32} {v5 : Int32} {v6 : Int32} (fv2 : vp_in v2 (N 9)) (h : fc_aside_70 k22 V L N v2 v3 v5 v6 = some o) : zz p l e ({ frames := 7, cells := 0, slots := 0, locals := 294 } : Room) s m args below meth c A (cx D dA A V L N ad xs) cells slots (vx_MQ below (va_Qi (fun r (w9 : Int32) => r = w9 ∧ o = .inl w9 ∧ True) (fun (w9 : Int32) t => cx D dA A V L N ad xs t.heap) A) (vx_X (fun (u : Nat) => o = .inr u) (fun E u t => E = exn u ∧ cx D dA A V L N ad xs t.heap) A) args s 0 0 A) 70 [(2, .ref (ad 9 v2.toNatClampNeg)), (3, .int v3), (4, .ref (ad 29 0)), (5, .int v5), (6, .int v6)] [] [] := by
  obtain ⟨hcs1, hcs2⟩ := hcs
  unfold fc_aside_70 at h
  obtain ⟨x1, ex1, h⟩ := zb h
  refine z_iinc (v := x1) (lo' := [(6, .int x1), (2, .ref (ad 9 v2.toNatClampNeg)), (3, .int v3), (4, .ref (ad 29 0)), (5, .int v5)]) X dX11_aside_70 rfl ex1 (by rw [hml]; decide) rfl rfl ?_
  refine z_goto (tgt := 22) X dX11_aside_73 (by decide) ?_
  refine zz.pick (lo' := [(2, .ref (ad 9 v2.toNatClampNeg)), (3, .int v3), (4, .ref (ad 29 0)), (5, .int v5), (6, .int x1)]) [2, 3, 4, 5, 6] rfl ?_
  exact hk22 h11 fv2 h
set_option maxRecDepth 100000 in
set_option maxHeartbeats 4000000 in
theorem bz_aside_22 {p : Program} {l : Launch} {e : Env} {s : State} {m : MethodId} {args : Array Value} {below : List Frame} {meth : Method} {c : Code} {D : va_G} {dA : Nat → ClassId} {A : Nat → Prop} {xs : va_W} {o : (Int32) ⊕ Nat} {V : Rho} {L : Lst} {N : Cnt} {ad : Adr} (X : zc p l s m args meth c cX11_aside RX11 D dA A) (hml : c.maxLocals = 8) (hr : meth.sig.returnType = (some .int)) (hnil : ∀ x ∈ c.exceptionTable.toList, False) (h9 : ∀ u, o ≠ .inr u) {cells slots : Nat} (hcs : cells + 0 ≤ 0 ∧ slots + 0 ≤ 0) : ∀ (n : Nat) (h11 : 0 < N 11) {v2 : Int32} {v3 : Int32} {v5 : Int32} {v6 : Int32} (fv2 : vp_in v2 (N 9)) , fc_aside_22 n V L N v2 v3 v5 v6 = some o → zz p l e ({ frames := 7, cells := 0, slots := 0, locals := 294 } : Room) s m args below meth c A (cx D dA A V L N ad xs) cells slots (vx_MQ below (va_Qi (fun r (w9 : Int32) => r = w9 ∧ o = .inl w9 ∧ True) (fun (w9 : Int32) t => cx D dA A V L N ad xs t.heap) A) (vx_X (fun (u : Nat) => o = .inr u) (fun E u t => E = exn u ∧ cx D dA A V L N ad xs t.heap) A) args s 0 0 A) 22 [(2, .ref (ad 9 v2.toNatClampNeg)), (3, .int v3), (4, .ref (ad 29 0)), (5, .int v5), (6, .int v6)] [] [] := by
  obtain ⟨hcs1, hcs2⟩ := hcs
  intro n
  induction n with
  | zero => intro  h11 v2 v3 v5 v6 fv2 h; exact (nomatch (show none = some o from h))
  | succ n ih =>
    intro  h11 v2 v3 v5 v6 fv2 h
    rw [fc_aside_22] at h
    refine z_iload X dX11_aside_22 rfl ?_
    refine z_iload X dX11_aside_24 rfl ?_
    refine z_icmp_ge (tgt := 76) X dX11_aside_26 (by decide) (fun q => ?_) (fun q => ?_)
    · have h := zp q h
      refine z_iload_n X dX11_aside_76 rfl rfl ?_
      obtain rfl := Option.some.inj h
      refine zx_ret ?_
      refine zz.widen (k := 0) (n := 0) (by omega) (by omega) ?_
      exact z_iret X hr rfl (fun t hG hF _ => ⟨⟨_, _, rfl, ⟨rfl, ⟨rfl, trivial⟩⟩, hG⟩, hF⟩) dX11_aside_77
    · have h := zn q h
      refine z_aload X dX11_aside_29 rfl ?_
      refine z_iload X dX11_aside_31 rfl ?_
      obtain ⟨q1, h⟩ := zg h
      refine c_aald X 29 rfl rfl rfl h11 q1 dX11_aside_33 ?_
      refine zz.pre (fun H hG => vp_of q1 (hG.2.2.2.2.2.2.2.2.1.1 h11).2.2.2.2.1) (fun (p2 : vp_in v6 (N 5)) => ?_)
      refine z_astore (lo' := [(7, .ref (ad 5 v6.toNatClampNeg)), (2, .ref (ad 9 v2.toNatClampNeg)), (3, .int v3), (4, .ref (ad 29 0)), (5, .int v5), (6, .int v6)]) X dX11_aside_34 (by rw [hml]; decide) rfl rfl ?_
      refine z_aload X dX11_aside_36 rfl ?_
      refine c_get X 5 4 (v := va_rf (qn (ad 4) (V 104 v6.toNatClampNeg))) rx5_ws rfl rfl rfl (vp_lt p2) g_254 rfl dX11_aside_38 ?_
      refine zz.pre (fun H hG => cx_fact (k := 5) (i := v6.toNatClampNeg) (f := 4) rfl (vp_lt p2) rfl hG) (fun (p3 : (V 104 v6.toNatClampNeg) = -1 ∨ vp_in (V 104 v6.toNatClampNeg) (N 4)) => ?_)
      refine c_ifnull (tgt := 70) X dX11_aside_41 (by decide) (fun q => ?_) (fun q => ?_)
      · have h := zp q h
        refine zz.pick (lo' := [(2, .ref (ad 9 v2.toNatClampNeg)), (3, .int v3), (4, .ref (ad 29 0)), (5, .int v5), (6, .int v6)]) [2, 3, 4, 5, 6] rfl ?_
        exact bz_aside_70 X hml hr hnil h9 ⟨by omega, by omega⟩ ih h11 fv2 h
      · have h := zn q h
        have p4 := p3.resolve_left q
        refine z_aload X dX11_aside_44 rfl ?_
        refine c_get X 5 4 (v := va_rf (qn (ad 4) (V 104 v6.toNatClampNeg))) rx5_ws rfl rfl rfl (vp_lt p2) g_254 rfl dX11_aside_46 ?_
        rw [qn_ref (vp_ne p4)]
        refine c_get X 4 3 (v := .ref (ad 9 (V 83 (V 104 v6.toNatClampNeg).toNatClampNeg).toNatClampNeg)) rx4_ws rfl rfl rfl (vp_lt p4) g_933 rfl dX11_aside_49 ?_
        refine zz.pre (fun H hG => cx_fact (k := 4) (i := (V 104 v6.toNatClampNeg).toNatClampNeg) (f := 3) rfl (vp_lt p4) rfl hG) (fun (p5 : vp_in (V 83 (V 104 v6.toNatClampNeg).toNatClampNeg) (N 9)) => ?_)
        refine z_aload_n X dX11_aside_52 rfl rfl ?_
        refine c_acmp_ne (tgt := 70) X (k := 9) rfl p5 fv2 dX11_aside_53 (by decide) (fun q => ?_) (fun q => ?_)
        · have h := zp q h
          refine z_iload_n X dX11_aside_56 rfl rfl ?_
          refine z_aload X dX11_aside_57 rfl ?_
          refine c_get X 5 4 (v := va_rf (qn (ad 4) (V 104 v6.toNatClampNeg))) rx5_ws rfl rfl rfl (vp_lt p2) g_254 rfl dX11_aside_59 ?_
          rw [qn_ref (vp_ne p4)]
          refine c_get X 4 5 (v := .ref (ad 8 (V 104 v6.toNatClampNeg).toNatClampNeg)) rx4_ws rfl rfl rfl (vp_lt p4) g_936 rfl dX11_aside_62 ?_
          refine zz.pre (fun H hG => vp_mono p4 hG.2.2.2.2.2.2.2.2.1.2.1) (fun (p6 : vp_in (V 104 v6.toNatClampNeg) (N 8)) => ?_)
          obtain ⟨o7, co7, h⟩ := zb2 h
          refine z_callVi (As := []) (rest := [.int v3]) (nA := 0) (mc := 0) (ms := 0) (rm := ({ frames := 1, cells := 0, slots := 0, locals := 42 } : Room)) (r0 := o7) (pu := fun (_ : Unit) => True) (G1 := fun _ => cx D dA A V L N ad xs) X (cc_Slice_moneyLeft l X.2.2.2.2.2.2.2.2 X.2.2.2.2.2.2.1 h11 p6 co7) g_833 g_834 g_835 g_34 g_836 hd_yX8_moneyLeft ⟨rfl, rfl, Nat.le_of_ble_eq_true rfl, Nat.le_of_ble_eq_true rfl⟩ rfl (fun _ hG => cx_recv X (k := 8) (n := 3) rfl rfl (vp_lt p6) hG) rfl (Nat.le_of_ble_eq_true rfl) dX11_aside_65 ⟨by show _ ≤ 0; omega, by show _ ≤ 0; omega⟩ (fun _ _ => ?_)
          refine z_iadd X dX11_aside_68 ?_
          obtain ⟨x8, ex8, h⟩ := zb h
          rw [ex8]
          refine z_istore_n (lo' := [(3, .int x8), (7, .ref (ad 5 v6.toNatClampNeg)), (2, .ref (ad 9 v2.toNatClampNeg)), (4, .ref (ad 29 0)), (5, .int v5), (6, .int v6)]) X dX11_aside_69 rfl (by rw [hml]; decide) rfl rfl ?_
          refine zz.pick (lo' := [(2, .ref (ad 9 v2.toNatClampNeg)), (3, .int x8), (4, .ref (ad 29 0)), (5, .int v5), (6, .int v6)]) [2, 3, 4, 5, 6] rfl ?_
          exact bz_aside_70 X hml hr hnil h9 ⟨by omega, by omega⟩ ih h11 fv2 h
        · have h := zn q h
          refine zz.pick (lo' := [(2, .ref (ad 9 v2.toNatClampNeg)), (3, .int v3), (4, .ref (ad 29 0)), (5, .int v5), (6, .int v6)]) [2, 3, 4, 5, 6] rfl ?_
          exact bz_aside_70 X hml hr hnil h9 ⟨by omega, by omega⟩ ih h11 fv2 h
set_option maxRecDepth 100000 in
set_option maxHeartbeats 4000000 in
theorem bz_aside {p : Program} {l : Launch} {e : Env} {s : State} {m : MethodId} {args : Array Value} {below : List Frame} {meth : Method} {c : Code} {D : va_G} {dA : Nat → ClassId} {A : Nat → Prop} {xs : va_W} {o : (Int32) ⊕ Nat} {V : Rho} {L : Lst} {N : Cnt} {ad : Adr} (X : zc p l s m args meth c cX11_aside RX11 D dA A) (hml : c.maxLocals = 8) (hr : meth.sig.returnType = (some .int)) (hnil : ∀ x ∈ c.exceptionTable.toList, False) (h9 : ∀ u, o ≠ .inr u) {cells slots : Nat} (hcs : cells + 0 ≤ 0 ∧ slots + 0 ≤ 0) (h11 : 0 < N 11) {a1 : Int32} (h : fc_aside V L N a1 = some o) : zz p l e ({ frames := 7, cells := 0, slots := 0, locals := 294 } : Room) s m args below meth c A (cx D dA A V L N ad xs) cells slots (vx_MQ below (va_Qi (fun r (w9 : Int32) => r = w9 ∧ o = .inl w9 ∧ True) (fun (w9 : Int32) t => cx D dA A V L N ad xs t.heap) A) (vx_X (fun (u : Nat) => o = .inr u) (fun E u t => E = exn u ∧ cx D dA A V L N ad xs t.heap) A) args s 0 0 A) 0 [(0, .ref (ad 11 0)), (1, .int a1)] [] [] := by
  obtain ⟨hcs1, hcs2⟩ := hcs
  unfold fc_aside at h
  refine z_aload_n X dX11_aside_0 rfl rfl ?_
  refine z_iload_n X dX11_aside_1 rfl rfl ?_
  obtain ⟨o1, co1, h⟩ := zb2 h
  have k9 : ∀ u, o1 ≠ .inr u := fun u z => by rw [z] at h; exact h9 u (Option.some.inj h).symm
  refine z_xVq (As := [.int a1]) (rest := []) (nA := 1) (mc := 0) (ms := 0) (rm := ({ frames := 6, cells := 0, slots := 0, locals := 252 } : Room)) (S := Int32) (r0 := fun u => some (ad 9 u.toNatClampNeg)) (pu := fun u => o1 = .inl u ∧ vp_in u (N 9)) (G1 := fun u => cx D dA A V L N ad xs) X hnil (cz_walletAt l X.2.2.2.2.2.2.2.2 X.2.2.2.2.2.2.1 h11 k9 co1) g_491 g_493 gs_7 g_1 g_494 hd_yX11_walletAt ⟨rfl, rfl, Nat.le_of_ble_eq_true rfl, Nat.le_of_ble_eq_true rfl⟩ rfl (fun _ hG => cx_recv X (k := 11) (n := 9) rfl rfl h11 hG)  rfl (Nat.le_of_ble_eq_true rfl) dX11_aside_2 ⟨by show _ ≤ 0; omega, by show _ ≤ 0; omega⟩ ⟨by omega, by omega⟩ (fun u hu t hG hF => ?_) (fun u2 hu => ?_)
  · rw [hu] at h
    obtain rfl := Option.some.inj h
    exact ⟨u, rfl, ⟨rfl, hG⟩, hF⟩
  · rw [hu.1] at h
    have p3 := hu.2
    simp only [Sum.elim_inl] at h
    refine z_astore_n (lo' := [(2, .ref (ad 9 u2.toNatClampNeg)), (0, .ref (ad 11 0)), (1, .int a1)]) X dX11_aside_5 rfl (by rw [hml]; decide) rfl rfl ?_
    refine z_iconst (v := 0) X dX11_aside_6 (by decide) ?_
    refine z_istore_n (lo' := [(3, .int 0), (2, .ref (ad 9 u2.toNatClampNeg)), (0, .ref (ad 11 0)), (1, .int a1)]) X dX11_aside_7 rfl (by rw [hml]; decide) rfl rfl ?_
    refine z_aload_n X dX11_aside_8 rfl rfl ?_
    refine c_get X 11 3 (v := .ref (ad 29 0)) rx11_ws rfl rfl rfl h11 g_275 rfl dX11_aside_9 ?_
    refine z_astore (lo' := [(4, .ref (ad 29 0)), (3, .int 0), (2, .ref (ad 9 u2.toNatClampNeg)), (0, .ref (ad 11 0)), (1, .int a1)]) X dX11_aside_12 (by rw [hml]; decide) rfl rfl ?_
    refine z_aload X dX11_aside_14 rfl ?_
    refine c_alen X 29 (n := 10) rfl rfl rfl h11 (by decide) dX11_aside_16 ?_
    refine z_istore (lo' := [(5, .int 10), (4, .ref (ad 29 0)), (3, .int 0), (2, .ref (ad 9 u2.toNatClampNeg)), (0, .ref (ad 11 0)), (1, .int a1)]) X dX11_aside_17 (by rw [hml]; decide) rfl rfl ?_
    refine z_iconst (v := 0) X dX11_aside_19 (by decide) ?_
    refine z_istore (lo' := [(6, .int 0), (5, .int 10), (4, .ref (ad 29 0)), (3, .int 0), (2, .ref (ad 9 u2.toNatClampNeg)), (0, .ref (ad 11 0)), (1, .int a1)]) X dX11_aside_20 (by rw [hml]; decide) rfl rfl ?_
    refine zz.pick (lo' := [(2, .ref (ad 9 u2.toNatClampNeg)), (3, .int 0), (4, .ref (ad 29 0)), (5, .int 10), (6, .int 0)]) [2, 3, 4, 5, 6] rfl ?_
    exact bz_aside_22 X hml hr hnil h9 ⟨by omega, by omega⟩ FU h11 p3 h
theorem cz_aside (l : Launch) {D : va_G} {dA : Nat → ClassId} {A : Nat → Prop} {n : Nat} (hst : l.stackTraces = false) (hA : ∀ q, n ≤ q → A q) {V : Rho} {L : Lst} {N : Cnt} {ad : Adr} {xs : va_W} (h11 : 0 < N 11) {a1 : Int32} {o : (Int32) ⊕ Nat} (h9 : ∀ u, o ≠ .inr u) (h : fc_aside V L N a1 = some o) : vx_Met l yX11_aside (.code yX11_aside cX11_aside 8 (some .int) :: gT) ({ frames := 7, cells := 0, slots := 0, locals := 294 } : Room) (va_Pc [.ref (ad 11 0), .int a1] (zB D dA A n (cx D dA A V L N ad xs))) (va_Qi (fun r (w9 : Int32) => r = w9 ∧ o = .inl w9 ∧ True) (fun (w9 : Int32) t => cx D dA A V L N ad xs t.heap) A) (vx_X (fun (u : Nat) => o = .inr u) (fun E u t => E = exn u ∧ cx D dA A V L N ad xs t.heap) A) 0 0 A :=
  zx_met (by decide) hA hst (Nat.le_of_ble_eq_true rfl) rfl rfl (fun p e s m below meth c X hml hr hnil => bz_aside X hml hr hnil h9 ⟨by omega, by omega⟩ h11 h)
-- spent
set_option maxRecDepth 100000 in
set_option maxHeartbeats 4000000 in
theorem bz_spent {p : Program} {l : Launch} {e : Env} {s : State} {m : MethodId} {args : Array Value} {below : List Frame} {meth : Method} {c : Code} {D : va_G} {dA : Nat → ClassId} {A : Nat → Prop} {xs : va_W} {o : (Int32) ⊕ Nat} {V : Rho} {L : Lst} {N : Cnt} {ad : Adr} (X : zc p l s m args meth c cX11_spent RX11 D dA A) (hml : c.maxLocals = 2) (hr : meth.sig.returnType = (some .int)) (hnil : ∀ x ∈ c.exceptionTable.toList, False) (h9 : ∀ u, o ≠ .inr u) {cells slots : Nat} (hcs : cells + 0 ≤ 0 ∧ slots + 0 ≤ 0) (h11 : 0 < N 11) {a1 : Int32} (h : fc_spent V L N a1 = some o) : zz p l e ({ frames := 7, cells := 0, slots := 0, locals := 294 } : Room) s m args below meth c A (cx D dA A V L N ad xs) cells slots (vx_MQ below (va_Qi (fun r (w9 : Int32) => r = w9 ∧ o = .inl w9 ∧ True) (fun (w9 : Int32) t => cx D dA A V L N ad xs t.heap) A) (vx_X (fun (u : Nat) => o = .inr u) (fun E u t => E = exn u ∧ cx D dA A V L N ad xs t.heap) A) args s 0 0 A) 0 [(0, .ref (ad 11 0)), (1, .int a1)] [] [] := by
  obtain ⟨hcs1, hcs2⟩ := hcs
  unfold fc_spent at h
  refine z_aload_n X dX11_spent_0 rfl rfl ?_
  refine z_iload_n X dX11_spent_1 rfl rfl ?_
  obtain ⟨o1, co1, h⟩ := zb2 h
  have k9 : ∀ u, o1 ≠ .inr u := fun u z => by rw [z] at h; exact h9 u (Option.some.inj h).symm
  refine z_xVq (As := [.int a1]) (rest := []) (nA := 1) (mc := 0) (ms := 0) (rm := ({ frames := 6, cells := 0, slots := 0, locals := 252 } : Room)) (S := Int32) (r0 := fun u => some (ad 9 u.toNatClampNeg)) (pu := fun u => o1 = .inl u ∧ vp_in u (N 9)) (G1 := fun u => cx D dA A V L N ad xs) X hnil (cz_walletAt l X.2.2.2.2.2.2.2.2 X.2.2.2.2.2.2.1 h11 k9 co1) g_491 g_493 gs_7 g_1 g_494 hd_yX11_walletAt ⟨rfl, rfl, Nat.le_of_ble_eq_true rfl, Nat.le_of_ble_eq_true rfl⟩ rfl (fun _ hG => cx_recv X (k := 11) (n := 9) rfl rfl h11 hG)  rfl (Nat.le_of_ble_eq_true rfl) dX11_spent_2 ⟨by show _ ≤ 0; omega, by show _ ≤ 0; omega⟩ ⟨by omega, by omega⟩ (fun u hu t hG hF => ?_) (fun u2 hu => ?_)
  · rw [hu] at h
    obtain rfl := Option.some.inj h
    exact ⟨u, rfl, ⟨rfl, hG⟩, hF⟩
  · rw [hu.1] at h
    have p3 := hu.2
    simp only [Sum.elim_inl] at h
    refine c_get X 9 3 (v := .int (V 183 u2.toNatClampNeg)) rx9_ws rfl rfl rfl (vp_lt p3) g_229 rfl dX11_spent_5 ?_
    obtain rfl := Option.some.inj h
    refine zx_ret ?_
    refine zz.widen (k := 0) (n := 0) (by omega) (by omega) ?_
    exact z_iret X hr rfl (fun t hG hF _ => ⟨⟨_, _, rfl, ⟨rfl, ⟨rfl, trivial⟩⟩, hG⟩, hF⟩) dX11_spent_8
theorem cz_spent (l : Launch) {D : va_G} {dA : Nat → ClassId} {A : Nat → Prop} {n : Nat} (hst : l.stackTraces = false) (hA : ∀ q, n ≤ q → A q) {V : Rho} {L : Lst} {N : Cnt} {ad : Adr} {xs : va_W} (h11 : 0 < N 11) {a1 : Int32} {o : (Int32) ⊕ Nat} (h9 : ∀ u, o ≠ .inr u) (h : fc_spent V L N a1 = some o) : vx_Met l yX11_spent (.code yX11_spent cX11_spent 2 (some .int) :: gT) ({ frames := 7, cells := 0, slots := 0, locals := 294 } : Room) (va_Pc [.ref (ad 11 0), .int a1] (zB D dA A n (cx D dA A V L N ad xs))) (va_Qi (fun r (w9 : Int32) => r = w9 ∧ o = .inl w9 ∧ True) (fun (w9 : Int32) t => cx D dA A V L N ad xs t.heap) A) (vx_X (fun (u : Nat) => o = .inr u) (fun E u t => E = exn u ∧ cx D dA A V L N ad xs t.heap) A) 0 0 A :=
  zx_met (by decide) hA hst (Nat.le_of_ble_eq_true rfl) rfl rfl (fun p e s m below meth c X hml hr hnil => bz_spent X hml hr hnil h9 ⟨by omega, by omega⟩ h11 h)
-- left
set_option maxRecDepth 100000 in
set_option maxHeartbeats 4000000 in
theorem bz_left {p : Program} {l : Launch} {e : Env} {s : State} {m : MethodId} {args : Array Value} {below : List Frame} {meth : Method} {c : Code} {D : va_G} {dA : Nat → ClassId} {A : Nat → Prop} {xs : va_W} {o : (Int32) ⊕ Nat} {V : Rho} {L : Lst} {N : Cnt} {ad : Adr} (X : zc p l s m args meth c cX11_left RX11 D dA A) (hml : c.maxLocals = 3) (hr : meth.sig.returnType = (some .int)) (hnil : ∀ x ∈ c.exceptionTable.toList, False) (h9 : ∀ u, o ≠ .inr u) {cells slots : Nat} (hcs : cells + 0 ≤ 0 ∧ slots + 0 ≤ 0) (h11 : 0 < N 11) {a1 : Int32} (h : fc_left V L N a1 = some o) : zz p l e ({ frames := 9, cells := 0, slots := 0, locals := 378 } : Room) s m args below meth c A (cx D dA A V L N ad xs) cells slots (vx_MQ below (va_Qi (fun r (w9 : Int32) => r = w9 ∧ o = .inl w9 ∧ True) (fun (w9 : Int32) t => cx D dA A V L N ad xs t.heap) A) (vx_X (fun (u : Nat) => o = .inr u) (fun E u t => E = exn u ∧ cx D dA A V L N ad xs t.heap) A) args s 0 0 A) 0 [(0, .ref (ad 11 0)), (1, .int a1)] [] [] := by
  obtain ⟨hcs1, hcs2⟩ := hcs
  unfold fc_left at h
  refine z_iload_n X dX11_left_0 rfl rfl ?_
  refine z_if_lt (tgt := 15) X dX11_left_1 (by decide) (fun q => ?_) (fun q => ?_)
  · have h := zp q h
    obtain rfl := Option.some.inj h
    exact (h9 _ rfl).elim
  · have h := zn q h
    refine z_iload_n X dX11_left_4 rfl rfl ?_
    refine z_aload_n X dX11_left_5 rfl rfl ?_
    refine c_get X 11 4 (v := .ref (ad 12 0)) rx11_ws rfl rfl rfl h11 g_276 rfl dX11_left_6 ?_
    obtain ⟨x1, ex1, h⟩ := zb h
    refine z_callVi (As := []) (rest := [.int a1]) (nA := 0) (mc := 0) (ms := 0) (rm := ({ frames := 8, cells := 0, slots := 0, locals := 336 } : Room)) (r0 := (nI (L 12 0).length)) (pu := fun (_ : Unit) => True) (G1 := fun _ => cx D dA A V L N ad xs) X (cl_size l X.2.2.2.2.2.2.2.2 X.2.2.2.2.2.2.1 (k := 12) (i := 0) rfl rfl h11) g_308 g_309 g_310 g_4 g_311 hd_yJx4a65c_size_8abf5 ⟨rfl, rfl, Nat.le_of_ble_eq_true rfl, Nat.le_of_ble_eq_true rfl⟩ rfl (fun _ hG => cx_recvL X (k := 12) rfl rfl h11 hG) rfl (Nat.le_of_ble_eq_true rfl) dX11_left_9 ⟨by show _ ≤ 0; omega, by show _ ≤ 0; omega⟩ (fun _ _ => ?_)
    rw [ex1]
    refine z_icmp_lt (tgt := 25) X dX11_left_12 (by decide) (fun q => ?_) (fun q => ?_)
    · have h := zp q h
      refine z_aload_n X dX11_left_25 rfl rfl ?_
      refine c_get X 11 4 (v := .ref (ad 12 0)) rx11_ws rfl rfl rfl h11 g_276 rfl dX11_left_26 ?_
      refine z_iload_n X dX11_left_29 rfl rfl ?_
      obtain ⟨q2, h⟩ := zg h
      obtain ⟨x3, ex3, h⟩ := zb h
      refine z_callVq (As := [.int a1]) (rest := []) (nA := 1) (mc := 0) (ms := 0) (rm := ({ frames := 8, cells := 0, slots := 0, locals := 336 } : Room)) (ro := fun _ => some (ad 0 ((L 12 0).getD a1.toNatClampNeg 0).toNatClampNeg)) (pu := fun (_ : Unit) => True) (G1 := fun _ => cx D dA A V L N ad xs) X (cl_get l X.2.2.2.2.2.2.2.2 X.2.2.2.2.2.2.1 (k := 12) (i := 0) (x := a1) rfl rfl h11 q2) g_852 g_554 g_555 g_4 g_556 hd_yJx4a65c_get_915e3 ⟨rfl, rfl, Nat.le_of_ble_eq_true rfl, Nat.le_of_ble_eq_true rfl⟩ rfl (fun _ hG => cx_recvL X (k := 12) rfl rfl h11 hG) rfl (Nat.le_of_ble_eq_true rfl) dX11_left_30 ⟨by show _ ≤ 0; omega, by show _ ≤ 0; omega⟩ (fun _ _ => ?_)
      rw [ex3]
      refine zz.pre (fun H hG => cx_elt (k := 12) rfl rfl h11 q2 hG) (fun p4 => ?_)
      rw [ex3] at p4
      refine c_cast X (k := 0) (n := 4) rfl rfl (vp_lt p4) g_523 dX11_left_33 ?_
      refine z_astore_n (lo' := [(2, .ref (ad 0 x3.toNatClampNeg)), (0, .ref (ad 11 0)), (1, .int a1)]) X dX11_left_36 rfl (by rw [hml]; decide) rfl rfl ?_
      refine z_aload_n X dX11_left_37 rfl rfl ?_
      refine z_aload_n X dX11_left_38 rfl rfl ?_
      refine c_get X 11 8 (v := .int (V 228 0)) rx11_ws rfl rfl rfl h11 g_280 rfl dX11_left_39 ?_
      obtain ⟨o5, co5, h⟩ := zb2 h
      refine z_callSi (As := [.int (V 228 0)]) (rest := [.ref (ad 0 x3.toNatClampNeg)]) (nA := 1) (mc := 0) (ms := 0) (rm := ({ frames := 1, cells := 0, slots := 0, locals := 42 } : Room)) (r0 := o5) (pu := fun (_ : Unit) => True) (G1 := fun _ => cx D dA A V L N ad xs) X (cc_dayOf l X.2.2.2.2.2.2.2.2 X.2.2.2.2.2.2.1 h11 co5) g_525 g_526 g_1 g_527 hd_yX11_dayOf ⟨rfl, rfl, Nat.le_of_ble_eq_true rfl, Nat.le_of_ble_eq_true rfl⟩ rfl rfl (Nat.le_of_ble_eq_true rfl) dX11_left_42 ⟨by show _ ≤ 0; omega, by show _ ≤ 0; omega⟩ (fun _ _ => ?_)
      obtain ⟨o6, co6, h⟩ := zb2 h
      refine z_callVi (As := [.int o5]) (rest := []) (nA := 1) (mc := 0) (ms := 0) (rm := ({ frames := 1, cells := 0, slots := 0, locals := 42 } : Room)) (r0 := o6) (pu := fun (_ : Unit) => True) (G1 := fun _ => cx D dA A V L N ad xs) X (cc_Bundle_isOver l X.2.2.2.2.2.2.2.2 X.2.2.2.2.2.2.1 h11 p4 co6) g_853 g_854 g_855 g_22 g_856 hd_yX0_isOver ⟨rfl, rfl, Nat.le_of_ble_eq_true rfl, Nat.le_of_ble_eq_true rfl⟩ rfl (fun _ hG => cx_recv X (k := 0) (n := 4) rfl rfl (vp_lt p4) hG) rfl (Nat.le_of_ble_eq_true rfl) dX11_left_45 ⟨by show _ ≤ 0; omega, by show _ ≤ 0; omega⟩ (fun _ _ => ?_)
      refine z_if_eq (tgt := 55) X dX11_left_48 (by decide) (fun q => ?_) (fun q => ?_)
      · have h := zp q h
        refine z_aload_n X dX11_left_55 rfl rfl ?_
        refine c_get X 0 3 (v := .int (V 3 x3.toNatClampNeg)) rx0_ws rfl rfl rfl (vp_lt p4) g_538 rfl dX11_left_56 ?_
        obtain rfl := Option.some.inj h
        refine zx_ret ?_
        refine zz.widen (k := 0) (n := 0) (by omega) (by omega) ?_
        exact z_iret X hr rfl (fun t hG hF _ => ⟨⟨_, _, rfl, ⟨rfl, ⟨rfl, trivial⟩⟩, hG⟩, hF⟩) dX11_left_59
      · have h := zn q h
        refine z_iconst (v := 0) X dX11_left_51 (by decide) ?_
        refine z_goto (tgt := 59) X dX11_left_52 (by decide) ?_
        obtain rfl := Option.some.inj h
        refine zx_ret ?_
        refine zz.widen (k := 0) (n := 0) (by omega) (by omega) ?_
        exact z_iret X hr rfl (fun t hG hF _ => ⟨⟨_, _, rfl, ⟨rfl, ⟨rfl, trivial⟩⟩, hG⟩, hF⟩) dX11_left_59
    · have h := zn q h
      obtain rfl := Option.some.inj h
      exact (h9 _ rfl).elim
theorem cz_left (l : Launch) {D : va_G} {dA : Nat → ClassId} {A : Nat → Prop} {n : Nat} (hst : l.stackTraces = false) (hA : ∀ q, n ≤ q → A q) {V : Rho} {L : Lst} {N : Cnt} {ad : Adr} {xs : va_W} (h11 : 0 < N 11) {a1 : Int32} {o : (Int32) ⊕ Nat} (h9 : ∀ u, o ≠ .inr u) (h : fc_left V L N a1 = some o) : vx_Met l yX11_left (.code yX11_left cX11_left 3 (some .int) :: gT) ({ frames := 9, cells := 0, slots := 0, locals := 378 } : Room) (va_Pc [.ref (ad 11 0), .int a1] (zB D dA A n (cx D dA A V L N ad xs))) (va_Qi (fun r (w9 : Int32) => r = w9 ∧ o = .inl w9 ∧ True) (fun (w9 : Int32) t => cx D dA A V L N ad xs t.heap) A) (vx_X (fun (u : Nat) => o = .inr u) (fun E u t => E = exn u ∧ cx D dA A V L N ad xs t.heap) A) 0 0 A :=
  zx_met (by decide) hA hst (Nat.le_of_ble_eq_true rfl) rfl rfl (fun p e s m below meth c X hml hr hnil => bz_left X hml hr hnil h9 ⟨by omega, by omega⟩ h11 h)
-- cellOf
set_option maxRecDepth 100000 in
set_option maxHeartbeats 4000000 in
theorem bz_cellOf {p : Program} {l : Launch} {e : Env} {s : State} {m : MethodId} {args : Array Value} {below : List Frame} {meth : Method} {c : Code} {D : va_G} {dA : Nat → ClassId} {A : Nat → Prop} {xs : va_W} {o : (Int32) ⊕ Nat} {V : Rho} {L : Lst} {N : Cnt} {ad : Adr} (X : zc p l s m args meth c cX11_cellOf RX11 D dA A) (hml : c.maxLocals = 2) (hr : meth.sig.returnType = (some .int)) (hnil : ∀ x ∈ c.exceptionTable.toList, False) (h9 : ∀ u, o ≠ .inr u) {cells slots : Nat} (hcs : cells + 0 ≤ 0 ∧ slots + 0 ≤ 0) (h11 : 0 < N 11) {a1 : Int32} (h : fc_cellOf V L N a1 = some o) : zz p l e ({ frames := 7, cells := 0, slots := 0, locals := 294 } : Room) s m args below meth c A (cx D dA A V L N ad xs) cells slots (vx_MQ below (va_Qi (fun r (w9 : Int32) => r = w9 ∧ o = .inl w9 ∧ True) (fun (w9 : Int32) t => cx D dA A V L N ad xs t.heap) A) (vx_X (fun (u : Nat) => o = .inr u) (fun E u t => E = exn u ∧ cx D dA A V L N ad xs t.heap) A) args s 0 0 A) 0 [(0, .ref (ad 11 0)), (1, .int a1)] [] [] := by
  obtain ⟨hcs1, hcs2⟩ := hcs
  unfold fc_cellOf at h
  refine z_aload_n X dX11_cellOf_0 rfl rfl ?_
  refine z_iload_n X dX11_cellOf_1 rfl rfl ?_
  obtain ⟨o1, co1, h⟩ := zb2 h
  have k9 : ∀ u, o1 ≠ .inr u := fun u z => by rw [z] at h; exact h9 u (Option.some.inj h).symm
  refine z_xVq (As := [.int a1]) (rest := []) (nA := 1) (mc := 0) (ms := 0) (rm := ({ frames := 6, cells := 0, slots := 0, locals := 252 } : Room)) (S := Int32) (r0 := fun u => some (ad 5 u.toNatClampNeg)) (pu := fun u => o1 = .inl u ∧ vp_in u (N 5)) (G1 := fun u => cx D dA A V L N ad xs) X hnil (cz_phoneAt l X.2.2.2.2.2.2.2.2 X.2.2.2.2.2.2.1 h11 k9 co1) g_477 g_479 gs_6 g_1 g_480 hd_yX11_phoneAt ⟨rfl, rfl, Nat.le_of_ble_eq_true rfl, Nat.le_of_ble_eq_true rfl⟩ rfl (fun _ hG => cx_recv X (k := 11) (n := 9) rfl rfl h11 hG)  rfl (Nat.le_of_ble_eq_true rfl) dX11_cellOf_2 ⟨by show _ ≤ 0; omega, by show _ ≤ 0; omega⟩ ⟨by omega, by omega⟩ (fun u hu t hG hF => ?_) (fun u2 hu => ?_)
  · rw [hu] at h
    obtain rfl := Option.some.inj h
    exact ⟨u, rfl, ⟨rfl, hG⟩, hF⟩
  · rw [hu.1] at h
    have p3 := hu.2
    simp only [Sum.elim_inl] at h
    refine c_get X 5 1 (v := .ref (ad 2 (V 101 u2.toNatClampNeg).toNatClampNeg)) rx5_ws rfl rfl rfl (vp_lt p3) g_248 rfl dX11_cellOf_5 ?_
    refine zz.pre (fun H hG => cx_fact (k := 5) (i := u2.toNatClampNeg) (f := 1) rfl (vp_lt p3) rfl hG) (fun (p4 : vp_in (V 101 u2.toNatClampNeg) (N 2)) => ?_)
    refine c_get X 2 0 (v := .int (V 40 (V 101 u2.toNatClampNeg).toNatClampNeg)) rx2_ws rfl rfl rfl (vp_lt p4) g_199 rfl dX11_cellOf_8 ?_
    obtain rfl := Option.some.inj h
    refine zx_ret ?_
    refine zz.widen (k := 0) (n := 0) (by omega) (by omega) ?_
    exact z_iret X hr rfl (fun t hG hF _ => ⟨⟨_, _, rfl, ⟨rfl, ⟨rfl, trivial⟩⟩, hG⟩, hF⟩) dX11_cellOf_11
theorem cz_cellOf (l : Launch) {D : va_G} {dA : Nat → ClassId} {A : Nat → Prop} {n : Nat} (hst : l.stackTraces = false) (hA : ∀ q, n ≤ q → A q) {V : Rho} {L : Lst} {N : Cnt} {ad : Adr} {xs : va_W} (h11 : 0 < N 11) {a1 : Int32} {o : (Int32) ⊕ Nat} (h9 : ∀ u, o ≠ .inr u) (h : fc_cellOf V L N a1 = some o) : vx_Met l yX11_cellOf (.code yX11_cellOf cX11_cellOf 2 (some .int) :: gT) ({ frames := 7, cells := 0, slots := 0, locals := 294 } : Room) (va_Pc [.ref (ad 11 0), .int a1] (zB D dA A n (cx D dA A V L N ad xs))) (va_Qi (fun r (w9 : Int32) => r = w9 ∧ o = .inl w9 ∧ True) (fun (w9 : Int32) t => cx D dA A V L N ad xs t.heap) A) (vx_X (fun (u : Nat) => o = .inr u) (fun E u t => E = exn u ∧ cx D dA A V L N ad xs t.heap) A) 0 0 A :=
  zx_met (by decide) hA hst (Nat.le_of_ble_eq_true rfl) rfl rfl (fun p e s m below meth c X hml hr hnil => bz_cellOf X hml hr hnil h9 ⟨by omega, by omega⟩ h11 h)
-- legOf
set_option maxRecDepth 100000 in
set_option maxHeartbeats 4000000 in
theorem bz_legOf {p : Program} {l : Launch} {e : Env} {s : State} {m : MethodId} {args : Array Value} {below : List Frame} {meth : Method} {c : Code} {D : va_G} {dA : Nat → ClassId} {A : Nat → Prop} {xs : va_W} {o : (Int32) ⊕ Nat} {V : Rho} {L : Lst} {N : Cnt} {ad : Adr} (X : zc p l s m args meth c cX11_legOf RX11 D dA A) (hml : c.maxLocals = 3) (hr : meth.sig.returnType = (some .int)) (hnil : ∀ x ∈ c.exceptionTable.toList, False) (h9 : ∀ u, o ≠ .inr u) {cells slots : Nat} (hcs : cells + 0 ≤ 0 ∧ slots + 0 ≤ 0) (h11 : 0 < N 11) {a1 : Int32} (h : fc_legOf V L N a1 = some o) : zz p l e ({ frames := 7, cells := 0, slots := 0, locals := 294 } : Room) s m args below meth c A (cx D dA A V L N ad xs) cells slots (vx_MQ below (va_Qi (fun r (w9 : Int32) => r = w9 ∧ o = .inl w9 ∧ True) (fun (w9 : Int32) t => cx D dA A V L N ad xs t.heap) A) (vx_X (fun (u : Nat) => o = .inr u) (fun E u t => E = exn u ∧ cx D dA A V L N ad xs t.heap) A) args s 0 0 A) 0 [(0, .ref (ad 11 0)), (1, .int a1)] [] [] := by
  obtain ⟨hcs1, hcs2⟩ := hcs
  unfold fc_legOf at h
  refine z_aload_n X dX11_legOf_0 rfl rfl ?_
  refine z_iload_n X dX11_legOf_1 rfl rfl ?_
  obtain ⟨o1, co1, h⟩ := zb2 h
  have k9 : ∀ u, o1 ≠ .inr u := fun u z => by rw [z] at h; exact h9 u (Option.some.inj h).symm
  refine z_xVq (As := [.int a1]) (rest := []) (nA := 1) (mc := 0) (ms := 0) (rm := ({ frames := 6, cells := 0, slots := 0, locals := 252 } : Room)) (S := Int32) (r0 := fun u => some (ad 5 u.toNatClampNeg)) (pu := fun u => o1 = .inl u ∧ vp_in u (N 5)) (G1 := fun u => cx D dA A V L N ad xs) X hnil (cz_phoneAt l X.2.2.2.2.2.2.2.2 X.2.2.2.2.2.2.1 h11 k9 co1) g_477 g_479 gs_6 g_1 g_480 hd_yX11_phoneAt ⟨rfl, rfl, Nat.le_of_ble_eq_true rfl, Nat.le_of_ble_eq_true rfl⟩ rfl (fun _ hG => cx_recv X (k := 11) (n := 9) rfl rfl h11 hG)  rfl (Nat.le_of_ble_eq_true rfl) dX11_legOf_2 ⟨by show _ ≤ 0; omega, by show _ ≤ 0; omega⟩ ⟨by omega, by omega⟩ (fun u hu t hG hF => ?_) (fun u2 hu => ?_)
  · rw [hu] at h
    obtain rfl := Option.some.inj h
    exact ⟨u, rfl, ⟨rfl, hG⟩, hF⟩
  · rw [hu.1] at h
    have p3 := hu.2
    simp only [Sum.elim_inl] at h
    refine c_get X 5 4 (v := va_rf (qn (ad 4) (V 104 u2.toNatClampNeg))) rx5_ws rfl rfl rfl (vp_lt p3) g_254 rfl dX11_legOf_5 ?_
    refine zz.pre (fun H hG => cx_fact (k := 5) (i := u2.toNatClampNeg) (f := 4) rfl (vp_lt p3) rfl hG) (fun (p4 : (V 104 u2.toNatClampNeg) = -1 ∨ vp_in (V 104 u2.toNatClampNeg) (N 4)) => ?_)
    refine z_astoreq_n (lo' := [(2, va_rf (qn (ad 4) (V 104 u2.toNatClampNeg))), (0, .ref (ad 11 0)), (1, .int a1)]) X dX11_legOf_8 rfl (by rw [hml]; decide) rfl rfl ?_
    refine z_aloadq_n X dX11_legOf_9 rfl rfl ?_
    refine c_ifnonnull (tgt := 17) X dX11_legOf_10 (by decide) (fun q => ?_) (fun q => ?_)
    · have h := zp q h
      refine z_iconst (v := (-1)) X dX11_legOf_13 (by decide) ?_
      refine z_goto (tgt := 21) X dX11_legOf_14 (by decide) ?_
      obtain rfl := Option.some.inj h
      refine zx_ret ?_
      refine zz.widen (k := 0) (n := 0) (by omega) (by omega) ?_
      exact z_iret X hr rfl (fun t hG hF _ => ⟨⟨_, _, rfl, ⟨rfl, ⟨rfl, trivial⟩⟩, hG⟩, hF⟩) dX11_legOf_21
    · have h := zn q h
      have p5 := p4.resolve_left q
      rw [qn_ref q]
      refine z_aload_n X dX11_legOf_17 rfl rfl ?_
      refine c_get X 4 0 (v := .int (V 80 (V 104 u2.toNatClampNeg).toNatClampNeg)) rx4_ws rfl rfl rfl (vp_lt p5) g_927 rfl dX11_legOf_18 ?_
      obtain rfl := Option.some.inj h
      refine zx_ret ?_
      refine zz.widen (k := 0) (n := 0) (by omega) (by omega) ?_
      exact z_iret X hr rfl (fun t hG hF _ => ⟨⟨_, _, rfl, ⟨rfl, ⟨rfl, trivial⟩⟩, hG⟩, hF⟩) dX11_legOf_21
theorem cz_legOf (l : Launch) {D : va_G} {dA : Nat → ClassId} {A : Nat → Prop} {n : Nat} (hst : l.stackTraces = false) (hA : ∀ q, n ≤ q → A q) {V : Rho} {L : Lst} {N : Cnt} {ad : Adr} {xs : va_W} (h11 : 0 < N 11) {a1 : Int32} {o : (Int32) ⊕ Nat} (h9 : ∀ u, o ≠ .inr u) (h : fc_legOf V L N a1 = some o) : vx_Met l yX11_legOf (.code yX11_legOf cX11_legOf 3 (some .int) :: gT) ({ frames := 7, cells := 0, slots := 0, locals := 294 } : Room) (va_Pc [.ref (ad 11 0), .int a1] (zB D dA A n (cx D dA A V L N ad xs))) (va_Qi (fun r (w9 : Int32) => r = w9 ∧ o = .inl w9 ∧ True) (fun (w9 : Int32) t => cx D dA A V L N ad xs t.heap) A) (vx_X (fun (u : Nat) => o = .inr u) (fun E u t => E = exn u ∧ cx D dA A V L N ad xs t.heap) A) 0 0 A :=
  zx_met (by decide) hA hst (Nat.le_of_ble_eq_true rfl) rfl rfl (fun p e s m below meth c X hml hr hnil => bz_legOf X hml hr hnil h9 ⟨by omega, by omega⟩ h11 h)
-- sliceOf
set_option maxRecDepth 100000 in
set_option maxHeartbeats 4000000 in
theorem bz_sliceOf {p : Program} {l : Launch} {e : Env} {s : State} {m : MethodId} {args : Array Value} {below : List Frame} {meth : Method} {c : Code} {D : va_G} {dA : Nat → ClassId} {A : Nat → Prop} {xs : va_W} {o : (Int32) ⊕ Nat} {V : Rho} {L : Lst} {N : Cnt} {ad : Adr} (X : zc p l s m args meth c cX11_sliceOf RX11 D dA A) (hml : c.maxLocals = 3) (hr : meth.sig.returnType = (some .int)) (hnil : ∀ x ∈ c.exceptionTable.toList, False) (h9 : ∀ u, o ≠ .inr u) {cells slots : Nat} (hcs : cells + 0 ≤ 0 ∧ slots + 0 ≤ 0) (h11 : 0 < N 11) {a1 : Int32} (h : fc_sliceOf V L N a1 = some o) : zz p l e ({ frames := 7, cells := 0, slots := 0, locals := 294 } : Room) s m args below meth c A (cx D dA A V L N ad xs) cells slots (vx_MQ below (va_Qi (fun r (w9 : Int32) => r = w9 ∧ o = .inl w9 ∧ True) (fun (w9 : Int32) t => cx D dA A V L N ad xs t.heap) A) (vx_X (fun (u : Nat) => o = .inr u) (fun E u t => E = exn u ∧ cx D dA A V L N ad xs t.heap) A) args s 0 0 A) 0 [(0, .ref (ad 11 0)), (1, .int a1)] [] [] := by
  obtain ⟨hcs1, hcs2⟩ := hcs
  unfold fc_sliceOf at h
  refine z_aload_n X dX11_sliceOf_0 rfl rfl ?_
  refine z_iload_n X dX11_sliceOf_1 rfl rfl ?_
  obtain ⟨o1, co1, h⟩ := zb2 h
  have k9 : ∀ u, o1 ≠ .inr u := fun u z => by rw [z] at h; exact h9 u (Option.some.inj h).symm
  refine z_xVq (As := [.int a1]) (rest := []) (nA := 1) (mc := 0) (ms := 0) (rm := ({ frames := 6, cells := 0, slots := 0, locals := 252 } : Room)) (S := Int32) (r0 := fun u => some (ad 5 u.toNatClampNeg)) (pu := fun u => o1 = .inl u ∧ vp_in u (N 5)) (G1 := fun u => cx D dA A V L N ad xs) X hnil (cz_phoneAt l X.2.2.2.2.2.2.2.2 X.2.2.2.2.2.2.1 h11 k9 co1) g_477 g_479 gs_6 g_1 g_480 hd_yX11_phoneAt ⟨rfl, rfl, Nat.le_of_ble_eq_true rfl, Nat.le_of_ble_eq_true rfl⟩ rfl (fun _ hG => cx_recv X (k := 11) (n := 9) rfl rfl h11 hG)  rfl (Nat.le_of_ble_eq_true rfl) dX11_sliceOf_2 ⟨by show _ ≤ 0; omega, by show _ ≤ 0; omega⟩ ⟨by omega, by omega⟩ (fun u hu t hG hF => ?_) (fun u2 hu => ?_)
  · rw [hu] at h
    obtain rfl := Option.some.inj h
    exact ⟨u, rfl, ⟨rfl, hG⟩, hF⟩
  · rw [hu.1] at h
    have p3 := hu.2
    simp only [Sum.elim_inl] at h
    refine c_get X 5 4 (v := va_rf (qn (ad 4) (V 104 u2.toNatClampNeg))) rx5_ws rfl rfl rfl (vp_lt p3) g_254 rfl dX11_sliceOf_5 ?_
    refine zz.pre (fun H hG => cx_fact (k := 5) (i := u2.toNatClampNeg) (f := 4) rfl (vp_lt p3) rfl hG) (fun (p4 : (V 104 u2.toNatClampNeg) = -1 ∨ vp_in (V 104 u2.toNatClampNeg) (N 4)) => ?_)
    refine z_astoreq_n (lo' := [(2, va_rf (qn (ad 4) (V 104 u2.toNatClampNeg))), (0, .ref (ad 11 0)), (1, .int a1)]) X dX11_sliceOf_8 rfl (by rw [hml]; decide) rfl rfl ?_
    refine z_aloadq_n X dX11_sliceOf_9 rfl rfl ?_
    refine c_ifnonnull (tgt := 17) X dX11_sliceOf_10 (by decide) (fun q => ?_) (fun q => ?_)
    · have h := zp q h
      refine z_iconst (v := 0) X dX11_sliceOf_13 (by decide) ?_
      refine z_goto (tgt := 24) X dX11_sliceOf_14 (by decide) ?_
      obtain rfl := Option.some.inj h
      refine zx_ret ?_
      refine zz.widen (k := 0) (n := 0) (by omega) (by omega) ?_
      exact z_iret X hr rfl (fun t hG hF _ => ⟨⟨_, _, rfl, ⟨rfl, ⟨rfl, trivial⟩⟩, hG⟩, hF⟩) dX11_sliceOf_24
    · have h := zn q h
      have p5 := p4.resolve_left q
      rw [qn_ref q]
      refine z_aload_n X dX11_sliceOf_17 rfl rfl ?_
      refine c_get X 4 5 (v := .ref (ad 8 (V 104 u2.toNatClampNeg).toNatClampNeg)) rx4_ws rfl rfl rfl (vp_lt p5) g_936 rfl dX11_sliceOf_18 ?_
      refine zz.pre (fun H hG => vp_mono p5 hG.2.2.2.2.2.2.2.2.1.2.1) (fun (p6 : vp_in (V 104 u2.toNatClampNeg) (N 8)) => ?_)
      refine c_get X 8 0 (v := .int (V 160 (V 104 u2.toNatClampNeg).toNatClampNeg)) rx8_ws rfl rfl rfl (vp_lt p6) g_911 rfl dX11_sliceOf_21 ?_
      obtain rfl := Option.some.inj h
      refine zx_ret ?_
      refine zz.widen (k := 0) (n := 0) (by omega) (by omega) ?_
      exact z_iret X hr rfl (fun t hG hF _ => ⟨⟨_, _, rfl, ⟨rfl, ⟨rfl, trivial⟩⟩, hG⟩, hF⟩) dX11_sliceOf_24
theorem cz_sliceOf (l : Launch) {D : va_G} {dA : Nat → ClassId} {A : Nat → Prop} {n : Nat} (hst : l.stackTraces = false) (hA : ∀ q, n ≤ q → A q) {V : Rho} {L : Lst} {N : Cnt} {ad : Adr} {xs : va_W} (h11 : 0 < N 11) {a1 : Int32} {o : (Int32) ⊕ Nat} (h9 : ∀ u, o ≠ .inr u) (h : fc_sliceOf V L N a1 = some o) : vx_Met l yX11_sliceOf (.code yX11_sliceOf cX11_sliceOf 3 (some .int) :: gT) ({ frames := 7, cells := 0, slots := 0, locals := 294 } : Room) (va_Pc [.ref (ad 11 0), .int a1] (zB D dA A n (cx D dA A V L N ad xs))) (va_Qi (fun r (w9 : Int32) => r = w9 ∧ o = .inl w9 ∧ True) (fun (w9 : Int32) t => cx D dA A V L N ad xs t.heap) A) (vx_X (fun (u : Nat) => o = .inr u) (fun E u t => E = exn u ∧ cx D dA A V L N ad xs t.heap) A) 0 0 A :=
  zx_met (by decide) hA hst (Nat.le_of_ble_eq_true rfl) rfl rfl (fun p e s m below meth c X hml hr hnil => bz_sliceOf X hml hr hnil h9 ⟨by omega, by omega⟩ h11 h)
-- parties
set_option maxRecDepth 100000 in
set_option maxHeartbeats 4000000 in
theorem bz_parties {p : Program} {l : Launch} {e : Env} {s : State} {m : MethodId} {args : Array Value} {below : List Frame} {meth : Method} {c : Code} {D : va_G} {dA : Nat → ClassId} {A : Nat → Prop} {xs : va_W} {o : (Int32) ⊕ Nat} {V : Rho} {L : Lst} {N : Cnt} {ad : Adr} (X : zc p l s m args meth c cX11_parties RX11 D dA A) (hml : c.maxLocals = 2) (hr : meth.sig.returnType = (some .int)) (hnil : ∀ x ∈ c.exceptionTable.toList, False) (h9 : ∀ u, o ≠ .inr u) {cells slots : Nat} (hcs : cells + 0 ≤ 0 ∧ slots + 0 ≤ 0) (h11 : 0 < N 11) {a1 : Int32} (h : fc_parties V L N a1 = some o) : zz p l e ({ frames := 10, cells := 0, slots := 0, locals := 420 } : Room) s m args below meth c A (cx D dA A V L N ad xs) cells slots (vx_MQ below (va_Qi (fun r (w9 : Int32) => r = w9 ∧ o = .inl w9 ∧ True) (fun (w9 : Int32) t => cx D dA A V L N ad xs t.heap) A) (vx_X (fun (u : Nat) => o = .inr u) (fun E u t => E = exn u ∧ cx D dA A V L N ad xs t.heap) A) args s 0 0 A) 0 [(0, .ref (ad 11 0)), (1, .int a1)] [] [] := by
  obtain ⟨hcs1, hcs2⟩ := hcs
  unfold fc_parties at h
  refine z_aload_n X dX11_parties_0 rfl rfl ?_
  refine z_iload_n X dX11_parties_1 rfl rfl ?_
  obtain ⟨o1, co1, h⟩ := zb2 h
  have k9 : ∀ u, o1 ≠ .inr u := fun u z => by rw [z] at h; exact h9 u (Option.some.inj h).symm
  refine z_xVq (As := [.int a1]) (rest := []) (nA := 1) (mc := 0) (ms := 0) (rm := ({ frames := 9, cells := 0, slots := 0, locals := 378 } : Room)) (S := Int32) (r0 := fun u => some (ad 1 u.toNatClampNeg)) (pu := fun u => o1 = .inl u ∧ vp_in u (N 1)) (G1 := fun u => cx D dA A V L N ad xs) X hnil (cz_callAt l X.2.2.2.2.2.2.2.2 X.2.2.2.2.2.2.1 h11 k9 co1) g_1079 g_1081 gs_20 g_1 g_1082 hd_yX11_callAt ⟨rfl, rfl, Nat.le_of_ble_eq_true rfl, Nat.le_of_ble_eq_true rfl⟩ rfl (fun _ hG => cx_recv X (k := 11) (n := 9) rfl rfl h11 hG)  rfl (Nat.le_of_ble_eq_true rfl) dX11_parties_2 ⟨by show _ ≤ 0; omega, by show _ ≤ 0; omega⟩ ⟨by omega, by omega⟩ (fun u hu t hG hF => ?_) (fun u2 hu => ?_)
  · rw [hu] at h
    obtain rfl := Option.some.inj h
    exact ⟨u, rfl, ⟨rfl, hG⟩, hF⟩
  · rw [hu.1] at h
    have p3 := hu.2
    simp only [Sum.elim_inl] at h
    obtain ⟨o4, co4, h⟩ := zb2 h
    refine z_callVi (As := []) (rest := []) (nA := 0) (mc := 0) (ms := 0) (rm := ({ frames := 9, cells := 0, slots := 0, locals := 378 } : Room)) (r0 := o4) (pu := fun (_ : Unit) => True) (G1 := fun _ => cx D dA A V L N ad xs) X (cc_Call_countParties l X.2.2.2.2.2.2.2.2 X.2.2.2.2.2.2.1 h11 p3 co4) g_1084 g_1085 g_1086 g_32 g_1087 hd_yX1_countParties ⟨rfl, rfl, Nat.le_of_ble_eq_true rfl, Nat.le_of_ble_eq_true rfl⟩ rfl (fun _ hG => cx_recv X (k := 1) (n := 3) rfl rfl (vp_lt p3) hG) rfl (Nat.le_of_ble_eq_true rfl) dX11_parties_5 ⟨by show _ ≤ 0; omega, by show _ ≤ 0; omega⟩ (fun _ _ => ?_)
    obtain rfl := Option.some.inj h
    refine zx_ret ?_
    refine zz.widen (k := 0) (n := 0) (by omega) (by omega) ?_
    exact z_iret X hr rfl (fun t hG hF _ => ⟨⟨_, _, rfl, ⟨rfl, ⟨rfl, trivial⟩⟩, hG⟩, hF⟩) dX11_parties_8
theorem cz_parties (l : Launch) {D : va_G} {dA : Nat → ClassId} {A : Nat → Prop} {n : Nat} (hst : l.stackTraces = false) (hA : ∀ q, n ≤ q → A q) {V : Rho} {L : Lst} {N : Cnt} {ad : Adr} {xs : va_W} (h11 : 0 < N 11) {a1 : Int32} {o : (Int32) ⊕ Nat} (h9 : ∀ u, o ≠ .inr u) (h : fc_parties V L N a1 = some o) : vx_Met l yX11_parties (.code yX11_parties cX11_parties 2 (some .int) :: gT) ({ frames := 10, cells := 0, slots := 0, locals := 420 } : Room) (va_Pc [.ref (ad 11 0), .int a1] (zB D dA A n (cx D dA A V L N ad xs))) (va_Qi (fun r (w9 : Int32) => r = w9 ∧ o = .inl w9 ∧ True) (fun (w9 : Int32) t => cx D dA A V L N ad xs t.heap) A) (vx_X (fun (u : Nat) => o = .inr u) (fun E u t => E = exn u ∧ cx D dA A V L N ad xs t.heap) A) 0 0 A :=
  zx_met (by decide) hA hst (Nat.le_of_ble_eq_true rfl) rfl rfl (fun p e s m below meth c X hml hr hnil => bz_parties X hml hr hnil h9 ⟨by omega, by omega⟩ h11 h)
-- stateOf
set_option maxRecDepth 100000 in
set_option maxHeartbeats 4000000 in
theorem bz_stateOf {p : Program} {l : Launch} {e : Env} {s : State} {m : MethodId} {args : Array Value} {below : List Frame} {meth : Method} {c : Code} {D : va_G} {dA : Nat → ClassId} {A : Nat → Prop} {xs : va_W} {o : (Int32) ⊕ Nat} {V : Rho} {L : Lst} {N : Cnt} {ad : Adr} (X : zc p l s m args meth c cX11_stateOf RX11 D dA A) (hml : c.maxLocals = 2) (hr : meth.sig.returnType = (some .int)) (hnil : ∀ x ∈ c.exceptionTable.toList, False) (h9 : ∀ u, o ≠ .inr u) {cells slots : Nat} (hcs : cells + 0 ≤ 0 ∧ slots + 0 ≤ 0) (h11 : 0 < N 11) {a1 : Int32} (h : fc_stateOf V L N a1 = some o) : zz p l e ({ frames := 10, cells := 0, slots := 0, locals := 420 } : Room) s m args below meth c A (cx D dA A V L N ad xs) cells slots (vx_MQ below (va_Qi (fun r (w9 : Int32) => r = w9 ∧ o = .inl w9 ∧ True) (fun (w9 : Int32) t => cx D dA A V L N ad xs t.heap) A) (vx_X (fun (u : Nat) => o = .inr u) (fun E u t => E = exn u ∧ cx D dA A V L N ad xs t.heap) A) args s 0 0 A) 0 [(0, .ref (ad 11 0)), (1, .int a1)] [] [] := by
  obtain ⟨hcs1, hcs2⟩ := hcs
  unfold fc_stateOf at h
  refine z_aload_n X dX11_stateOf_0 rfl rfl ?_
  refine z_iload_n X dX11_stateOf_1 rfl rfl ?_
  obtain ⟨o1, co1, h⟩ := zb2 h
  have k9 : ∀ u, o1 ≠ .inr u := fun u z => by rw [z] at h; exact h9 u (Option.some.inj h).symm
  refine z_xVq (As := [.int a1]) (rest := []) (nA := 1) (mc := 0) (ms := 0) (rm := ({ frames := 9, cells := 0, slots := 0, locals := 378 } : Room)) (S := Int32) (r0 := fun u => some (ad 4 u.toNatClampNeg)) (pu := fun u => o1 = .inl u ∧ vp_in u (N 4)) (G1 := fun u => cx D dA A V L N ad xs) X hnil (cz_legAt l X.2.2.2.2.2.2.2.2 X.2.2.2.2.2.2.1 h11 k9 co1) g_1184 g_1186 gs_24 g_1 g_1187 hd_yX11_legAt ⟨rfl, rfl, Nat.le_of_ble_eq_true rfl, Nat.le_of_ble_eq_true rfl⟩ rfl (fun _ hG => cx_recv X (k := 11) (n := 9) rfl rfl h11 hG)  rfl (Nat.le_of_ble_eq_true rfl) dX11_stateOf_2 ⟨by show _ ≤ 0; omega, by show _ ≤ 0; omega⟩ ⟨by omega, by omega⟩ (fun u hu t hG hF => ?_) (fun u2 hu => ?_)
  · rw [hu] at h
    obtain rfl := Option.some.inj h
    exact ⟨u, rfl, ⟨rfl, hG⟩, hF⟩
  · rw [hu.1] at h
    have p3 := hu.2
    simp only [Sum.elim_inl] at h
    refine c_get X 4 7 (v := .int (V 87 u2.toNatClampNeg)) rx4_ws rfl rfl rfl (vp_lt p3) g_941 rfl dX11_stateOf_5 ?_
    obtain rfl := Option.some.inj h
    refine zx_ret ?_
    refine zz.widen (k := 0) (n := 0) (by omega) (by omega) ?_
    exact z_iret X hr rfl (fun t hG hF _ => ⟨⟨_, _, rfl, ⟨rfl, ⟨rfl, trivial⟩⟩, hG⟩, hF⟩) dX11_stateOf_8
theorem cz_stateOf (l : Launch) {D : va_G} {dA : Nat → ClassId} {A : Nat → Prop} {n : Nat} (hst : l.stackTraces = false) (hA : ∀ q, n ≤ q → A q) {V : Rho} {L : Lst} {N : Cnt} {ad : Adr} {xs : va_W} (h11 : 0 < N 11) {a1 : Int32} {o : (Int32) ⊕ Nat} (h9 : ∀ u, o ≠ .inr u) (h : fc_stateOf V L N a1 = some o) : vx_Met l yX11_stateOf (.code yX11_stateOf cX11_stateOf 2 (some .int) :: gT) ({ frames := 10, cells := 0, slots := 0, locals := 420 } : Room) (va_Pc [.ref (ad 11 0), .int a1] (zB D dA A n (cx D dA A V L N ad xs))) (va_Qi (fun r (w9 : Int32) => r = w9 ∧ o = .inl w9 ∧ True) (fun (w9 : Int32) t => cx D dA A V L N ad xs t.heap) A) (vx_X (fun (u : Nat) => o = .inr u) (fun E u t => E = exn u ∧ cx D dA A V L N ad xs t.heap) A) 0 0 A :=
  zx_met (by decide) hA hst (Nat.le_of_ble_eq_true rfl) rfl rfl (fun p e s m below meth c X hml hr hnil => bz_stateOf X hml hr hnil h9 ⟨by omega, by omega⟩ h11 h)
-- seconds
set_option maxRecDepth 100000 in
set_option maxHeartbeats 4000000 in
theorem bz_seconds {p : Program} {l : Launch} {e : Env} {s : State} {m : MethodId} {args : Array Value} {below : List Frame} {meth : Method} {c : Code} {D : va_G} {dA : Nat → ClassId} {A : Nat → Prop} {xs : va_W} {o : (Int32) ⊕ Nat} {V : Rho} {L : Lst} {N : Cnt} {ad : Adr} (X : zc p l s m args meth c cX11_seconds RX11 D dA A) (hml : c.maxLocals = 2) (hr : meth.sig.returnType = (some .int)) (hnil : ∀ x ∈ c.exceptionTable.toList, False) (h9 : ∀ u, o ≠ .inr u) {cells slots : Nat} (hcs : cells + 0 ≤ 0 ∧ slots + 0 ≤ 0) (h11 : 0 < N 11) {a1 : Int32} (h : fc_seconds V L N a1 = some o) : zz p l e ({ frames := 10, cells := 0, slots := 0, locals := 420 } : Room) s m args below meth c A (cx D dA A V L N ad xs) cells slots (vx_MQ below (va_Qi (fun r (w9 : Int32) => r = w9 ∧ o = .inl w9 ∧ True) (fun (w9 : Int32) t => cx D dA A V L N ad xs t.heap) A) (vx_X (fun (u : Nat) => o = .inr u) (fun E u t => E = exn u ∧ cx D dA A V L N ad xs t.heap) A) args s 0 0 A) 0 [(0, .ref (ad 11 0)), (1, .int a1)] [] [] := by
  obtain ⟨hcs1, hcs2⟩ := hcs
  unfold fc_seconds at h
  refine z_aload_n X dX11_seconds_0 rfl rfl ?_
  refine z_iload_n X dX11_seconds_1 rfl rfl ?_
  obtain ⟨o1, co1, h⟩ := zb2 h
  have k9 : ∀ u, o1 ≠ .inr u := fun u z => by rw [z] at h; exact h9 u (Option.some.inj h).symm
  refine z_xVq (As := [.int a1]) (rest := []) (nA := 1) (mc := 0) (ms := 0) (rm := ({ frames := 9, cells := 0, slots := 0, locals := 378 } : Room)) (S := Int32) (r0 := fun u => some (ad 4 u.toNatClampNeg)) (pu := fun u => o1 = .inl u ∧ vp_in u (N 4)) (G1 := fun u => cx D dA A V L N ad xs) X hnil (cz_legAt l X.2.2.2.2.2.2.2.2 X.2.2.2.2.2.2.1 h11 k9 co1) g_1184 g_1186 gs_24 g_1 g_1187 hd_yX11_legAt ⟨rfl, rfl, Nat.le_of_ble_eq_true rfl, Nat.le_of_ble_eq_true rfl⟩ rfl (fun _ hG => cx_recv X (k := 11) (n := 9) rfl rfl h11 hG)  rfl (Nat.le_of_ble_eq_true rfl) dX11_seconds_2 ⟨by show _ ≤ 0; omega, by show _ ≤ 0; omega⟩ ⟨by omega, by omega⟩ (fun u hu t hG hF => ?_) (fun u2 hu => ?_)
  · rw [hu] at h
    obtain rfl := Option.some.inj h
    exact ⟨u, rfl, ⟨rfl, hG⟩, hF⟩
  · rw [hu.1] at h
    have p3 := hu.2
    simp only [Sum.elim_inl] at h
    refine c_get X 4 8 (v := .int (V 88 u2.toNatClampNeg)) rx4_ws rfl rfl rfl (vp_lt p3) g_943 rfl dX11_seconds_5 ?_
    obtain rfl := Option.some.inj h
    refine zx_ret ?_
    refine zz.widen (k := 0) (n := 0) (by omega) (by omega) ?_
    exact z_iret X hr rfl (fun t hG hF _ => ⟨⟨_, _, rfl, ⟨rfl, ⟨rfl, trivial⟩⟩, hG⟩, hF⟩) dX11_seconds_8
theorem cz_seconds (l : Launch) {D : va_G} {dA : Nat → ClassId} {A : Nat → Prop} {n : Nat} (hst : l.stackTraces = false) (hA : ∀ q, n ≤ q → A q) {V : Rho} {L : Lst} {N : Cnt} {ad : Adr} {xs : va_W} (h11 : 0 < N 11) {a1 : Int32} {o : (Int32) ⊕ Nat} (h9 : ∀ u, o ≠ .inr u) (h : fc_seconds V L N a1 = some o) : vx_Met l yX11_seconds (.code yX11_seconds cX11_seconds 2 (some .int) :: gT) ({ frames := 10, cells := 0, slots := 0, locals := 420 } : Room) (va_Pc [.ref (ad 11 0), .int a1] (zB D dA A n (cx D dA A V L N ad xs))) (va_Qi (fun r (w9 : Int32) => r = w9 ∧ o = .inl w9 ∧ True) (fun (w9 : Int32) t => cx D dA A V L N ad xs t.heap) A) (vx_X (fun (u : Nat) => o = .inr u) (fun E u t => E = exn u ∧ cx D dA A V L N ad xs t.heap) A) 0 0 A :=
  zx_met (by decide) hA hst (Nat.le_of_ble_eq_true rfl) rfl rfl (fun p e s m below meth c X hml hr hnil => bz_seconds X hml hr hnil h9 ⟨by omega, by omega⟩ h11 h)
-- charged
set_option maxRecDepth 100000 in
set_option maxHeartbeats 4000000 in
theorem bz_charged {p : Program} {l : Launch} {e : Env} {s : State} {m : MethodId} {args : Array Value} {below : List Frame} {meth : Method} {c : Code} {D : va_G} {dA : Nat → ClassId} {A : Nat → Prop} {xs : va_W} {o : (Int32) ⊕ Nat} {V : Rho} {L : Lst} {N : Cnt} {ad : Adr} (X : zc p l s m args meth c cX11_charged RX11 D dA A) (hml : c.maxLocals = 2) (hr : meth.sig.returnType = (some .int)) (hnil : ∀ x ∈ c.exceptionTable.toList, False) (h9 : ∀ u, o ≠ .inr u) {cells slots : Nat} (hcs : cells + 0 ≤ 0 ∧ slots + 0 ≤ 0) (h11 : 0 < N 11) {a1 : Int32} (h : fc_charged V L N a1 = some o) : zz p l e ({ frames := 10, cells := 0, slots := 0, locals := 420 } : Room) s m args below meth c A (cx D dA A V L N ad xs) cells slots (vx_MQ below (va_Qi (fun r (w9 : Int32) => r = w9 ∧ o = .inl w9 ∧ True) (fun (w9 : Int32) t => cx D dA A V L N ad xs t.heap) A) (vx_X (fun (u : Nat) => o = .inr u) (fun E u t => E = exn u ∧ cx D dA A V L N ad xs t.heap) A) args s 0 0 A) 0 [(0, .ref (ad 11 0)), (1, .int a1)] [] [] := by
  obtain ⟨hcs1, hcs2⟩ := hcs
  unfold fc_charged at h
  refine z_aload_n X dX11_charged_0 rfl rfl ?_
  refine z_iload_n X dX11_charged_1 rfl rfl ?_
  obtain ⟨o1, co1, h⟩ := zb2 h
  have k9 : ∀ u, o1 ≠ .inr u := fun u z => by rw [z] at h; exact h9 u (Option.some.inj h).symm
  refine z_xVq (As := [.int a1]) (rest := []) (nA := 1) (mc := 0) (ms := 0) (rm := ({ frames := 9, cells := 0, slots := 0, locals := 378 } : Room)) (S := Int32) (r0 := fun u => some (ad 4 u.toNatClampNeg)) (pu := fun u => o1 = .inl u ∧ vp_in u (N 4)) (G1 := fun u => cx D dA A V L N ad xs) X hnil (cz_legAt l X.2.2.2.2.2.2.2.2 X.2.2.2.2.2.2.1 h11 k9 co1) g_1184 g_1186 gs_24 g_1 g_1187 hd_yX11_legAt ⟨rfl, rfl, Nat.le_of_ble_eq_true rfl, Nat.le_of_ble_eq_true rfl⟩ rfl (fun _ hG => cx_recv X (k := 11) (n := 9) rfl rfl h11 hG)  rfl (Nat.le_of_ble_eq_true rfl) dX11_charged_2 ⟨by show _ ≤ 0; omega, by show _ ≤ 0; omega⟩ ⟨by omega, by omega⟩ (fun u hu t hG hF => ?_) (fun u2 hu => ?_)
  · rw [hu] at h
    obtain rfl := Option.some.inj h
    exact ⟨u, rfl, ⟨rfl, hG⟩, hF⟩
  · rw [hu.1] at h
    have p3 := hu.2
    simp only [Sum.elim_inl] at h
    refine c_get X 4 9 (v := .int (V 89 u2.toNatClampNeg)) rx4_ws rfl rfl rfl (vp_lt p3) g_945 rfl dX11_charged_5 ?_
    obtain rfl := Option.some.inj h
    refine zx_ret ?_
    refine zz.widen (k := 0) (n := 0) (by omega) (by omega) ?_
    exact z_iret X hr rfl (fun t hG hF _ => ⟨⟨_, _, rfl, ⟨rfl, ⟨rfl, trivial⟩⟩, hG⟩, hF⟩) dX11_charged_8
theorem cz_charged (l : Launch) {D : va_G} {dA : Nat → ClassId} {A : Nat → Prop} {n : Nat} (hst : l.stackTraces = false) (hA : ∀ q, n ≤ q → A q) {V : Rho} {L : Lst} {N : Cnt} {ad : Adr} {xs : va_W} (h11 : 0 < N 11) {a1 : Int32} {o : (Int32) ⊕ Nat} (h9 : ∀ u, o ≠ .inr u) (h : fc_charged V L N a1 = some o) : vx_Met l yX11_charged (.code yX11_charged cX11_charged 2 (some .int) :: gT) ({ frames := 10, cells := 0, slots := 0, locals := 420 } : Room) (va_Pc [.ref (ad 11 0), .int a1] (zB D dA A n (cx D dA A V L N ad xs))) (va_Qi (fun r (w9 : Int32) => r = w9 ∧ o = .inl w9 ∧ True) (fun (w9 : Int32) t => cx D dA A V L N ad xs t.heap) A) (vx_X (fun (u : Nat) => o = .inr u) (fun E u t => E = exn u ∧ cx D dA A V L N ad xs t.heap) A) 0 0 A :=
  zx_met (by decide) hA hst (Nat.le_of_ble_eq_true rfl) rfl rfl (fun p e s m below meth c X hml hr hnil => bz_charged X hml hr hnil h9 ⟨by omega, by omega⟩ h11 h)
-- covered
set_option maxRecDepth 100000 in
set_option maxHeartbeats 4000000 in
theorem bz_covered {p : Program} {l : Launch} {e : Env} {s : State} {m : MethodId} {args : Array Value} {below : List Frame} {meth : Method} {c : Code} {D : va_G} {dA : Nat → ClassId} {A : Nat → Prop} {xs : va_W} {o : (Int32) ⊕ Nat} {V : Rho} {L : Lst} {N : Cnt} {ad : Adr} (X : zc p l s m args meth c cX11_covered RX11 D dA A) (hml : c.maxLocals = 2) (hr : meth.sig.returnType = (some .int)) (hnil : ∀ x ∈ c.exceptionTable.toList, False) (h9 : ∀ u, o ≠ .inr u) {cells slots : Nat} (hcs : cells + 0 ≤ 0 ∧ slots + 0 ≤ 0) (h11 : 0 < N 11) {a1 : Int32} (h : fc_covered V L N a1 = some o) : zz p l e ({ frames := 10, cells := 0, slots := 0, locals := 420 } : Room) s m args below meth c A (cx D dA A V L N ad xs) cells slots (vx_MQ below (va_Qi (fun r (w9 : Int32) => r = w9 ∧ o = .inl w9 ∧ True) (fun (w9 : Int32) t => cx D dA A V L N ad xs t.heap) A) (vx_X (fun (u : Nat) => o = .inr u) (fun E u t => E = exn u ∧ cx D dA A V L N ad xs t.heap) A) args s 0 0 A) 0 [(0, .ref (ad 11 0)), (1, .int a1)] [] [] := by
  obtain ⟨hcs1, hcs2⟩ := hcs
  unfold fc_covered at h
  refine z_aload_n X dX11_covered_0 rfl rfl ?_
  refine z_iload_n X dX11_covered_1 rfl rfl ?_
  obtain ⟨o1, co1, h⟩ := zb2 h
  have k9 : ∀ u, o1 ≠ .inr u := fun u z => by rw [z] at h; exact h9 u (Option.some.inj h).symm
  refine z_xVq (As := [.int a1]) (rest := []) (nA := 1) (mc := 0) (ms := 0) (rm := ({ frames := 9, cells := 0, slots := 0, locals := 378 } : Room)) (S := Int32) (r0 := fun u => some (ad 4 u.toNatClampNeg)) (pu := fun u => o1 = .inl u ∧ vp_in u (N 4)) (G1 := fun u => cx D dA A V L N ad xs) X hnil (cz_legAt l X.2.2.2.2.2.2.2.2 X.2.2.2.2.2.2.1 h11 k9 co1) g_1184 g_1186 gs_24 g_1 g_1187 hd_yX11_legAt ⟨rfl, rfl, Nat.le_of_ble_eq_true rfl, Nat.le_of_ble_eq_true rfl⟩ rfl (fun _ hG => cx_recv X (k := 11) (n := 9) rfl rfl h11 hG)  rfl (Nat.le_of_ble_eq_true rfl) dX11_covered_2 ⟨by show _ ≤ 0; omega, by show _ ≤ 0; omega⟩ ⟨by omega, by omega⟩ (fun u hu t hG hF => ?_) (fun u2 hu => ?_)
  · rw [hu] at h
    obtain rfl := Option.some.inj h
    exact ⟨u, rfl, ⟨rfl, hG⟩, hF⟩
  · rw [hu.1] at h
    have p3 := hu.2
    simp only [Sum.elim_inl] at h
    refine c_get X 4 10 (v := .int (V 90 u2.toNatClampNeg)) rx4_ws rfl rfl rfl (vp_lt p3) g_947 rfl dX11_covered_5 ?_
    obtain rfl := Option.some.inj h
    refine zx_ret ?_
    refine zz.widen (k := 0) (n := 0) (by omega) (by omega) ?_
    exact z_iret X hr rfl (fun t hG hF _ => ⟨⟨_, _, rfl, ⟨rfl, ⟨rfl, trivial⟩⟩, hG⟩, hF⟩) dX11_covered_8
theorem cz_covered (l : Launch) {D : va_G} {dA : Nat → ClassId} {A : Nat → Prop} {n : Nat} (hst : l.stackTraces = false) (hA : ∀ q, n ≤ q → A q) {V : Rho} {L : Lst} {N : Cnt} {ad : Adr} {xs : va_W} (h11 : 0 < N 11) {a1 : Int32} {o : (Int32) ⊕ Nat} (h9 : ∀ u, o ≠ .inr u) (h : fc_covered V L N a1 = some o) : vx_Met l yX11_covered (.code yX11_covered cX11_covered 2 (some .int) :: gT) ({ frames := 10, cells := 0, slots := 0, locals := 420 } : Room) (va_Pc [.ref (ad 11 0), .int a1] (zB D dA A n (cx D dA A V L N ad xs))) (va_Qi (fun r (w9 : Int32) => r = w9 ∧ o = .inl w9 ∧ True) (fun (w9 : Int32) t => cx D dA A V L N ad xs t.heap) A) (vx_X (fun (u : Nat) => o = .inr u) (fun E u t => E = exn u ∧ cx D dA A V L N ad xs t.heap) A) 0 0 A :=
  zx_met (by decide) hA hst (Nat.le_of_ble_eq_true rfl) rfl rfl (fun p e s m below meth c X hml hr hnil => bz_covered X hml hr hnil h9 ⟨by omega, by omega⟩ h11 h)
-- ratedByEvents
set_option maxRecDepth 100000 in
set_option maxHeartbeats 4000000 in
theorem bz_ratedByEvents_98 {p : Program} {l : Launch} {e : Env} {s : State} {m : MethodId} {args : Array Value} {below : List Frame} {meth : Method} {c : Code} {D : va_G} {dA : Nat → ClassId} {A : Nat → Prop} {xs : va_W} {o : (Int32) ⊕ Nat} {V : Rho} {L : Lst} {N : Cnt} {ad : Adr} (X : zc p l s m args meth c cX11_ratedByEvents RX11 D dA A) (hml : c.maxLocals = 7) (hr : meth.sig.returnType = (some .int)) (hnil : ∀ x ∈ c.exceptionTable.toList, False) (h9 : ∀ u, o ≠ .inr u) {cells slots : Nat} (hcs : cells + 0 ≤ 0 ∧ slots + 0 ≤ 0) {k14 : Rho → Lst → Cnt → Int32 → Int32 → Int32 → Option ((Int32) ⊕ Nat)} (hk14 : ∀ (h11 : 0 < N 11) {v2 : Int32} {v3 : Int32} {v4 : Int32} (fv2 : vp_in v2 (N 4)) , k14 V L N v2 v3 v4 = some o → zz p l e ({ frames := 11, cells := 0, slots := 0, locals := 462 } : Room) s m args below meth c A (cx D dA A V L N ad xs) cells slots (vx_MQ below (va_Qi (fun r (w9 : Int32) => r = w9 ∧ o = .inl w9 ∧ True) (fun (w9 : Int32) t => cx D dA A V L N ad xs t.heap) A) (vx_X (fun (u : Nat) => o = .inr u) (fun E u t => E = exn u ∧ cx D dA A V L N ad xs t.heap) A) args s 0 0 A) 14 [(0, .ref (ad 11 0)), (2, .ref (ad 18 v2.toNatClampNeg)), (3, .int v3), (4, .int v4)] [] []) (h11 : 0 < N 11) {v2 : Int32} {v3 : Int32} {v4 : Int32} (fv2 : vp_in v2 (N 4)) (h : fc_ratedByEvents_98 k14 V L N v2 v3 v4 = some o) : zz p l e ({ frames := 11, cells := 0, slots := 0, locals := 462 } : Room) s m args below meth c A (cx D dA A V L N ad xs) cells slots (vx_MQ below (va_Qi (fun r (w9 : Int32) => r = w9 ∧ o = .inl w9 ∧ True) (fun (w9 : Int32) t => cx D dA A V L N ad xs t.heap) A) (vx_X (fun (u : Nat) => o = .inr u) (fun E u t => E = exn u ∧ cx D dA A V L N ad xs t.heap) A) args s 0 0 A) 98 [(0, .ref (ad 11 0)), (2, .ref (ad 18 v2.toNatClampNeg)), (3, .int v3), (4, .int v4)] [] [] := by
  obtain ⟨hcs1, hcs2⟩ := hcs
  unfold fc_ratedByEvents_98 at h
  obtain ⟨x1, ex1, h⟩ := zb h
  refine z_iinc (v := x1) (lo' := [(4, .int x1), (0, .ref (ad 11 0)), (2, .ref (ad 18 v2.toNatClampNeg)), (3, .int v3)]) X dX11_ratedByEvents_98 rfl ex1 (by rw [hml]; decide) rfl rfl ?_
  refine z_goto (tgt := 14) X dX11_ratedByEvents_101 (by decide) ?_
  refine zz.pick (lo' := [(0, .ref (ad 11 0)), (2, .ref (ad 18 v2.toNatClampNeg)), (3, .int v3), (4, .int x1)]) [0, 2, 3, 4] rfl ?_
  exact hk14 h11 fv2 h
set_option maxRecDepth 100000 in
set_option maxHeartbeats 4000000 in
theorem bz_ratedByEvents_75 {p : Program} {l : Launch} {e : Env} {s : State} {m : MethodId} {args : Array Value} {below : List Frame} {meth : Method} {c : Code} {D : va_G} {dA : Nat → ClassId} {A : Nat → Prop} {xs : va_W} {o : (Int32) ⊕ Nat} {V : Rho} {L : Lst} {N : Cnt} {ad : Adr} (X : zc p l s m args meth c cX11_ratedByEvents RX11 D dA A) (hml : c.maxLocals = 7) (hr : meth.sig.returnType = (some .int)) (hnil : ∀ x ∈ c.exceptionTable.toList, False) (h9 : ∀ u, o ≠ .inr u) {cells slots : Nat} (hcs : cells + 0 ≤ 0 ∧ slots + 0 ≤ 0) {k14 : Rho → Lst → Cnt → Int32 → Int32 → Int32 → Option ((Int32) ⊕ Nat)} (hk14 : ∀ (h11 : 0 < N 11) {v2 : Int32} {v3 : Int32} {v4 : Int32} (fv2 : vp_in v2 (N 4)) , k14 V L N v2 v3 v4 = some o → zz p l e ({ frames := 11, cells := 0, slots := 0, locals := 462 } : Room) s m args below meth c A (cx D dA A V L N ad xs) cells slots (vx_MQ below (va_Qi (fun r (w9 : Int32) => r = w9 ∧ o = .inl w9 ∧ True) (fun (w9 : Int32) t => cx D dA A V L N ad xs t.heap) A) (vx_X (fun (u : Nat) => o = .inr u) (fun E u t => E = exn u ∧ cx D dA A V L N ad xs t.heap) A) args s 0 0 A) 14 [(0, .ref (ad 11 0)), (2, .ref (ad 18 v2.toNatClampNeg)), (3, .int v3), (4, .int v4)] [] []) (h11 : 0 < N 11) {v2 : Int32} {v3 : Int32} {v4 : Int32} {v5 : Int32} {s0 : Int32} (fv2 : vp_in v2 (N 4)) (fv5 : vp_in v5 (N 3)) (h : fc_ratedByEvents_75 k14 V L N v2 v3 v4 v5 s0 = some o) : zz p l e ({ frames := 11, cells := 0, slots := 0, locals := 462 } : Room) s m args below meth c A (cx D dA A V L N ad xs) cells slots (vx_MQ below (va_Qi (fun r (w9 : Int32) => r = w9 ∧ o = .inl w9 ∧ True) (fun (w9 : Int32) t => cx D dA A V L N ad xs t.heap) A) (vx_X (fun (u : Nat) => o = .inr u) (fun E u t => E = exn u ∧ cx D dA A V L N ad xs t.heap) A) args s 0 0 A) 75 [(0, .ref (ad 11 0)), (2, .ref (ad 18 v2.toNatClampNeg)), (3, .int v3), (4, .int v4), (5, .ref (ad 3 v5.toNatClampNeg))] [] [.int s0] := by
  obtain ⟨hcs1, hcs2⟩ := hcs
  unfold fc_ratedByEvents_75 at h
  refine z_istore (lo' := [(6, .int s0), (0, .ref (ad 11 0)), (2, .ref (ad 18 v2.toNatClampNeg)), (3, .int v3), (4, .int v4), (5, .ref (ad 3 v5.toNatClampNeg))]) X dX11_ratedByEvents_75 (by rw [hml]; decide) rfl rfl ?_
  refine z_iload_n X dX11_ratedByEvents_77 rfl rfl ?_
  refine z_aload X dX11_ratedByEvents_78 rfl ?_
  refine c_get X 3 2 (v := .ref (ad 2 (V 62 v5.toNatClampNeg).toNatClampNeg)) rx3_ws rfl rfl rfl (vp_lt fv5) g_994 rfl dX11_ratedByEvents_80 ?_
  refine zz.pre (fun H hG => cx_fact (k := 3) (i := v5.toNatClampNeg) (f := 2) rfl (vp_lt fv5) rfl hG) (fun (p1 : vp_in (V 62 v5.toNatClampNeg) (N 2)) => ?_)
  refine c_get X 2 1 (v := .ref (ad 10 (V 41 (V 62 v5.toNatClampNeg).toNatClampNeg).toNatClampNeg)) rx2_ws rfl rfl rfl (vp_lt p1) g_201 rfl dX11_ratedByEvents_83 ?_
  refine zz.pre (fun H hG => cx_fact (k := 2) (i := (V 62 v5.toNatClampNeg).toNatClampNeg) (f := 1) rfl (vp_lt p1) rfl hG) (fun (p2 : vp_in (V 41 (V 62 v5.toNatClampNeg).toNatClampNeg) (N 10)) => ?_)
  refine z_aload X dX11_ratedByEvents_86 rfl ?_
  refine c_get X 3 1 (v := .int (V 61 v5.toNatClampNeg)) rx3_ws rfl rfl rfl (vp_lt fv5) g_991 rfl dX11_ratedByEvents_88 ?_
  refine z_iload X dX11_ratedByEvents_91 rfl ?_
  obtain ⟨o3, co3, h⟩ := zb2 h
  refine z_callSi (As := [.ref (ad 10 (V 41 (V 62 v5.toNatClampNeg).toNatClampNeg).toNatClampNeg), .int (V 61 v5.toNatClampNeg), .int s0]) (rest := [.int v3]) (nA := 3) (mc := 0) (ms := 0) (rm := ({ frames := 10, cells := 0, slots := 0, locals := 420 } : Room)) (r0 := o3) (pu := fun (_ : Unit) => True) (G1 := fun _ => cx D dA A V L N ad xs) X (cc_costOfStay l X.2.2.2.2.2.2.2.2 X.2.2.2.2.2.2.1 h11 p2 co3) g_1218 g_1219 g_1 g_1220 hd_yX11_costOfStay ⟨rfl, rfl, Nat.le_of_ble_eq_true rfl, Nat.le_of_ble_eq_true rfl⟩ rfl rfl (Nat.le_of_ble_eq_true rfl) dX11_ratedByEvents_93 ⟨by show _ ≤ 0; omega, by show _ ≤ 0; omega⟩ (fun _ _ => ?_)
  refine z_iadd X dX11_ratedByEvents_96 ?_
  obtain ⟨x4, ex4, h⟩ := zb h
  rw [ex4]
  refine z_istore_n (lo' := [(3, .int x4), (6, .int s0), (0, .ref (ad 11 0)), (2, .ref (ad 18 v2.toNatClampNeg)), (4, .int v4), (5, .ref (ad 3 v5.toNatClampNeg))]) X dX11_ratedByEvents_97 rfl (by rw [hml]; decide) rfl rfl ?_
  refine zz.pick (lo' := [(0, .ref (ad 11 0)), (2, .ref (ad 18 v2.toNatClampNeg)), (3, .int x4), (4, .int v4)]) [0, 2, 3, 4] rfl ?_
  exact bz_ratedByEvents_98 X hml hr hnil h9 ⟨by omega, by omega⟩ hk14 h11 fv2 h
set_option maxRecDepth 100000 in
set_option maxHeartbeats 4000000 in
theorem bz_ratedByEvents_14 {p : Program} {l : Launch} {e : Env} {s : State} {m : MethodId} {args : Array Value} {below : List Frame} {meth : Method} {c : Code} {D : va_G} {dA : Nat → ClassId} {A : Nat → Prop} {xs : va_W} {o : (Int32) ⊕ Nat} {V : Rho} {L : Lst} {N : Cnt} {ad : Adr} (X : zc p l s m args meth c cX11_ratedByEvents RX11 D dA A) (hml : c.maxLocals = 7) (hr : meth.sig.returnType = (some .int)) (hnil : ∀ x ∈ c.exceptionTable.toList, False) (h9 : ∀ u, o ≠ .inr u) {cells slots : Nat} (hcs : cells + 0 ≤ 0 ∧ slots + 0 ≤ 0) : ∀ (n : Nat) (h11 : 0 < N 11) {v2 : Int32} {v3 : Int32} {v4 : Int32} (fv2 : vp_in v2 (N 4)) , fc_ratedByEvents_14 n V L N v2 v3 v4 = some o → zz p l e ({ frames := 11, cells := 0, slots := 0, locals := 462 } : Room) s m args below meth c A (cx D dA A V L N ad xs) cells slots (vx_MQ below (va_Qi (fun r (w9 : Int32) => r = w9 ∧ o = .inl w9 ∧ True) (fun (w9 : Int32) t => cx D dA A V L N ad xs t.heap) A) (vx_X (fun (u : Nat) => o = .inr u) (fun E u t => E = exn u ∧ cx D dA A V L N ad xs t.heap) A) args s 0 0 A) 14 [(0, .ref (ad 11 0)), (2, .ref (ad 18 v2.toNatClampNeg)), (3, .int v3), (4, .int v4)] [] [] := by
  obtain ⟨hcs1, hcs2⟩ := hcs
  intro n
  induction n with
  | zero => intro  h11 v2 v3 v4 fv2 h; exact (nomatch (show none = some o from h))
  | succ n ih =>
    intro  h11 v2 v3 v4 fv2 h
    rw [fc_ratedByEvents_14] at h
    refine z_iload X dX11_ratedByEvents_14 rfl ?_
    refine z_aload_n X dX11_ratedByEvents_16 rfl rfl ?_
    obtain ⟨x1, ex1, h⟩ := zb h
    refine z_callVi (As := []) (rest := [.int v4]) (nA := 0) (mc := 0) (ms := 0) (rm := ({ frames := 8, cells := 0, slots := 0, locals := 336 } : Room)) (r0 := (nI (L 18 v2.toNatClampNeg).length)) (pu := fun (_ : Unit) => True) (G1 := fun _ => cx D dA A V L N ad xs) X (cl_size l X.2.2.2.2.2.2.2.2 X.2.2.2.2.2.2.1 (k := 18) (i := v2.toNatClampNeg) rfl rfl (vp_lt fv2)) g_308 g_309 g_310 g_4 g_311 hd_yJx4a65c_size_8abf5 ⟨rfl, rfl, Nat.le_of_ble_eq_true rfl, Nat.le_of_ble_eq_true rfl⟩ rfl (fun _ hG => cx_recvL X (k := 18) rfl rfl (vp_lt fv2) hG) rfl (Nat.le_of_ble_eq_true rfl) dX11_ratedByEvents_17 ⟨by show _ ≤ 0; omega, by show _ ≤ 0; omega⟩ (fun _ _ => ?_)
    rw [ex1]
    refine z_icmp_ge (tgt := 104) X dX11_ratedByEvents_20 (by decide) (fun q => ?_) (fun q => ?_)
    · have h := zp q h
      refine z_iload_n X dX11_ratedByEvents_104 rfl rfl ?_
      obtain rfl := Option.some.inj h
      refine zx_ret ?_
      refine zz.widen (k := 0) (n := 0) (by omega) (by omega) ?_
      exact z_iret X hr rfl (fun t hG hF _ => ⟨⟨_, _, rfl, ⟨rfl, ⟨rfl, trivial⟩⟩, hG⟩, hF⟩) dX11_ratedByEvents_105
    · have h := zn q h
      refine z_aload_n X dX11_ratedByEvents_23 rfl rfl ?_
      refine z_iload X dX11_ratedByEvents_24 rfl ?_
      obtain ⟨q2, h⟩ := zg h
      obtain ⟨x3, ex3, h⟩ := zb h
      refine z_callVq (As := [.int v4]) (rest := []) (nA := 1) (mc := 0) (ms := 0) (rm := ({ frames := 8, cells := 0, slots := 0, locals := 336 } : Room)) (ro := fun _ => some (ad 3 ((L 18 v2.toNatClampNeg).getD v4.toNatClampNeg 0).toNatClampNeg)) (pu := fun (_ : Unit) => True) (G1 := fun _ => cx D dA A V L N ad xs) X (cl_get l X.2.2.2.2.2.2.2.2 X.2.2.2.2.2.2.1 (k := 18) (i := v2.toNatClampNeg) (x := v4) rfl rfl (vp_lt fv2) q2) g_852 g_554 g_555 g_4 g_556 hd_yJx4a65c_get_915e3 ⟨rfl, rfl, Nat.le_of_ble_eq_true rfl, Nat.le_of_ble_eq_true rfl⟩ rfl (fun _ hG => cx_recvL X (k := 18) rfl rfl (vp_lt fv2) hG) rfl (Nat.le_of_ble_eq_true rfl) dX11_ratedByEvents_26 ⟨by show _ ≤ 0; omega, by show _ ≤ 0; omega⟩ (fun _ _ => ?_)
      rw [ex3]
      refine zz.pre (fun H hG => cx_elt (k := 18) rfl rfl (vp_lt fv2) q2 hG) (fun p4 => ?_)
      rw [ex3] at p4
      refine c_cast X (k := 3) (n := 3) rfl rfl (vp_lt p4) g_1217 dX11_ratedByEvents_29 ?_
      refine z_astore (lo' := [(5, .ref (ad 3 x3.toNatClampNeg)), (0, .ref (ad 11 0)), (2, .ref (ad 18 v2.toNatClampNeg)), (3, .int v3), (4, .int v4)]) X dX11_ratedByEvents_32 (by rw [hml]; decide) rfl rfl ?_
      refine z_aload X dX11_ratedByEvents_34 rfl ?_
      refine c_get X 3 0 (v := .int (V 60 x3.toNatClampNeg)) rx3_ws rfl rfl rfl (vp_lt p4) g_988 rfl dX11_ratedByEvents_36 ?_
      refine z_iconst (v := 2) X dX11_ratedByEvents_39 (by decide) ?_
      refine z_icmp_eq (tgt := 98) X dX11_ratedByEvents_40 (by decide) (fun q => ?_) (fun q => ?_)
      · have h := zp q h
        refine zz.pick (lo' := [(0, .ref (ad 11 0)), (2, .ref (ad 18 v2.toNatClampNeg)), (3, .int v3), (4, .int v4)]) [0, 2, 3, 4] rfl ?_
        exact bz_ratedByEvents_98 X hml hr hnil h9 ⟨by omega, by omega⟩ ih h11 fv2 h
      · have h := zn q h
        refine z_iload X dX11_ratedByEvents_43 rfl ?_
        refine z_iconst (v := 1) X dX11_ratedByEvents_45 (by decide) ?_
        refine z_iadd X dX11_ratedByEvents_46 ?_
        refine z_aload_n X dX11_ratedByEvents_47 rfl rfl ?_
        obtain ⟨x5, ex5, h⟩ := zb h
        refine z_callVi (As := []) (rest := [.int (v4 + 1)]) (nA := 0) (mc := 0) (ms := 0) (rm := ({ frames := 8, cells := 0, slots := 0, locals := 336 } : Room)) (r0 := (nI (L 18 v2.toNatClampNeg).length)) (pu := fun (_ : Unit) => True) (G1 := fun _ => cx D dA A V L N ad xs) X (cl_size l X.2.2.2.2.2.2.2.2 X.2.2.2.2.2.2.1 (k := 18) (i := v2.toNatClampNeg) rfl rfl (vp_lt fv2)) g_308 g_309 g_310 g_4 g_311 hd_yJx4a65c_size_8abf5 ⟨rfl, rfl, Nat.le_of_ble_eq_true rfl, Nat.le_of_ble_eq_true rfl⟩ rfl (fun _ hG => cx_recvL X (k := 18) rfl rfl (vp_lt fv2) hG) rfl (Nat.le_of_ble_eq_true rfl) dX11_ratedByEvents_48 ⟨by show _ ≤ 0; omega, by show _ ≤ 0; omega⟩ (fun _ _ => ?_)
        rw [ex5]
        refine z_icmp_ge (tgt := 71) X dX11_ratedByEvents_51 (by decide) (fun q => ?_) (fun q => ?_)
        · have h := zp q h
          refine z_aload_n X dX11_ratedByEvents_71 rfl rfl ?_
          refine c_get X 11 8 (v := .int (V 228 0)) rx11_ws rfl rfl rfl h11 g_280 rfl dX11_ratedByEvents_72 ?_
          refine zz.pick (lo' := [(0, .ref (ad 11 0)), (2, .ref (ad 18 v2.toNatClampNeg)), (3, .int v3), (4, .int v4), (5, .ref (ad 3 x3.toNatClampNeg))]) [0, 2, 3, 4, 5] rfl ?_
          exact bz_ratedByEvents_75 X hml hr hnil h9 ⟨by omega, by omega⟩ ih h11 fv2 p4 h
        · have h := zn q h
          refine z_aload_n X dX11_ratedByEvents_54 rfl rfl ?_
          refine z_iload X dX11_ratedByEvents_55 rfl ?_
          refine z_iconst (v := 1) X dX11_ratedByEvents_57 (by decide) ?_
          refine z_iadd X dX11_ratedByEvents_58 ?_
          obtain ⟨q6, h⟩ := zg h
          obtain ⟨x7, ex7, h⟩ := zb h
          refine z_callVq (As := [.int (v4 + 1)]) (rest := []) (nA := 1) (mc := 0) (ms := 0) (rm := ({ frames := 8, cells := 0, slots := 0, locals := 336 } : Room)) (ro := fun _ => some (ad 3 ((L 18 v2.toNatClampNeg).getD (v4 + 1).toNatClampNeg 0).toNatClampNeg)) (pu := fun (_ : Unit) => True) (G1 := fun _ => cx D dA A V L N ad xs) X (cl_get l X.2.2.2.2.2.2.2.2 X.2.2.2.2.2.2.1 (k := 18) (i := v2.toNatClampNeg) (x := (v4 + 1)) rfl rfl (vp_lt fv2) q6) g_852 g_554 g_555 g_4 g_556 hd_yJx4a65c_get_915e3 ⟨rfl, rfl, Nat.le_of_ble_eq_true rfl, Nat.le_of_ble_eq_true rfl⟩ rfl (fun _ hG => cx_recvL X (k := 18) rfl rfl (vp_lt fv2) hG) rfl (Nat.le_of_ble_eq_true rfl) dX11_ratedByEvents_59 ⟨by show _ ≤ 0; omega, by show _ ≤ 0; omega⟩ (fun _ _ => ?_)
          rw [ex7]
          refine zz.pre (fun H hG => cx_elt (k := 18) rfl rfl (vp_lt fv2) q6 hG) (fun p8 => ?_)
          rw [ex7] at p8
          refine c_cast X (k := 3) (n := 3) rfl rfl (vp_lt p8) g_1217 dX11_ratedByEvents_62 ?_
          refine c_get X 3 1 (v := .int (V 61 x7.toNatClampNeg)) rx3_ws rfl rfl rfl (vp_lt p8) g_991 rfl dX11_ratedByEvents_65 ?_
          refine z_goto (tgt := 75) X dX11_ratedByEvents_68 (by decide) ?_
          refine zz.pick (lo' := [(0, .ref (ad 11 0)), (2, .ref (ad 18 v2.toNatClampNeg)), (3, .int v3), (4, .int v4), (5, .ref (ad 3 x3.toNatClampNeg))]) [0, 2, 3, 4, 5] rfl ?_
          exact bz_ratedByEvents_75 X hml hr hnil h9 ⟨by omega, by omega⟩ ih h11 fv2 p4 h
set_option maxRecDepth 100000 in
set_option maxHeartbeats 4000000 in
theorem bz_ratedByEvents {p : Program} {l : Launch} {e : Env} {s : State} {m : MethodId} {args : Array Value} {below : List Frame} {meth : Method} {c : Code} {D : va_G} {dA : Nat → ClassId} {A : Nat → Prop} {xs : va_W} {o : (Int32) ⊕ Nat} {V : Rho} {L : Lst} {N : Cnt} {ad : Adr} (X : zc p l s m args meth c cX11_ratedByEvents RX11 D dA A) (hml : c.maxLocals = 7) (hr : meth.sig.returnType = (some .int)) (hnil : ∀ x ∈ c.exceptionTable.toList, False) (h9 : ∀ u, o ≠ .inr u) {cells slots : Nat} (hcs : cells + 0 ≤ 0 ∧ slots + 0 ≤ 0) (h11 : 0 < N 11) {a1 : Int32} (h : fc_ratedByEvents V L N a1 = some o) : zz p l e ({ frames := 11, cells := 0, slots := 0, locals := 462 } : Room) s m args below meth c A (cx D dA A V L N ad xs) cells slots (vx_MQ below (va_Qi (fun r (w9 : Int32) => r = w9 ∧ o = .inl w9 ∧ True) (fun (w9 : Int32) t => cx D dA A V L N ad xs t.heap) A) (vx_X (fun (u : Nat) => o = .inr u) (fun E u t => E = exn u ∧ cx D dA A V L N ad xs t.heap) A) args s 0 0 A) 0 [(0, .ref (ad 11 0)), (1, .int a1)] [] [] := by
  obtain ⟨hcs1, hcs2⟩ := hcs
  unfold fc_ratedByEvents at h
  refine z_aload_n X dX11_ratedByEvents_0 rfl rfl ?_
  refine z_iload_n X dX11_ratedByEvents_1 rfl rfl ?_
  obtain ⟨o1, co1, h⟩ := zb2 h
  have k9 : ∀ u, o1 ≠ .inr u := fun u z => by rw [z] at h; exact h9 u (Option.some.inj h).symm
  refine z_xVq (As := [.int a1]) (rest := []) (nA := 1) (mc := 0) (ms := 0) (rm := ({ frames := 9, cells := 0, slots := 0, locals := 378 } : Room)) (S := Int32) (r0 := fun u => some (ad 4 u.toNatClampNeg)) (pu := fun u => o1 = .inl u ∧ vp_in u (N 4)) (G1 := fun u => cx D dA A V L N ad xs) X hnil (cz_legAt l X.2.2.2.2.2.2.2.2 X.2.2.2.2.2.2.1 h11 k9 co1) g_1184 g_1186 gs_24 g_1 g_1187 hd_yX11_legAt ⟨rfl, rfl, Nat.le_of_ble_eq_true rfl, Nat.le_of_ble_eq_true rfl⟩ rfl (fun _ hG => cx_recv X (k := 11) (n := 9) rfl rfl h11 hG)  rfl (Nat.le_of_ble_eq_true rfl) dX11_ratedByEvents_2 ⟨by show _ ≤ 0; omega, by show _ ≤ 0; omega⟩ ⟨by omega, by omega⟩ (fun u hu t hG hF => ?_) (fun u2 hu => ?_)
  · rw [hu] at h
    obtain rfl := Option.some.inj h
    exact ⟨u, rfl, ⟨rfl, hG⟩, hF⟩
  · rw [hu.1] at h
    have p3 := hu.2
    simp only [Sum.elim_inl] at h
    refine c_get X 4 6 (v := .ref (ad 18 u2.toNatClampNeg)) rx4_ws rfl rfl rfl (vp_lt p3) g_938 rfl dX11_ratedByEvents_5 ?_
    refine z_astore_n (lo' := [(2, .ref (ad 18 u2.toNatClampNeg)), (0, .ref (ad 11 0)), (1, .int a1)]) X dX11_ratedByEvents_8 rfl (by rw [hml]; decide) rfl rfl ?_
    refine z_iconst (v := 0) X dX11_ratedByEvents_9 (by decide) ?_
    refine z_istore_n (lo' := [(3, .int 0), (2, .ref (ad 18 u2.toNatClampNeg)), (0, .ref (ad 11 0)), (1, .int a1)]) X dX11_ratedByEvents_10 rfl (by rw [hml]; decide) rfl rfl ?_
    refine z_iconst (v := 0) X dX11_ratedByEvents_11 (by decide) ?_
    refine z_istore (lo' := [(4, .int 0), (3, .int 0), (2, .ref (ad 18 u2.toNatClampNeg)), (0, .ref (ad 11 0)), (1, .int a1)]) X dX11_ratedByEvents_12 (by rw [hml]; decide) rfl rfl ?_
    refine zz.pick (lo' := [(0, .ref (ad 11 0)), (2, .ref (ad 18 u2.toNatClampNeg)), (3, .int 0), (4, .int 0)]) [0, 2, 3, 4] rfl ?_
    exact bz_ratedByEvents_14 X hml hr hnil h9 ⟨by omega, by omega⟩ FU h11 p3 h
theorem cz_ratedByEvents (l : Launch) {D : va_G} {dA : Nat → ClassId} {A : Nat → Prop} {n : Nat} (hst : l.stackTraces = false) (hA : ∀ q, n ≤ q → A q) {V : Rho} {L : Lst} {N : Cnt} {ad : Adr} {xs : va_W} (h11 : 0 < N 11) {a1 : Int32} {o : (Int32) ⊕ Nat} (h9 : ∀ u, o ≠ .inr u) (h : fc_ratedByEvents V L N a1 = some o) : vx_Met l yX11_ratedByEvents (.code yX11_ratedByEvents cX11_ratedByEvents 7 (some .int) :: gT) ({ frames := 11, cells := 0, slots := 0, locals := 462 } : Room) (va_Pc [.ref (ad 11 0), .int a1] (zB D dA A n (cx D dA A V L N ad xs))) (va_Qi (fun r (w9 : Int32) => r = w9 ∧ o = .inl w9 ∧ True) (fun (w9 : Int32) t => cx D dA A V L N ad xs t.heap) A) (vx_X (fun (u : Nat) => o = .inr u) (fun E u t => E = exn u ∧ cx D dA A V L N ad xs t.heap) A) 0 0 A :=
  zx_met (by decide) hA hst (Nat.le_of_ble_eq_true rfl) rfl rfl (fun p e s m below meth c X hml hr hnil => bz_ratedByEvents X hml hr hnil h9 ⟨by omega, by omega⟩ h11 h)
-- tag
set_option maxRecDepth 100000 in
set_option maxHeartbeats 4000000 in
theorem bz_tag {p : Program} {l : Launch} {e : Env} {s : State} {m : MethodId} {args : Array Value} {below : List Frame} {meth : Method} {c : Code} {D : va_G} {dA : Nat → ClassId} {A : Nat → Prop} {xs : va_W} {o : (Int32) ⊕ Nat} {V : Rho} {L : Lst} {N : Cnt} {ad : Adr} (X : zc p l s m args meth c cX11_tag RX11 D dA A) (hml : c.maxLocals = 2) (hr : meth.sig.returnType = (some .int)) (hnil : ∀ x ∈ c.exceptionTable.toList, False) (h9 : ∀ u, o ≠ .inr u) {cells slots : Nat} (hcs : cells + 0 ≤ 0 ∧ slots + 0 ≤ 0) (h11 : 0 < N 11) {a1 : Int32} (h : fc_tag V L N a1 = some o) : zz p l e ({ frames := 10, cells := 0, slots := 0, locals := 420 } : Room) s m args below meth c A (cx D dA A V L N ad xs) cells slots (vx_MQ below (va_Qi (fun r (w9 : Int32) => r = w9 ∧ o = .inl w9 ∧ True) (fun (w9 : Int32) t => cx D dA A V L N ad xs t.heap) A) (vx_X (fun (u : Nat) => o = .inr u) (fun E u t => E = exn u ∧ cx D dA A V L N ad xs t.heap) A) args s 0 0 A) 0 [(0, .ref (ad 11 0)), (1, .int a1)] [] [] := by
  obtain ⟨hcs1, hcs2⟩ := hcs
  unfold fc_tag at h
  refine z_aload_n X dX11_tag_0 rfl rfl ?_
  refine z_iload_n X dX11_tag_1 rfl rfl ?_
  obtain ⟨o1, co1, h⟩ := zb2 h
  have k9 : ∀ u, o1 ≠ .inr u := fun u z => by rw [z] at h; exact h9 u (Option.some.inj h).symm
  refine z_xVq (As := [.int a1]) (rest := []) (nA := 1) (mc := 0) (ms := 0) (rm := ({ frames := 9, cells := 0, slots := 0, locals := 378 } : Room)) (S := Int32) (r0 := fun u => some (ad 4 u.toNatClampNeg)) (pu := fun u => o1 = .inl u ∧ vp_in u (N 4)) (G1 := fun u => cx D dA A V L N ad xs) X hnil (cz_legAt l X.2.2.2.2.2.2.2.2 X.2.2.2.2.2.2.1 h11 k9 co1) g_1184 g_1186 gs_24 g_1 g_1187 hd_yX11_legAt ⟨rfl, rfl, Nat.le_of_ble_eq_true rfl, Nat.le_of_ble_eq_true rfl⟩ rfl (fun _ hG => cx_recv X (k := 11) (n := 9) rfl rfl h11 hG)  rfl (Nat.le_of_ble_eq_true rfl) dX11_tag_2 ⟨by show _ ≤ 0; omega, by show _ ≤ 0; omega⟩ ⟨by omega, by omega⟩ (fun u hu t hG hF => ?_) (fun u2 hu => ?_)
  · rw [hu] at h
    obtain rfl := Option.some.inj h
    exact ⟨u, rfl, ⟨rfl, hG⟩, hF⟩
  · rw [hu.1] at h
    have p3 := hu.2
    simp only [Sum.elim_inl] at h
    refine c_get X 4 11 (v := .int (V 91 u2.toNatClampNeg)) rx4_ws rfl rfl rfl (vp_lt p3) g_949 rfl dX11_tag_5 ?_
    obtain rfl := Option.some.inj h
    refine zx_ret ?_
    refine zz.widen (k := 0) (n := 0) (by omega) (by omega) ?_
    exact z_iret X hr rfl (fun t hG hF _ => ⟨⟨_, _, rfl, ⟨rfl, ⟨rfl, trivial⟩⟩, hG⟩, hF⟩) dX11_tag_8
theorem cz_tag (l : Launch) {D : va_G} {dA : Nat → ClassId} {A : Nat → Prop} {n : Nat} (hst : l.stackTraces = false) (hA : ∀ q, n ≤ q → A q) {V : Rho} {L : Lst} {N : Cnt} {ad : Adr} {xs : va_W} (h11 : 0 < N 11) {a1 : Int32} {o : (Int32) ⊕ Nat} (h9 : ∀ u, o ≠ .inr u) (h : fc_tag V L N a1 = some o) : vx_Met l yX11_tag (.code yX11_tag cX11_tag 2 (some .int) :: gT) ({ frames := 10, cells := 0, slots := 0, locals := 420 } : Room) (va_Pc [.ref (ad 11 0), .int a1] (zB D dA A n (cx D dA A V L N ad xs))) (va_Qi (fun r (w9 : Int32) => r = w9 ∧ o = .inl w9 ∧ True) (fun (w9 : Int32) t => cx D dA A V L N ad xs t.heap) A) (vx_X (fun (u : Nat) => o = .inr u) (fun E u t => E = exn u ∧ cx D dA A V L N ad xs t.heap) A) 0 0 A :=
  zx_met (by decide) hA hst (Nat.le_of_ble_eq_true rfl) rfl rfl (fun p e s m below meth c X hml hr hnil => bz_tag X hml hr hnil h9 ⟨by omega, by omega⟩ h11 h)
-- seal
set_option maxRecDepth 100000 in
set_option maxHeartbeats 4000000 in
theorem bz_seal {p : Program} {l : Launch} {e : Env} {s : State} {m : MethodId} {args : Array Value} {below : List Frame} {meth : Method} {c : Code} {D : va_G} {dA : Nat → ClassId} {A : Nat → Prop} {xs : va_W} {o : (Int32) ⊕ Nat} {V : Rho} {L : Lst} {N : Cnt} {ad : Adr} (X : zc p l s m args meth c cX11_seal RX11 D dA A) (hml : c.maxLocals = 2) (hr : meth.sig.returnType = (some .int)) (hnil : ∀ x ∈ c.exceptionTable.toList, False) (h9 : ∀ u, o ≠ .inr u) {cells slots : Nat} (hcs : cells + 0 ≤ 0 ∧ slots + 0 ≤ 0) (h11 : 0 < N 11) {a1 : Int32} (h : fc_seal V L N a1 = some o) : zz p l e ({ frames := 10, cells := 0, slots := 0, locals := 420 } : Room) s m args below meth c A (cx D dA A V L N ad xs) cells slots (vx_MQ below (va_Qi (fun r (w9 : Int32) => r = w9 ∧ o = .inl w9 ∧ True) (fun (w9 : Int32) t => cx D dA A V L N ad xs t.heap) A) (vx_X (fun (u : Nat) => o = .inr u) (fun E u t => E = exn u ∧ cx D dA A V L N ad xs t.heap) A) args s 0 0 A) 0 [(0, .ref (ad 11 0)), (1, .int a1)] [] [] := by
  obtain ⟨hcs1, hcs2⟩ := hcs
  unfold fc_seal at h
  refine z_aload_n X dX11_seal_0 rfl rfl ?_
  refine z_iload_n X dX11_seal_1 rfl rfl ?_
  obtain ⟨o1, co1, h⟩ := zb2 h
  have k9 : ∀ u, o1 ≠ .inr u := fun u z => by rw [z] at h; exact h9 u (Option.some.inj h).symm
  refine z_xVq (As := [.int a1]) (rest := []) (nA := 1) (mc := 0) (ms := 0) (rm := ({ frames := 9, cells := 0, slots := 0, locals := 378 } : Room)) (S := Int32) (r0 := fun u => some (ad 4 u.toNatClampNeg)) (pu := fun u => o1 = .inl u ∧ vp_in u (N 4)) (G1 := fun u => cx D dA A V L N ad xs) X hnil (cz_legAt l X.2.2.2.2.2.2.2.2 X.2.2.2.2.2.2.1 h11 k9 co1) g_1184 g_1186 gs_24 g_1 g_1187 hd_yX11_legAt ⟨rfl, rfl, Nat.le_of_ble_eq_true rfl, Nat.le_of_ble_eq_true rfl⟩ rfl (fun _ hG => cx_recv X (k := 11) (n := 9) rfl rfl h11 hG)  rfl (Nat.le_of_ble_eq_true rfl) dX11_seal_2 ⟨by show _ ≤ 0; omega, by show _ ≤ 0; omega⟩ ⟨by omega, by omega⟩ (fun u hu t hG hF => ?_) (fun u2 hu => ?_)
  · rw [hu] at h
    obtain rfl := Option.some.inj h
    exact ⟨u, rfl, ⟨rfl, hG⟩, hF⟩
  · rw [hu.1] at h
    have p3 := hu.2
    simp only [Sum.elim_inl] at h
    obtain ⟨o4, co4, h⟩ := zb2 h
    refine z_callVi (As := []) (rest := []) (nA := 0) (mc := 0) (ms := 0) (rm := ({ frames := 9, cells := 0, slots := 0, locals := 378 } : Room)) (r0 := o4) (pu := fun (_ : Unit) => True) (G1 := fun _ => cx D dA A V L N ad xs) X (cc_Leg_computeSeal l X.2.2.2.2.2.2.2.2 X.2.2.2.2.2.2.1 h11 p3 co4) g_1243 g_1244 g_1245 g_33 g_1246 hd_yX4_computeSeal ⟨rfl, rfl, Nat.le_of_ble_eq_true rfl, Nat.le_of_ble_eq_true rfl⟩ rfl (fun _ hG => cx_recv X (k := 4) (n := 12) rfl rfl (vp_lt p3) hG) rfl (Nat.le_of_ble_eq_true rfl) dX11_seal_5 ⟨by show _ ≤ 0; omega, by show _ ≤ 0; omega⟩ (fun _ _ => ?_)
    obtain rfl := Option.some.inj h
    refine zx_ret ?_
    refine zz.widen (k := 0) (n := 0) (by omega) (by omega) ?_
    exact z_iret X hr rfl (fun t hG hF _ => ⟨⟨_, _, rfl, ⟨rfl, ⟨rfl, trivial⟩⟩, hG⟩, hF⟩) dX11_seal_8
theorem cz_seal (l : Launch) {D : va_G} {dA : Nat → ClassId} {A : Nat → Prop} {n : Nat} (hst : l.stackTraces = false) (hA : ∀ q, n ≤ q → A q) {V : Rho} {L : Lst} {N : Cnt} {ad : Adr} {xs : va_W} (h11 : 0 < N 11) {a1 : Int32} {o : (Int32) ⊕ Nat} (h9 : ∀ u, o ≠ .inr u) (h : fc_seal V L N a1 = some o) : vx_Met l yX11_seal (.code yX11_seal cX11_seal 2 (some .int) :: gT) ({ frames := 10, cells := 0, slots := 0, locals := 420 } : Room) (va_Pc [.ref (ad 11 0), .int a1] (zB D dA A n (cx D dA A V L N ad xs))) (va_Qi (fun r (w9 : Int32) => r = w9 ∧ o = .inl w9 ∧ True) (fun (w9 : Int32) t => cx D dA A V L N ad xs t.heap) A) (vx_X (fun (u : Nat) => o = .inr u) (fun E u t => E = exn u ∧ cx D dA A V L N ad xs t.heap) A) 0 0 A :=
  zx_met (by decide) hA hst (Nat.le_of_ble_eq_true rfl) rfl rfl (fun p e s m below meth c X hml hr hnil => bz_seal X hml hr hnil h9 ⟨by omega, by omega⟩ h11 h)
-- stamp
set_option maxRecDepth 100000 in
set_option maxHeartbeats 4000000 in
theorem bz_stamp_17 {p : Program} {l : Launch} {e : Env} {s : State} {m : MethodId} {args : Array Value} {below : List Frame} {meth : Method} {c : Code} {D : va_G} {dA : Nat → ClassId} {A : Nat → Prop} {xs : va_W} {o : (Int32) ⊕ Nat} {V : Rho} {L : Lst} {N : Cnt} {ad : Adr} (X : zc p l s m args meth c cX11_stamp RX11 D dA A) (hml : c.maxLocals = 6) (hr : meth.sig.returnType = (some .int)) (hnil : ∀ x ∈ c.exceptionTable.toList, False) (h9 : ∀ u, o ≠ .inr u) {cells slots : Nat} (hcs : cells + 0 ≤ 0 ∧ slots + 0 ≤ 0) : ∀ (n : Nat) (h11 : 0 < N 11) {v2 : Int32} {v5 : Int32} {u3 : Int64} (fv2 : vp_in v2 (N 1)) , fc_stamp_17 n V L N v2 v5 u3 = some o → zz p l e ({ frames := 10, cells := 0, slots := 0, locals := 420 } : Room) s m args below meth c A (cx D dA A V L N ad xs) cells slots (vx_MQ below (va_Qi (fun r (w9 : Int32) => r = w9 ∧ o = .inl w9 ∧ True) (fun (w9 : Int32) t => cx D dA A V L N ad xs t.heap) A) (vx_X (fun (u : Nat) => o = .inr u) (fun E u t => E = exn u ∧ cx D dA A V L N ad xs t.heap) A) args s 0 0 A) 17 [(2, .ref (ad 1 v2.toNatClampNeg)), (5, .int v5)] [(3, u3)] [] := by
  obtain ⟨hcs1, hcs2⟩ := hcs
  intro n
  induction n with
  | zero => intro  h11 v2 v5 u3 fv2 h; exact (nomatch (show none = some o from h))
  | succ n ih =>
    intro  h11 v2 v5 u3 fv2 h
    rw [fc_stamp_17] at h
    refine z_iload X dX11_stamp_17 rfl ?_
    refine z_aload_n X dX11_stamp_19 rfl rfl ?_
    refine c_get X 1 2 (v := .ref (ad 17 v2.toNatClampNeg)) rx1_ws rfl rfl rfl (vp_lt fv2) g_885 rfl dX11_stamp_20 ?_
    obtain ⟨x1, ex1, h⟩ := zb h
    refine z_callVi (As := []) (rest := [.int v5]) (nA := 0) (mc := 0) (ms := 0) (rm := ({ frames := 8, cells := 0, slots := 0, locals := 336 } : Room)) (r0 := (nI (L 17 v2.toNatClampNeg).length)) (pu := fun (_ : Unit) => True) (G1 := fun _ => cx D dA A V L N ad xs) X (cl_size l X.2.2.2.2.2.2.2.2 X.2.2.2.2.2.2.1 (k := 17) (i := v2.toNatClampNeg) rfl rfl (vp_lt fv2)) g_308 g_309 g_310 g_4 g_311 hd_yJx4a65c_size_8abf5 ⟨rfl, rfl, Nat.le_of_ble_eq_true rfl, Nat.le_of_ble_eq_true rfl⟩ rfl (fun _ hG => cx_recvL X (k := 17) rfl rfl (vp_lt fv2) hG) rfl (Nat.le_of_ble_eq_true rfl) dX11_stamp_23 ⟨by show _ ≤ 0; omega, by show _ ≤ 0; omega⟩ (fun _ _ => ?_)
    rw [ex1]
    refine z_icmp_ge (tgt := 64) X dX11_stamp_26 (by decide) (fun q => ?_) (fun q => ?_)
    · have h := zp q h
      refine z_lload_n X dX11_stamp_64 rfl rfl ?_
      refine z_bipush (v := 32) X dX11_stamp_65 (by decide) ?_
      refine z_lshr X dX11_stamp_67 ?_
      refine z_l2i X dX11_stamp_68 ?_
      refine z_lload_n X dX11_stamp_69 rfl rfl ?_
      refine z_l2i X dX11_stamp_70 ?_
      refine z_ixor X dX11_stamp_71 ?_
      obtain rfl := Option.some.inj h
      refine zx_ret ?_
      refine zz.widen (k := 0) (n := 0) (by omega) (by omega) ?_
      exact z_iret X hr rfl (fun t hG hF _ => ⟨⟨_, _, rfl, ⟨rfl, ⟨rfl, trivial⟩⟩, hG⟩, hF⟩) dX11_stamp_72
    · have h := zn q h
      refine z_lload_n X dX11_stamp_29 rfl rfl ?_
      refine z_bipush (v := 7) X dX11_stamp_30 (by decide) ?_
      refine z_lshl X dX11_stamp_32 ?_
      refine z_lload_n X dX11_stamp_33 rfl rfl ?_
      refine z_bipush (v := 57) X dX11_stamp_34 (by decide) ?_
      refine z_lushr X dX11_stamp_36 ?_
      refine z_lor X dX11_stamp_37 ?_
      obtain ⟨x2, ex2, h⟩ := zb h
      rw [ex2]
      refine z_lstore_n X dX11_stamp_38 rfl (by rw [hml]; decide) (lo' := [(2, .ref (ad 1 v2.toNatClampNeg)), (5, .int v5)]) (ll' := [(3, x2)]) rfl rfl ?_
      refine z_lload_n X dX11_stamp_39 rfl rfl ?_
      refine z_aload_n X dX11_stamp_40 rfl rfl ?_
      refine c_get X 1 2 (v := .ref (ad 17 v2.toNatClampNeg)) rx1_ws rfl rfl rfl (vp_lt fv2) g_885 rfl dX11_stamp_41 ?_
      refine z_iload X dX11_stamp_44 rfl ?_
      obtain ⟨q3, h⟩ := zg h
      obtain ⟨x4, ex4, h⟩ := zb h
      refine z_callVq (As := [.int v5]) (rest := [.long x2]) (nA := 1) (mc := 0) (ms := 0) (rm := ({ frames := 8, cells := 0, slots := 0, locals := 336 } : Room)) (ro := fun _ => some (ad 4 ((L 17 v2.toNatClampNeg).getD v5.toNatClampNeg 0).toNatClampNeg)) (pu := fun (_ : Unit) => True) (G1 := fun _ => cx D dA A V L N ad xs) X (cl_get l X.2.2.2.2.2.2.2.2 X.2.2.2.2.2.2.1 (k := 17) (i := v2.toNatClampNeg) (x := v5) rfl rfl (vp_lt fv2) q3) g_852 g_554 g_555 g_4 g_556 hd_yJx4a65c_get_915e3 ⟨rfl, rfl, Nat.le_of_ble_eq_true rfl, Nat.le_of_ble_eq_true rfl⟩ rfl (fun _ hG => cx_recvL X (k := 17) rfl rfl (vp_lt fv2) hG) rfl (Nat.le_of_ble_eq_true rfl) dX11_stamp_46 ⟨by show _ ≤ 0; omega, by show _ ≤ 0; omega⟩ (fun _ _ => ?_)
      rw [ex4]
      refine zz.pre (fun H hG => cx_elt (k := 17) rfl rfl (vp_lt fv2) q3 hG) (fun p5 => ?_)
      rw [ex4] at p5
      refine c_cast X (k := 4) (n := 12) rfl rfl (vp_lt p5) g_897 dX11_stamp_49 ?_
      obtain ⟨o6, co6, h⟩ := zb2 h
      refine z_callVi (As := []) (rest := [.long x2]) (nA := 0) (mc := 0) (ms := 0) (rm := ({ frames := 9, cells := 0, slots := 0, locals := 378 } : Room)) (r0 := o6) (pu := fun (_ : Unit) => True) (G1 := fun _ => cx D dA A V L N ad xs) X (cc_Leg_computeSeal l X.2.2.2.2.2.2.2.2 X.2.2.2.2.2.2.1 h11 p5 co6) g_1243 g_1244 g_1245 g_33 g_1246 hd_yX4_computeSeal ⟨rfl, rfl, Nat.le_of_ble_eq_true rfl, Nat.le_of_ble_eq_true rfl⟩ rfl (fun _ hG => cx_recv X (k := 4) (n := 12) rfl rfl (vp_lt p5) hG) rfl (Nat.le_of_ble_eq_true rfl) dX11_stamp_52 ⟨by show _ ≤ 0; omega, by show _ ≤ 0; omega⟩ (fun _ _ => ?_)
      refine z_i2l X dX11_stamp_55 ?_
      refine z_ladd X dX11_stamp_56 ?_
      obtain ⟨x7, ex7, h⟩ := zb h
      rw [ex7]
      refine z_lstore_n X dX11_stamp_57 rfl (by rw [hml]; decide) (lo' := [(2, .ref (ad 1 v2.toNatClampNeg)), (5, .int v5)]) (ll' := [(3, x7)]) rfl rfl ?_
      obtain ⟨x8, ex8, h⟩ := zb h
      refine z_iinc (v := x8) (lo' := [(5, .int x8), (2, .ref (ad 1 v2.toNatClampNeg))]) X dX11_stamp_58 rfl ex8 (by rw [hml]; decide) rfl rfl ?_
      refine z_goto (tgt := 17) X dX11_stamp_61 (by decide) ?_
      refine zz.pick (lo' := [(2, .ref (ad 1 v2.toNatClampNeg)), (5, .int x8)]) [2, 5] rfl ?_
      exact ih h11 fv2 h
set_option maxRecDepth 100000 in
set_option maxHeartbeats 4000000 in
theorem bz_stamp {p : Program} {l : Launch} {e : Env} {s : State} {m : MethodId} {args : Array Value} {below : List Frame} {meth : Method} {c : Code} {D : va_G} {dA : Nat → ClassId} {A : Nat → Prop} {xs : va_W} {o : (Int32) ⊕ Nat} {V : Rho} {L : Lst} {N : Cnt} {ad : Adr} (X : zc p l s m args meth c cX11_stamp RX11 D dA A) (hml : c.maxLocals = 6) (hr : meth.sig.returnType = (some .int)) (hnil : ∀ x ∈ c.exceptionTable.toList, False) (h9 : ∀ u, o ≠ .inr u) {cells slots : Nat} (hcs : cells + 0 ≤ 0 ∧ slots + 0 ≤ 0) (h11 : 0 < N 11) {a1 : Int32} (h : fc_stamp V L N a1 = some o) : zz p l e ({ frames := 10, cells := 0, slots := 0, locals := 420 } : Room) s m args below meth c A (cx D dA A V L N ad xs) cells slots (vx_MQ below (va_Qi (fun r (w9 : Int32) => r = w9 ∧ o = .inl w9 ∧ True) (fun (w9 : Int32) t => cx D dA A V L N ad xs t.heap) A) (vx_X (fun (u : Nat) => o = .inr u) (fun E u t => E = exn u ∧ cx D dA A V L N ad xs t.heap) A) args s 0 0 A) 0 [(0, .ref (ad 11 0)), (1, .int a1)] [] [] := by
  obtain ⟨hcs1, hcs2⟩ := hcs
  unfold fc_stamp at h
  refine z_aload_n X dX11_stamp_0 rfl rfl ?_
  refine z_iload_n X dX11_stamp_1 rfl rfl ?_
  obtain ⟨o1, co1, h⟩ := zb2 h
  have k9 : ∀ u, o1 ≠ .inr u := fun u z => by rw [z] at h; exact h9 u (Option.some.inj h).symm
  refine z_xVq (As := [.int a1]) (rest := []) (nA := 1) (mc := 0) (ms := 0) (rm := ({ frames := 9, cells := 0, slots := 0, locals := 378 } : Room)) (S := Int32) (r0 := fun u => some (ad 1 u.toNatClampNeg)) (pu := fun u => o1 = .inl u ∧ vp_in u (N 1)) (G1 := fun u => cx D dA A V L N ad xs) X hnil (cz_callAt l X.2.2.2.2.2.2.2.2 X.2.2.2.2.2.2.1 h11 k9 co1) g_1079 g_1081 gs_20 g_1 g_1082 hd_yX11_callAt ⟨rfl, rfl, Nat.le_of_ble_eq_true rfl, Nat.le_of_ble_eq_true rfl⟩ rfl (fun _ hG => cx_recv X (k := 11) (n := 9) rfl rfl h11 hG)  rfl (Nat.le_of_ble_eq_true rfl) dX11_stamp_2 ⟨by show _ ≤ 0; omega, by show _ ≤ 0; omega⟩ ⟨by omega, by omega⟩ (fun u hu t hG hF => ?_) (fun u2 hu => ?_)
  · rw [hu] at h
    obtain rfl := Option.some.inj h
    exact ⟨u, rfl, ⟨rfl, hG⟩, hF⟩
  · rw [hu.1] at h
    have p3 := hu.2
    simp only [Sum.elim_inl] at h
    refine z_astore_n (lo' := [(2, .ref (ad 1 u2.toNatClampNeg)), (0, .ref (ad 11 0)), (1, .int a1)]) X dX11_stamp_5 rfl (by rw [hml]; decide) rfl rfl ?_
    refine z_aload_n X dX11_stamp_6 rfl rfl ?_
    refine c_get X 1 0 (v := .int (V 20 u2.toNatClampNeg)) rx1_ws rfl rfl rfl (vp_lt p3) g_881 rfl dX11_stamp_7 ?_
    refine z_iconst (v := 1) X dX11_stamp_10 (by decide) ?_
    refine z_iadd X dX11_stamp_11 ?_
    refine z_i2l X dX11_stamp_12 ?_
    obtain ⟨x4, ex4, h⟩ := zb h
    rw [ex4]
    refine z_lstore_n X dX11_stamp_13 rfl (by rw [hml]; decide) (lo' := [(2, .ref (ad 1 u2.toNatClampNeg)), (0, .ref (ad 11 0)), (1, .int a1)]) (ll' := [(3, x4)]) rfl rfl ?_
    refine z_iconst (v := 0) X dX11_stamp_14 (by decide) ?_
    refine z_istore (lo' := [(5, .int 0), (2, .ref (ad 1 u2.toNatClampNeg)), (0, .ref (ad 11 0)), (1, .int a1)]) X dX11_stamp_15 (by rw [hml]; decide) rfl rfl ?_
    refine zz.pick (lo' := [(2, .ref (ad 1 u2.toNatClampNeg)), (5, .int 0)]) [2, 5] rfl ?_
    exact bz_stamp_17 X hml hr hnil h9 ⟨by omega, by omega⟩ FU h11 p3 h
theorem cz_stamp (l : Launch) {D : va_G} {dA : Nat → ClassId} {A : Nat → Prop} {n : Nat} (hst : l.stackTraces = false) (hA : ∀ q, n ≤ q → A q) {V : Rho} {L : Lst} {N : Cnt} {ad : Adr} {xs : va_W} (h11 : 0 < N 11) {a1 : Int32} {o : (Int32) ⊕ Nat} (h9 : ∀ u, o ≠ .inr u) (h : fc_stamp V L N a1 = some o) : vx_Met l yX11_stamp (.code yX11_stamp cX11_stamp 6 (some .int) :: gT) ({ frames := 10, cells := 0, slots := 0, locals := 420 } : Room) (va_Pc [.ref (ad 11 0), .int a1] (zB D dA A n (cx D dA A V L N ad xs))) (va_Qi (fun r (w9 : Int32) => r = w9 ∧ o = .inl w9 ∧ True) (fun (w9 : Int32) t => cx D dA A V L N ad xs t.heap) A) (vx_X (fun (u : Nat) => o = .inr u) (fun E u t => E = exn u ∧ cx D dA A V L N ad xs t.heap) A) 0 0 A :=
  zx_met (by decide) hA hst (Nat.le_of_ble_eq_true rfl) rfl rfl (fun p e s m below meth c X hml hr hnil => bz_stamp X hml hr hnil h9 ⟨by omega, by omega⟩ h11 h)
