-- areLegs(LMeshBiller;[I[I[I)Z
def fl_areLegs_486 (k374 : GS → Int32 → Int32 → Int64 → Option (GS × Int32)) (σ : GS) (v7 : Int32) (u4 : Int64) (s0 : Int32) : Option (GS × Int32) := (some (v7 + 1)).bind fun x1 => k374 σ s0 x1 (u4)
set_option maxRecDepth 100000 in
set_option maxHeartbeats 4000000 in
theorem bl_areLegs_486 {p : Program} {l : Launch} {e : Env} {s : State} {m : MethodId} {args : Array Value} {below : List Frame} {meth : Method} {c : Code} {D : va_G} {dA : Nat → ClassId} {A : Nat → Prop} {ar : Nat → Nat} {ob b Ls : Nat} {sc : Nat → Int32} {o : GS × Int32} (X : zc p l s m args meth c cL_areLegs RL D dA A) (Y : zY s A b Ls sc) (hml : c.maxLocals = 12) (hr : meth.sig.returnType = (some .boolean)) {k374 : GS → Int32 → Int32 → Int64 → Option (GS × Int32)} (hk374 : ∀ {σ : GS} {v6 : Int32} {v7 : Int32} {u4 : Int64}, k374 σ v6 v7 u4 = some o → zz p l e ({ frames := 12, cells := 0, slots := 0, locals := 504 } : Room) s m args below meth c A (gw D dA A σ ob ar) 0 0 (MQ below (va_Qi (fun r (_ : Unit) => r = o.2 ∧ True) (fun _ t => gw D dA A o.1 ob ar t.heap) A) args s (0) (0) A) 374 [(0, .ref ob), (6, .int (v6)), (7, .int (v7))] [(4, u4)] []) {σ : GS} {v7 : Int32} {u4 : Int64} {s0 : Int32} (h : fl_areLegs_486 k374 σ v7 u4 s0 = some o) : zz p l e ({ frames := 12, cells := 0, slots := 0, locals := 504 } : Room) s m args below meth c A (gw D dA A σ ob ar) 0 0 (MQ below (va_Qi (fun r (_ : Unit) => r = o.2 ∧ True) (fun _ t => gw D dA A o.1 ob ar t.heap) A) args s (0) (0) A) 486 [(0, .ref ob), (7, .int (v7))] [(4, u4)] [.int (s0)] := by
  unfold fl_areLegs_486 at h
  refine z_istore (lo' := [(6, .int (s0)), (0, .ref ob), (7, .int (v7))]) X dL_areLegs_486 (by rw [hml]; decide) rfl rfl ?_
  obtain ⟨x1, ex1, h⟩ := zb h
  refine z_iinc (v := x1) (lo' := [(7, .int (x1)), (6, .int (s0)), (0, .ref ob)]) X dL_areLegs_488 rfl ex1 (by rw [hml]; decide) rfl rfl ?_
  refine z_goto (tgt := 374) X dL_areLegs_491 (by decide) ?_
  refine zz.pick (lo' := [(0, .ref ob), (6, .int (s0)), (7, .int (x1))]) [0, 6, 7] rfl ?_
  exact hk374  h
def fl_areLegs_485 (k374 : GS → Int32 → Int32 → Int64 → Option (GS × Int32)) (σ : GS) (v7 : Int32) (u4 : Int64) : Option (GS × Int32) := fl_areLegs_486 k374 σ v7 (u4) 0
set_option maxRecDepth 100000 in
set_option maxHeartbeats 4000000 in
theorem bl_areLegs_485 {p : Program} {l : Launch} {e : Env} {s : State} {m : MethodId} {args : Array Value} {below : List Frame} {meth : Method} {c : Code} {D : va_G} {dA : Nat → ClassId} {A : Nat → Prop} {ar : Nat → Nat} {ob b Ls : Nat} {sc : Nat → Int32} {o : GS × Int32} (X : zc p l s m args meth c cL_areLegs RL D dA A) (Y : zY s A b Ls sc) (hml : c.maxLocals = 12) (hr : meth.sig.returnType = (some .boolean)) {k374 : GS → Int32 → Int32 → Int64 → Option (GS × Int32)} (hk374 : ∀ {σ : GS} {v6 : Int32} {v7 : Int32} {u4 : Int64}, k374 σ v6 v7 u4 = some o → zz p l e ({ frames := 12, cells := 0, slots := 0, locals := 504 } : Room) s m args below meth c A (gw D dA A σ ob ar) 0 0 (MQ below (va_Qi (fun r (_ : Unit) => r = o.2 ∧ True) (fun _ t => gw D dA A o.1 ob ar t.heap) A) args s (0) (0) A) 374 [(0, .ref ob), (6, .int (v6)), (7, .int (v7))] [(4, u4)] []) {σ : GS} {v7 : Int32} {u4 : Int64} (h : fl_areLegs_485 k374 σ v7 u4 = some o) : zz p l e ({ frames := 12, cells := 0, slots := 0, locals := 504 } : Room) s m args below meth c A (gw D dA A σ ob ar) 0 0 (MQ below (va_Qi (fun r (_ : Unit) => r = o.2 ∧ True) (fun _ t => gw D dA A o.1 ob ar t.heap) A) args s (0) (0) A) 485 [(0, .ref ob), (7, .int (v7))] [(4, u4)] [] := by
  unfold fl_areLegs_485 at h
  refine z_iconst (v := 0) X dL_areLegs_485 (by decide) ?_
  refine zz.pick (lo' := [(0, .ref ob), (7, .int (v7))]) [0, 7] rfl ?_
  exact bl_areLegs_486 X Y hml hr hk374 h
def fl_areLegs_461 (k374 : GS → Int32 → Int32 → Int64 → Option (GS × Int32)) (σ : GS) (v7 : Int32) (u4 : Int64) : Option (GS × Int32) := (aq_cellOf σ.1 (v7)).bind fun o1 => (if o1 < 0 then fl_areLegs_485 k374 σ v7 (u4)
  else (aq_cellOf σ.1 (v7)).bind fun o2 => (if 8 ≤ o2 then fl_areLegs_485 k374 σ v7 (u4)
  else fl_areLegs_486 k374 σ v7 (u4) 1))
set_option maxRecDepth 100000 in
set_option maxHeartbeats 4000000 in
theorem bl_areLegs_461 {p : Program} {l : Launch} {e : Env} {s : State} {m : MethodId} {args : Array Value} {below : List Frame} {meth : Method} {c : Code} {D : va_G} {dA : Nat → ClassId} {A : Nat → Prop} {ar : Nat → Nat} {ob b Ls : Nat} {sc : Nat → Int32} {o : GS × Int32} (X : zc p l s m args meth c cL_areLegs RL D dA A) (Y : zY s A b Ls sc) (hml : c.maxLocals = 12) (hr : meth.sig.returnType = (some .boolean)) {k374 : GS → Int32 → Int32 → Int64 → Option (GS × Int32)} (hk374 : ∀ {σ : GS} {v6 : Int32} {v7 : Int32} {u4 : Int64}, k374 σ v6 v7 u4 = some o → zz p l e ({ frames := 12, cells := 0, slots := 0, locals := 504 } : Room) s m args below meth c A (gw D dA A σ ob ar) 0 0 (MQ below (va_Qi (fun r (_ : Unit) => r = o.2 ∧ True) (fun _ t => gw D dA A o.1 ob ar t.heap) A) args s (0) (0) A) 374 [(0, .ref ob), (6, .int (v6)), (7, .int (v7))] [(4, u4)] []) {σ : GS} {v7 : Int32} {u4 : Int64} (h : fl_areLegs_461 k374 σ v7 u4 = some o) : zz p l e ({ frames := 12, cells := 0, slots := 0, locals := 504 } : Room) s m args below meth c A (gw D dA A σ ob ar) 0 0 (MQ below (va_Qi (fun r (_ : Unit) => r = o.2 ∧ True) (fun _ t => gw D dA A o.1 ob ar t.heap) A) args s (0) (0) A) 461 [(0, .ref ob), (7, .int (v7))] [(4, u4)] [] := by
  unfold fl_areLegs_461 at h
  refine z_aload_n X dL_areLegs_461 rfl rfl ?_
  refine z_iload X dL_areLegs_462 rfl ?_
  obtain ⟨o1, co1, h⟩ := zb2 h
  refine l_q (As := [.int (v7)]) (rest := []) (nA := 1) (mc := 0) (ms := 0) (rm := ({ frames := 7, cells := 0, slots := 0, locals := 294 } : Room)) (r0 := o1) X (fun _ h11 => cz_cellOf l X.2.2.2.2.2.2.2.2 X.2.2.2.2.2.2.1 h11 (fun _ z => nomatch z) (qo_eq co1)) n_761 n_762 n_763 n_1 n_764 nh_yX11_cellOf ⟨rfl, rfl, Nat.le_of_ble_eq_true rfl, Nat.le_of_ble_eq_true rfl⟩ rfl rfl (Nat.le_of_ble_eq_true rfl) dL_areLegs_464 ⟨by show _ ≤ 0; omega, by show _ ≤ 0; omega⟩ ?_
  refine z_if_lt (tgt := 485) X dL_areLegs_467 (by decide) (fun q => ?_) (fun q => ?_)
  · have h := zp q h
    refine zz.pick (lo' := [(0, .ref ob), (7, .int (v7))]) [0, 7] rfl ?_
    exact bl_areLegs_485 X Y hml hr hk374 h
  · have h := zn q h
    refine z_aload_n X dL_areLegs_470 rfl rfl ?_
    refine z_iload X dL_areLegs_471 rfl ?_
    obtain ⟨o2, co2, h⟩ := zb2 h
    refine l_q (As := [.int (v7)]) (rest := []) (nA := 1) (mc := 0) (ms := 0) (rm := ({ frames := 7, cells := 0, slots := 0, locals := 294 } : Room)) (r0 := o2) X (fun _ h11 => cz_cellOf l X.2.2.2.2.2.2.2.2 X.2.2.2.2.2.2.1 h11 (fun _ z => nomatch z) (qo_eq co2)) n_761 n_762 n_763 n_1 n_764 nh_yX11_cellOf ⟨rfl, rfl, Nat.le_of_ble_eq_true rfl, Nat.le_of_ble_eq_true rfl⟩ rfl rfl (Nat.le_of_ble_eq_true rfl) dL_areLegs_473 ⟨by show _ ≤ 0; omega, by show _ ≤ 0; omega⟩ ?_
    refine z_bipush (v := 8) X dL_areLegs_476 (by decide) ?_
    refine z_icmp_ge (tgt := 485) X dL_areLegs_478 (by decide) (fun q => ?_) (fun q => ?_)
    · have h := zp q h
      refine zz.pick (lo' := [(0, .ref ob), (7, .int (v7))]) [0, 7] rfl ?_
      exact bl_areLegs_485 X Y hml hr hk374 h
    · have h := zn q h
      refine z_iconst (v := 1) X dL_areLegs_481 (by decide) ?_
      refine z_goto (tgt := 486) X dL_areLegs_482 (by decide) ?_
      refine zz.pick (lo' := [(0, .ref ob), (7, .int (v7))]) [0, 7] rfl ?_
      exact bl_areLegs_486 X Y hml hr hk374 h
def fl_areLegs_419 (k374 : GS → Int32 → Int32 → Int64 → Option (GS × Int32)) (σ : GS) (v7 : Int32) (v8 : Int32) (u4 : Int64) (s0 : Int32) : Option (GS × Int32) := (if s0 = v8 then (if v8 = 0 then (aq_sliceOf σ.1 (v7)).bind fun o1 => (if o1 = 0 then fl_areLegs_461 k374 σ v7 (u4)
  else fl_areLegs_485 k374 σ v7 (u4))
  else (aq_sliceOf σ.1 (v7)).bind fun o2 => (if o2 < 0 then fl_areLegs_485 k374 σ v7 (u4)
  else (aq_sliceOf σ.1 (v7)).bind fun o3 => (if 100 < o3 then fl_areLegs_485 k374 σ v7 (u4)
  else fl_areLegs_461 k374 σ v7 (u4))))
  else fl_areLegs_485 k374 σ v7 (u4))
set_option maxRecDepth 100000 in
set_option maxHeartbeats 4000000 in
theorem bl_areLegs_419 {p : Program} {l : Launch} {e : Env} {s : State} {m : MethodId} {args : Array Value} {below : List Frame} {meth : Method} {c : Code} {D : va_G} {dA : Nat → ClassId} {A : Nat → Prop} {ar : Nat → Nat} {ob b Ls : Nat} {sc : Nat → Int32} {o : GS × Int32} (X : zc p l s m args meth c cL_areLegs RL D dA A) (Y : zY s A b Ls sc) (hml : c.maxLocals = 12) (hr : meth.sig.returnType = (some .boolean)) {k374 : GS → Int32 → Int32 → Int64 → Option (GS × Int32)} (hk374 : ∀ {σ : GS} {v6 : Int32} {v7 : Int32} {u4 : Int64}, k374 σ v6 v7 u4 = some o → zz p l e ({ frames := 12, cells := 0, slots := 0, locals := 504 } : Room) s m args below meth c A (gw D dA A σ ob ar) 0 0 (MQ below (va_Qi (fun r (_ : Unit) => r = o.2 ∧ True) (fun _ t => gw D dA A o.1 ob ar t.heap) A) args s (0) (0) A) 374 [(0, .ref ob), (6, .int (v6)), (7, .int (v7))] [(4, u4)] []) {σ : GS} {v7 : Int32} {v8 : Int32} {u4 : Int64} {s0 : Int32} (h : fl_areLegs_419 k374 σ v7 v8 u4 s0 = some o) : zz p l e ({ frames := 12, cells := 0, slots := 0, locals := 504 } : Room) s m args below meth c A (gw D dA A σ ob ar) 0 0 (MQ below (va_Qi (fun r (_ : Unit) => r = o.2 ∧ True) (fun _ t => gw D dA A o.1 ob ar t.heap) A) args s (0) (0) A) 419 [(0, .ref ob), (7, .int (v7)), (8, .int (v8))] [(4, u4)] [.int (s0)] := by
  unfold fl_areLegs_419 at h
  refine z_iload X dL_areLegs_419 rfl ?_
  refine z_icmp_ne (tgt := 485) X dL_areLegs_421 (by decide) (fun q => ?_) (fun q => ?_)
  · have h := zp q h
    refine z_iload X dL_areLegs_424 rfl ?_
    refine z_if_eq (tgt := 452) X dL_areLegs_426 (by decide) (fun q => ?_) (fun q => ?_)
    · have h := zp q h
      refine z_aload_n X dL_areLegs_452 rfl rfl ?_
      refine z_iload X dL_areLegs_453 rfl ?_
      obtain ⟨o1, co1, h⟩ := zb2 h
      refine l_q (As := [.int (v7)]) (rest := []) (nA := 1) (mc := 0) (ms := 0) (rm := ({ frames := 7, cells := 0, slots := 0, locals := 294 } : Room)) (r0 := o1) X (fun _ h11 => cz_sliceOf l X.2.2.2.2.2.2.2.2 X.2.2.2.2.2.2.1 h11 (fun _ z => nomatch z) (qo_eq co1)) n_937 n_938 n_939 n_1 n_940 nh_yX11_sliceOf ⟨rfl, rfl, Nat.le_of_ble_eq_true rfl, Nat.le_of_ble_eq_true rfl⟩ rfl rfl (Nat.le_of_ble_eq_true rfl) dL_areLegs_455 ⟨by show _ ≤ 0; omega, by show _ ≤ 0; omega⟩ ?_
      refine z_if_ne (tgt := 485) X dL_areLegs_458 (by decide) (fun q => ?_) (fun q => ?_)
      · have h := zp q h
        refine zz.pick (lo' := [(0, .ref ob), (7, .int (v7))]) [0, 7] rfl ?_
        exact bl_areLegs_461 X Y hml hr hk374 h
      · have h := zn q h
        refine zz.pick (lo' := [(0, .ref ob), (7, .int (v7))]) [0, 7] rfl ?_
        exact bl_areLegs_485 X Y hml hr hk374 h
    · have h := zn q h
      refine z_aload_n X dL_areLegs_429 rfl rfl ?_
      refine z_iload X dL_areLegs_430 rfl ?_
      obtain ⟨o2, co2, h⟩ := zb2 h
      refine l_q (As := [.int (v7)]) (rest := []) (nA := 1) (mc := 0) (ms := 0) (rm := ({ frames := 7, cells := 0, slots := 0, locals := 294 } : Room)) (r0 := o2) X (fun _ h11 => cz_sliceOf l X.2.2.2.2.2.2.2.2 X.2.2.2.2.2.2.1 h11 (fun _ z => nomatch z) (qo_eq co2)) n_937 n_938 n_939 n_1 n_940 nh_yX11_sliceOf ⟨rfl, rfl, Nat.le_of_ble_eq_true rfl, Nat.le_of_ble_eq_true rfl⟩ rfl rfl (Nat.le_of_ble_eq_true rfl) dL_areLegs_432 ⟨by show _ ≤ 0; omega, by show _ ≤ 0; omega⟩ ?_
      refine z_if_lt (tgt := 485) X dL_areLegs_435 (by decide) (fun q => ?_) (fun q => ?_)
      · have h := zp q h
        refine zz.pick (lo' := [(0, .ref ob), (7, .int (v7))]) [0, 7] rfl ?_
        exact bl_areLegs_485 X Y hml hr hk374 h
      · have h := zn q h
        refine z_aload_n X dL_areLegs_438 rfl rfl ?_
        refine z_iload X dL_areLegs_439 rfl ?_
        obtain ⟨o3, co3, h⟩ := zb2 h
        refine l_q (As := [.int (v7)]) (rest := []) (nA := 1) (mc := 0) (ms := 0) (rm := ({ frames := 7, cells := 0, slots := 0, locals := 294 } : Room)) (r0 := o3) X (fun _ h11 => cz_sliceOf l X.2.2.2.2.2.2.2.2 X.2.2.2.2.2.2.1 h11 (fun _ z => nomatch z) (qo_eq co3)) n_937 n_938 n_939 n_1 n_940 nh_yX11_sliceOf ⟨rfl, rfl, Nat.le_of_ble_eq_true rfl, Nat.le_of_ble_eq_true rfl⟩ rfl rfl (Nat.le_of_ble_eq_true rfl) dL_areLegs_441 ⟨by show _ ≤ 0; omega, by show _ ≤ 0; omega⟩ ?_
        refine z_bipush (v := 100) X dL_areLegs_444 (by decide) ?_
        refine z_icmp_gt (tgt := 485) X dL_areLegs_446 (by decide) (fun q => ?_) (fun q => ?_)
        · have h := zp q h
          refine zz.pick (lo' := [(0, .ref ob), (7, .int (v7))]) [0, 7] rfl ?_
          exact bl_areLegs_485 X Y hml hr hk374 h
        · have h := zn q h
          refine z_goto (tgt := 461) X dL_areLegs_449 (by decide) ?_
          refine zz.pick (lo' := [(0, .ref ob), (7, .int (v7))]) [0, 7] rfl ?_
          exact bl_areLegs_461 X Y hml hr hk374 h
  · have h := zn q h
    refine zz.pick (lo' := [(0, .ref ob), (7, .int (v7))]) [0, 7] rfl ?_
    exact bl_areLegs_485 X Y hml hr hk374 h
def fl_areLegs_403 (k374 : GS → Int32 → Int32 → Int64 → Option (GS × Int32)) (σ : GS) (v7 : Int32) (u4 : Int64) (s0 : Int32) : Option (GS × Int32) := (aq_legOf σ.1 (v7)).bind fun o1 => (if o1 < 0 then fl_areLegs_419 k374 σ v7 s0 (u4) 0
  else fl_areLegs_419 k374 σ v7 s0 (u4) 1)
set_option maxRecDepth 100000 in
set_option maxHeartbeats 4000000 in
theorem bl_areLegs_403 {p : Program} {l : Launch} {e : Env} {s : State} {m : MethodId} {args : Array Value} {below : List Frame} {meth : Method} {c : Code} {D : va_G} {dA : Nat → ClassId} {A : Nat → Prop} {ar : Nat → Nat} {ob b Ls : Nat} {sc : Nat → Int32} {o : GS × Int32} (X : zc p l s m args meth c cL_areLegs RL D dA A) (Y : zY s A b Ls sc) (hml : c.maxLocals = 12) (hr : meth.sig.returnType = (some .boolean)) {k374 : GS → Int32 → Int32 → Int64 → Option (GS × Int32)} (hk374 : ∀ {σ : GS} {v6 : Int32} {v7 : Int32} {u4 : Int64}, k374 σ v6 v7 u4 = some o → zz p l e ({ frames := 12, cells := 0, slots := 0, locals := 504 } : Room) s m args below meth c A (gw D dA A σ ob ar) 0 0 (MQ below (va_Qi (fun r (_ : Unit) => r = o.2 ∧ True) (fun _ t => gw D dA A o.1 ob ar t.heap) A) args s (0) (0) A) 374 [(0, .ref ob), (6, .int (v6)), (7, .int (v7))] [(4, u4)] []) {σ : GS} {v7 : Int32} {u4 : Int64} {s0 : Int32} (h : fl_areLegs_403 k374 σ v7 u4 s0 = some o) : zz p l e ({ frames := 12, cells := 0, slots := 0, locals := 504 } : Room) s m args below meth c A (gw D dA A σ ob ar) 0 0 (MQ below (va_Qi (fun r (_ : Unit) => r = o.2 ∧ True) (fun _ t => gw D dA A o.1 ob ar t.heap) A) args s (0) (0) A) 403 [(0, .ref ob), (7, .int (v7))] [(4, u4)] [.int (s0)] := by
  unfold fl_areLegs_403 at h
  refine z_istore (lo' := [(8, .int (s0)), (0, .ref ob), (7, .int (v7))]) X dL_areLegs_403 (by rw [hml]; decide) rfl rfl ?_
  refine z_aload_n X dL_areLegs_405 rfl rfl ?_
  refine z_iload X dL_areLegs_406 rfl ?_
  obtain ⟨o1, co1, h⟩ := zb2 h
  refine l_q (As := [.int (v7)]) (rest := []) (nA := 1) (mc := 0) (ms := 0) (rm := ({ frames := 7, cells := 0, slots := 0, locals := 294 } : Room)) (r0 := o1) X (fun _ h11 => cz_legOf l X.2.2.2.2.2.2.2.2 X.2.2.2.2.2.2.1 h11 (fun _ z => nomatch z) (qo_eq co1)) n_313 n_314 n_315 n_1 n_316 nh_yX11_legOf ⟨rfl, rfl, Nat.le_of_ble_eq_true rfl, Nat.le_of_ble_eq_true rfl⟩ rfl rfl (Nat.le_of_ble_eq_true rfl) dL_areLegs_408 ⟨by show _ ≤ 0; omega, by show _ ≤ 0; omega⟩ ?_
  refine z_if_lt (tgt := 418) X dL_areLegs_411 (by decide) (fun q => ?_) (fun q => ?_)
  · have h := zp q h
    refine z_iconst (v := 0) X dL_areLegs_418 (by decide) ?_
    refine zz.pick (lo' := [(0, .ref ob), (7, .int (v7)), (8, .int (s0))]) [0, 7, 8] rfl ?_
    exact bl_areLegs_419 X Y hml hr hk374 h
  · have h := zn q h
    refine z_iconst (v := 1) X dL_areLegs_414 (by decide) ?_
    refine z_goto (tgt := 419) X dL_areLegs_415 (by decide) ?_
    refine zz.pick (lo' := [(0, .ref ob), (7, .int (v7)), (8, .int (s0))]) [0, 7, 8] rfl ?_
    exact bl_areLegs_419 X Y hml hr hk374 h
def fl_areLegs_374 : Nat → GS → Int32 → Int32 → Int64 → Option (GS × Int32)
  | 0, _, _, _, _ => none
  | n + 1, σ, v6, v7, u4 => (if 10 ≤ v7 then if v6 = 0 ∨ v6 = 1 then some (σ, v6) else none
  else (if v6 = 0 then if v6 = 0 ∨ v6 = 1 then some (σ, v6) else none
  else (if (lg_cmp ((u4 >>> ((v7 : Int32).toInt64 &&& 63)) &&& 1) 1) = 0 then fl_areLegs_403 (fl_areLegs_374 n) σ v7 (u4) 1
  else fl_areLegs_403 (fl_areLegs_374 n) σ v7 (u4) 0)))
set_option maxRecDepth 100000 in
set_option maxHeartbeats 4000000 in
theorem bl_areLegs_374 {p : Program} {l : Launch} {e : Env} {s : State} {m : MethodId} {args : Array Value} {below : List Frame} {meth : Method} {c : Code} {D : va_G} {dA : Nat → ClassId} {A : Nat → Prop} {ar : Nat → Nat} {ob b Ls : Nat} {sc : Nat → Int32} {o : GS × Int32} (X : zc p l s m args meth c cL_areLegs RL D dA A) (Y : zY s A b Ls sc) (hml : c.maxLocals = 12) (hr : meth.sig.returnType = (some .boolean)) : ∀ (n : Nat) {σ : GS} {v6 : Int32} {v7 : Int32} {u4 : Int64}, fl_areLegs_374 n σ v6 v7 u4 = some o → zz p l e ({ frames := 12, cells := 0, slots := 0, locals := 504 } : Room) s m args below meth c A (gw D dA A σ ob ar) 0 0 (MQ below (va_Qi (fun r (_ : Unit) => r = o.2 ∧ True) (fun _ t => gw D dA A o.1 ob ar t.heap) A) args s (0) (0) A) 374 [(0, .ref ob), (6, .int (v6)), (7, .int (v7))] [(4, u4)] [] := by
  intro n
  induction n with
  | zero => intro σ v6 v7 u4 h; exact (nomatch (show none = some o from h))
  | succ n ih =>
    intro σ v6 v7 u4 h
    rw [fl_areLegs_374] at h
    refine z_iload X dL_areLegs_374 rfl ?_
    refine z_bipush (v := 10) X dL_areLegs_376 (by decide) ?_
    refine z_icmp_ge (tgt := 494) X dL_areLegs_378 (by decide) (fun q => ?_) (fun q => ?_)
    · have h := zp q h
      refine z_iload X dL_areLegs_494 rfl ?_
      obtain ⟨q, h⟩ := zgp h
      obtain rfl := Option.some.inj h
      exact z_iret X hr (z_nb q) (fun t hG hF _ => ⟨⟨_, (), rfl, ⟨rfl, trivial⟩, hG⟩, hF⟩) dL_areLegs_496
    · have h := zn q h
      refine z_iload X dL_areLegs_381 rfl ?_
      refine z_if_eq (tgt := 494) X dL_areLegs_383 (by decide) (fun q => ?_) (fun q => ?_)
      · have h := zp q h
        refine z_iload X dL_areLegs_494 rfl ?_
        obtain ⟨q, h⟩ := zgp h
        obtain rfl := Option.some.inj h
        exact z_iret X hr (z_nb q) (fun t hG hF _ => ⟨⟨_, (), rfl, ⟨rfl, trivial⟩, hG⟩, hF⟩) dL_areLegs_496
      · have h := zn q h
        refine z_lload X dL_areLegs_386 rfl ?_
        refine z_iload X dL_areLegs_388 rfl ?_
        refine z_lshr X dL_areLegs_390 ?_
        refine z_lconst (v := 1) X dL_areLegs_391 (by decide) ?_
        refine z_land X dL_areLegs_392 ?_
        refine z_lconst (v := 1) X dL_areLegs_393 (by decide) ?_
        refine z_lcmp X dL_areLegs_394 ?_
        refine z_if_ne (tgt := 402) X dL_areLegs_395 (by decide) (fun q => ?_) (fun q => ?_)
        · have h := zp q h
          refine z_iconst (v := 1) X dL_areLegs_398 (by decide) ?_
          refine z_goto (tgt := 403) X dL_areLegs_399 (by decide) ?_
          refine zz.pick (lo' := [(0, .ref ob), (7, .int (v7))]) [0, 7] rfl ?_
          exact bl_areLegs_403 X Y hml hr ih h
        · have h := zn q h
          refine z_iconst (v := 0) X dL_areLegs_402 (by decide) ?_
          refine zz.pick (lo' := [(0, .ref ob), (7, .int (v7))]) [0, 7] rfl ?_
          exact bl_areLegs_403 X Y hml hr ih h
def fl_areLegs_371 (σ : GS) (v6 : Int32) (u4 : Int64) : Option (GS × Int32) := fl_areLegs_374 FU σ v6 0 (u4)
set_option maxRecDepth 100000 in
set_option maxHeartbeats 4000000 in
theorem bl_areLegs_371 {p : Program} {l : Launch} {e : Env} {s : State} {m : MethodId} {args : Array Value} {below : List Frame} {meth : Method} {c : Code} {D : va_G} {dA : Nat → ClassId} {A : Nat → Prop} {ar : Nat → Nat} {ob b Ls : Nat} {sc : Nat → Int32} {o : GS × Int32} (X : zc p l s m args meth c cL_areLegs RL D dA A) (Y : zY s A b Ls sc) (hml : c.maxLocals = 12) (hr : meth.sig.returnType = (some .boolean)) {σ : GS} {v6 : Int32} {u4 : Int64} (h : fl_areLegs_371 σ v6 u4 = some o) : zz p l e ({ frames := 12, cells := 0, slots := 0, locals := 504 } : Room) s m args below meth c A (gw D dA A σ ob ar) 0 0 (MQ below (va_Qi (fun r (_ : Unit) => r = o.2 ∧ True) (fun _ t => gw D dA A o.1 ob ar t.heap) A) args s (0) (0) A) 371 [(0, .ref ob), (6, .int (v6))] [(4, u4)] [] := by
  unfold fl_areLegs_371 at h
  refine z_iconst (v := 0) X dL_areLegs_371 (by decide) ?_
  refine z_istore (lo' := [(7, .int (0)), (0, .ref ob), (6, .int (v6))]) X dL_areLegs_372 (by rw [hml]; decide) rfl rfl ?_
  refine zz.pick (lo' := [(0, .ref ob), (6, .int (v6)), (7, .int (0))]) [0, 6, 7] rfl ?_
  exact bl_areLegs_374 X Y hml hr FU h
def fl_areLegs_363 (k33 : GS → Int32 → Int32 → Int64 → Option (GS × Int32)) (σ : GS) (v7 : Int32) (u4 : Int64) (s0 : Int32) : Option (GS × Int32) := (some (v7 + 1)).bind fun x1 => k33 σ s0 x1 (u4)
set_option maxRecDepth 100000 in
set_option maxHeartbeats 4000000 in
theorem bl_areLegs_363 {p : Program} {l : Launch} {e : Env} {s : State} {m : MethodId} {args : Array Value} {below : List Frame} {meth : Method} {c : Code} {D : va_G} {dA : Nat → ClassId} {A : Nat → Prop} {ar : Nat → Nat} {ob b Ls : Nat} {sc : Nat → Int32} {o : GS × Int32} (X : zc p l s m args meth c cL_areLegs RL D dA A) (Y : zY s A b Ls sc) (hml : c.maxLocals = 12) (hr : meth.sig.returnType = (some .boolean)) {k33 : GS → Int32 → Int32 → Int64 → Option (GS × Int32)} (hk33 : ∀ {σ : GS} {v6 : Int32} {v7 : Int32} {u4 : Int64}, k33 σ v6 v7 u4 = some o → zz p l e ({ frames := 12, cells := 0, slots := 0, locals := 504 } : Room) s m args below meth c A (gw D dA A σ ob ar) 0 0 (MQ below (va_Qi (fun r (_ : Unit) => r = o.2 ∧ True) (fun _ t => gw D dA A o.1 ob ar t.heap) A) args s (0) (0) A) 33 [(0, .ref ob), (1, .ref (ar 0)), (2, .ref (ar 1)), (3, .ref (ar 2)), (6, .int (v6)), (7, .int (v7))] [(4, u4)] []) {σ : GS} {v7 : Int32} {u4 : Int64} {s0 : Int32} (h : fl_areLegs_363 k33 σ v7 u4 s0 = some o) : zz p l e ({ frames := 12, cells := 0, slots := 0, locals := 504 } : Room) s m args below meth c A (gw D dA A σ ob ar) 0 0 (MQ below (va_Qi (fun r (_ : Unit) => r = o.2 ∧ True) (fun _ t => gw D dA A o.1 ob ar t.heap) A) args s (0) (0) A) 363 [(0, .ref ob), (1, .ref (ar 0)), (2, .ref (ar 1)), (3, .ref (ar 2)), (7, .int (v7))] [(4, u4)] [.int (s0)] := by
  unfold fl_areLegs_363 at h
  refine z_istore (lo' := [(6, .int (s0)), (0, .ref ob), (1, .ref (ar 0)), (2, .ref (ar 1)), (3, .ref (ar 2)), (7, .int (v7))]) X dL_areLegs_363 (by rw [hml]; decide) rfl rfl ?_
  obtain ⟨x1, ex1, h⟩ := zb h
  refine z_iinc (v := x1) (lo' := [(7, .int (x1)), (6, .int (s0)), (0, .ref ob), (1, .ref (ar 0)), (2, .ref (ar 1)), (3, .ref (ar 2))]) X dL_areLegs_365 rfl ex1 (by rw [hml]; decide) rfl rfl ?_
  refine z_goto (tgt := 33) X dL_areLegs_368 (by decide) ?_
  refine zz.pick (lo' := [(0, .ref ob), (1, .ref (ar 0)), (2, .ref (ar 1)), (3, .ref (ar 2)), (6, .int (s0)), (7, .int (x1))]) [0, 1, 2, 3, 6, 7] rfl ?_
  exact hk33  h
def fl_areLegs_362 (k33 : GS → Int32 → Int32 → Int64 → Option (GS × Int32)) (σ : GS) (v7 : Int32) (u4 : Int64) : Option (GS × Int32) := fl_areLegs_363 k33 σ v7 (u4) 0
set_option maxRecDepth 100000 in
set_option maxHeartbeats 4000000 in
theorem bl_areLegs_362 {p : Program} {l : Launch} {e : Env} {s : State} {m : MethodId} {args : Array Value} {below : List Frame} {meth : Method} {c : Code} {D : va_G} {dA : Nat → ClassId} {A : Nat → Prop} {ar : Nat → Nat} {ob b Ls : Nat} {sc : Nat → Int32} {o : GS × Int32} (X : zc p l s m args meth c cL_areLegs RL D dA A) (Y : zY s A b Ls sc) (hml : c.maxLocals = 12) (hr : meth.sig.returnType = (some .boolean)) {k33 : GS → Int32 → Int32 → Int64 → Option (GS × Int32)} (hk33 : ∀ {σ : GS} {v6 : Int32} {v7 : Int32} {u4 : Int64}, k33 σ v6 v7 u4 = some o → zz p l e ({ frames := 12, cells := 0, slots := 0, locals := 504 } : Room) s m args below meth c A (gw D dA A σ ob ar) 0 0 (MQ below (va_Qi (fun r (_ : Unit) => r = o.2 ∧ True) (fun _ t => gw D dA A o.1 ob ar t.heap) A) args s (0) (0) A) 33 [(0, .ref ob), (1, .ref (ar 0)), (2, .ref (ar 1)), (3, .ref (ar 2)), (6, .int (v6)), (7, .int (v7))] [(4, u4)] []) {σ : GS} {v7 : Int32} {u4 : Int64} (h : fl_areLegs_362 k33 σ v7 u4 = some o) : zz p l e ({ frames := 12, cells := 0, slots := 0, locals := 504 } : Room) s m args below meth c A (gw D dA A σ ob ar) 0 0 (MQ below (va_Qi (fun r (_ : Unit) => r = o.2 ∧ True) (fun _ t => gw D dA A o.1 ob ar t.heap) A) args s (0) (0) A) 362 [(0, .ref ob), (1, .ref (ar 0)), (2, .ref (ar 1)), (3, .ref (ar 2)), (7, .int (v7))] [(4, u4)] [] := by
  unfold fl_areLegs_362 at h
  refine z_iconst (v := 0) X dL_areLegs_362 (by decide) ?_
  refine zz.pick (lo' := [(0, .ref ob), (1, .ref (ar 0)), (2, .ref (ar 1)), (3, .ref (ar 2)), (7, .int (v7))]) [0, 1, 2, 3, 7] rfl ?_
  exact bl_areLegs_363 X Y hml hr hk33 h
def fl_areLegs_358 (k33 : GS → Int32 → Int32 → Int64 → Option (GS × Int32)) (σ : GS) (v7 : Int32) (u4 : Int64) : Option (GS × Int32) := fl_areLegs_363 k33 σ v7 (u4) 1
set_option maxRecDepth 100000 in
set_option maxHeartbeats 4000000 in
theorem bl_areLegs_358 {p : Program} {l : Launch} {e : Env} {s : State} {m : MethodId} {args : Array Value} {below : List Frame} {meth : Method} {c : Code} {D : va_G} {dA : Nat → ClassId} {A : Nat → Prop} {ar : Nat → Nat} {ob b Ls : Nat} {sc : Nat → Int32} {o : GS × Int32} (X : zc p l s m args meth c cL_areLegs RL D dA A) (Y : zY s A b Ls sc) (hml : c.maxLocals = 12) (hr : meth.sig.returnType = (some .boolean)) {k33 : GS → Int32 → Int32 → Int64 → Option (GS × Int32)} (hk33 : ∀ {σ : GS} {v6 : Int32} {v7 : Int32} {u4 : Int64}, k33 σ v6 v7 u4 = some o → zz p l e ({ frames := 12, cells := 0, slots := 0, locals := 504 } : Room) s m args below meth c A (gw D dA A σ ob ar) 0 0 (MQ below (va_Qi (fun r (_ : Unit) => r = o.2 ∧ True) (fun _ t => gw D dA A o.1 ob ar t.heap) A) args s (0) (0) A) 33 [(0, .ref ob), (1, .ref (ar 0)), (2, .ref (ar 1)), (3, .ref (ar 2)), (6, .int (v6)), (7, .int (v7))] [(4, u4)] []) {σ : GS} {v7 : Int32} {u4 : Int64} (h : fl_areLegs_358 k33 σ v7 u4 = some o) : zz p l e ({ frames := 12, cells := 0, slots := 0, locals := 504 } : Room) s m args below meth c A (gw D dA A σ ob ar) 0 0 (MQ below (va_Qi (fun r (_ : Unit) => r = o.2 ∧ True) (fun _ t => gw D dA A o.1 ob ar t.heap) A) args s (0) (0) A) 358 [(0, .ref ob), (1, .ref (ar 0)), (2, .ref (ar 1)), (3, .ref (ar 2)), (7, .int (v7))] [(4, u4)] [] := by
  unfold fl_areLegs_358 at h
  refine z_iconst (v := 1) X dL_areLegs_358 (by decide) ?_
  refine z_goto (tgt := 363) X dL_areLegs_359 (by decide) ?_
  refine zz.pick (lo' := [(0, .ref ob), (1, .ref (ar 0)), (2, .ref (ar 1)), (3, .ref (ar 2)), (7, .int (v7))]) [0, 1, 2, 3, 7] rfl ?_
  exact bl_areLegs_363 X Y hml hr hk33 h
def fl_areLegs_281 (k33 : GS → Int32 → Int32 → Int64 → Option (GS × Int32)) (σ : GS) (v6 : Int32) (v7 : Int32) (v8 : Int32) (u4 : Int64) : Option (GS × Int32) := (if v6 = 0 then fl_areLegs_362 k33 σ v7 (u4)
  else (aq_seal σ.1 (v7)).bind fun o1 => if v7 < 0 ∨ 64 ≤ (v7).toNatClampNeg then none else if v7 < 0 ∨ 64 ≤ (v7).toNatClampNeg then none else (if o1 = ((σ.2 1 (v7).toNatClampNeg) ^^^ ((((σ.2 1 (v7).toNatClampNeg) : Int32).toUInt32 >>> ((16 : Int32).toUInt32 &&& Int32.toUInt32 31)).toInt32)) then (aq_tag σ.1 (v7)).bind fun o4 => (if o4 < (-128) then fl_areLegs_362 k33 σ v7 (u4)
  else (aq_tag σ.1 (v7)).bind fun o5 => (if 127 < o5 then fl_areLegs_362 k33 σ v7 (u4)
  else (aq_seconds σ.1 (v7)).bind fun o6 => (if 0 < o6 then fl_areLegs_358 k33 σ v7 (u4)
  else (aq_tag σ.1 (v7)).bind fun o7 => (if o7 = v8 then (aq_ratedByEvents σ.1 (v7)).bind fun o8 => (if o8 = 0 then fl_areLegs_358 k33 σ v7 (u4)
  else fl_areLegs_362 k33 σ v7 (u4))
  else fl_areLegs_362 k33 σ v7 (u4)))))
  else fl_areLegs_362 k33 σ v7 (u4)))
set_option maxRecDepth 100000 in
set_option maxHeartbeats 4000000 in
theorem bl_areLegs_281 {p : Program} {l : Launch} {e : Env} {s : State} {m : MethodId} {args : Array Value} {below : List Frame} {meth : Method} {c : Code} {D : va_G} {dA : Nat → ClassId} {A : Nat → Prop} {ar : Nat → Nat} {ob b Ls : Nat} {sc : Nat → Int32} {o : GS × Int32} (X : zc p l s m args meth c cL_areLegs RL D dA A) (Y : zY s A b Ls sc) (hml : c.maxLocals = 12) (hr : meth.sig.returnType = (some .boolean)) {k33 : GS → Int32 → Int32 → Int64 → Option (GS × Int32)} (hk33 : ∀ {σ : GS} {v6 : Int32} {v7 : Int32} {u4 : Int64}, k33 σ v6 v7 u4 = some o → zz p l e ({ frames := 12, cells := 0, slots := 0, locals := 504 } : Room) s m args below meth c A (gw D dA A σ ob ar) 0 0 (MQ below (va_Qi (fun r (_ : Unit) => r = o.2 ∧ True) (fun _ t => gw D dA A o.1 ob ar t.heap) A) args s (0) (0) A) 33 [(0, .ref ob), (1, .ref (ar 0)), (2, .ref (ar 1)), (3, .ref (ar 2)), (6, .int (v6)), (7, .int (v7))] [(4, u4)] []) {σ : GS} {v6 : Int32} {v7 : Int32} {v8 : Int32} {u4 : Int64} (h : fl_areLegs_281 k33 σ v6 v7 v8 u4 = some o) : zz p l e ({ frames := 12, cells := 0, slots := 0, locals := 504 } : Room) s m args below meth c A (gw D dA A σ ob ar) 0 0 (MQ below (va_Qi (fun r (_ : Unit) => r = o.2 ∧ True) (fun _ t => gw D dA A o.1 ob ar t.heap) A) args s (0) (0) A) 281 [(0, .ref ob), (1, .ref (ar 0)), (2, .ref (ar 1)), (3, .ref (ar 2)), (6, .int (v6)), (7, .int (v7)), (8, .int (v8))] [(4, u4)] [] := by
  unfold fl_areLegs_281 at h
  refine z_iload X dL_areLegs_281 rfl ?_
  refine z_if_eq (tgt := 362) X dL_areLegs_283 (by decide) (fun q => ?_) (fun q => ?_)
  · have h := zp q h
    refine zz.pick (lo' := [(0, .ref ob), (1, .ref (ar 0)), (2, .ref (ar 1)), (3, .ref (ar 2)), (7, .int (v7))]) [0, 1, 2, 3, 7] rfl ?_
    exact bl_areLegs_362 X Y hml hr hk33 h
  · have h := zn q h
    refine z_aload_n X dL_areLegs_286 rfl rfl ?_
    refine z_iload X dL_areLegs_287 rfl ?_
    obtain ⟨o1, co1, h⟩ := zb2 h
    refine l_q (As := [.int (v7)]) (rest := []) (nA := 1) (mc := 0) (ms := 0) (rm := ({ frames := 10, cells := 0, slots := 0, locals := 420 } : Room)) (r0 := o1) X (fun _ h11 => cz_seal l X.2.2.2.2.2.2.2.2 X.2.2.2.2.2.2.1 h11 (fun _ z => nomatch z) (qo_eq co1)) n_908 n_909 n_910 n_1 n_911 nh_yX11_seal ⟨rfl, rfl, Nat.le_of_ble_eq_true rfl, Nat.le_of_ble_eq_true rfl⟩ rfl rfl (Nat.le_of_ble_eq_true rfl) dL_areLegs_289 ⟨by show _ ≤ 0; omega, by show _ ≤ 0; omega⟩ ?_
    refine z_aload_n X dL_areLegs_292 rfl rfl ?_
    refine z_iload X dL_areLegs_293 rfl ?_
    obtain ⟨q2, h⟩ := zg h
    refine l_ald X 1 rfl q2 dL_areLegs_295 ?_
    refine z_aload_n X dL_areLegs_296 rfl rfl ?_
    refine z_iload X dL_areLegs_297 rfl ?_
    obtain ⟨q3, h⟩ := zg h
    refine l_ald X 1 rfl q3 dL_areLegs_299 ?_
    refine z_bipush (v := 16) X dL_areLegs_300 (by decide) ?_
    refine z_iushr X dL_areLegs_302 ?_
    refine z_ixor X dL_areLegs_303 ?_
    refine z_icmp_ne (tgt := 362) X dL_areLegs_304 (by decide) (fun q => ?_) (fun q => ?_)
    · have h := zp q h
      refine z_aload_n X dL_areLegs_307 rfl rfl ?_
      refine z_iload X dL_areLegs_308 rfl ?_
      obtain ⟨o4, co4, h⟩ := zb2 h
      refine l_q (As := [.int (v7)]) (rest := []) (nA := 1) (mc := 0) (ms := 0) (rm := ({ frames := 10, cells := 0, slots := 0, locals := 420 } : Room)) (r0 := o4) X (fun _ h11 => cz_tag l X.2.2.2.2.2.2.2.2 X.2.2.2.2.2.2.1 h11 (fun _ z => nomatch z) (qo_eq co4)) n_917 n_918 n_919 n_1 n_920 nh_yX11_tag ⟨rfl, rfl, Nat.le_of_ble_eq_true rfl, Nat.le_of_ble_eq_true rfl⟩ rfl rfl (Nat.le_of_ble_eq_true rfl) dL_areLegs_310 ⟨by show _ ≤ 0; omega, by show _ ≤ 0; omega⟩ ?_
      refine z_bipush (v := (-128)) X dL_areLegs_313 (by decide) ?_
      refine z_icmp_lt (tgt := 362) X dL_areLegs_315 (by decide) (fun q => ?_) (fun q => ?_)
      · have h := zp q h
        refine zz.pick (lo' := [(0, .ref ob), (1, .ref (ar 0)), (2, .ref (ar 1)), (3, .ref (ar 2)), (7, .int (v7))]) [0, 1, 2, 3, 7] rfl ?_
        exact bl_areLegs_362 X Y hml hr hk33 h
      · have h := zn q h
        refine z_aload_n X dL_areLegs_318 rfl rfl ?_
        refine z_iload X dL_areLegs_319 rfl ?_
        obtain ⟨o5, co5, h⟩ := zb2 h
        refine l_q (As := [.int (v7)]) (rest := []) (nA := 1) (mc := 0) (ms := 0) (rm := ({ frames := 10, cells := 0, slots := 0, locals := 420 } : Room)) (r0 := o5) X (fun _ h11 => cz_tag l X.2.2.2.2.2.2.2.2 X.2.2.2.2.2.2.1 h11 (fun _ z => nomatch z) (qo_eq co5)) n_917 n_918 n_919 n_1 n_920 nh_yX11_tag ⟨rfl, rfl, Nat.le_of_ble_eq_true rfl, Nat.le_of_ble_eq_true rfl⟩ rfl rfl (Nat.le_of_ble_eq_true rfl) dL_areLegs_321 ⟨by show _ ≤ 0; omega, by show _ ≤ 0; omega⟩ ?_
        refine z_bipush (v := 127) X dL_areLegs_324 (by decide) ?_
        refine z_icmp_gt (tgt := 362) X dL_areLegs_326 (by decide) (fun q => ?_) (fun q => ?_)
        · have h := zp q h
          refine zz.pick (lo' := [(0, .ref ob), (1, .ref (ar 0)), (2, .ref (ar 1)), (3, .ref (ar 2)), (7, .int (v7))]) [0, 1, 2, 3, 7] rfl ?_
          exact bl_areLegs_362 X Y hml hr hk33 h
        · have h := zn q h
          refine z_aload_n X dL_areLegs_329 rfl rfl ?_
          refine z_iload X dL_areLegs_330 rfl ?_
          obtain ⟨o6, co6, h⟩ := zb2 h
          refine l_q (As := [.int (v7)]) (rest := []) (nA := 1) (mc := 0) (ms := 0) (rm := ({ frames := 10, cells := 0, slots := 0, locals := 420 } : Room)) (r0 := o6) X (fun _ h11 => cz_seconds l X.2.2.2.2.2.2.2.2 X.2.2.2.2.2.2.1 h11 (fun _ z => nomatch z) (qo_eq co6)) n_904 n_905 n_906 n_1 n_907 nh_yX11_seconds ⟨rfl, rfl, Nat.le_of_ble_eq_true rfl, Nat.le_of_ble_eq_true rfl⟩ rfl rfl (Nat.le_of_ble_eq_true rfl) dL_areLegs_332 ⟨by show _ ≤ 0; omega, by show _ ≤ 0; omega⟩ ?_
          refine z_if_gt (tgt := 358) X dL_areLegs_335 (by decide) (fun q => ?_) (fun q => ?_)
          · have h := zp q h
            refine zz.pick (lo' := [(0, .ref ob), (1, .ref (ar 0)), (2, .ref (ar 1)), (3, .ref (ar 2)), (7, .int (v7))]) [0, 1, 2, 3, 7] rfl ?_
            exact bl_areLegs_358 X Y hml hr hk33 h
          · have h := zn q h
            refine z_aload_n X dL_areLegs_338 rfl rfl ?_
            refine z_iload X dL_areLegs_339 rfl ?_
            obtain ⟨o7, co7, h⟩ := zb2 h
            refine l_q (As := [.int (v7)]) (rest := []) (nA := 1) (mc := 0) (ms := 0) (rm := ({ frames := 10, cells := 0, slots := 0, locals := 420 } : Room)) (r0 := o7) X (fun _ h11 => cz_tag l X.2.2.2.2.2.2.2.2 X.2.2.2.2.2.2.1 h11 (fun _ z => nomatch z) (qo_eq co7)) n_917 n_918 n_919 n_1 n_920 nh_yX11_tag ⟨rfl, rfl, Nat.le_of_ble_eq_true rfl, Nat.le_of_ble_eq_true rfl⟩ rfl rfl (Nat.le_of_ble_eq_true rfl) dL_areLegs_341 ⟨by show _ ≤ 0; omega, by show _ ≤ 0; omega⟩ ?_
            refine z_iload X dL_areLegs_344 rfl ?_
            refine z_icmp_ne (tgt := 362) X dL_areLegs_346 (by decide) (fun q => ?_) (fun q => ?_)
            · have h := zp q h
              refine z_aload_n X dL_areLegs_349 rfl rfl ?_
              refine z_iload X dL_areLegs_350 rfl ?_
              obtain ⟨o8, co8, h⟩ := zb2 h
              refine l_q (As := [.int (v7)]) (rest := []) (nA := 1) (mc := 0) (ms := 0) (rm := ({ frames := 11, cells := 0, slots := 0, locals := 462 } : Room)) (r0 := o8) X (fun _ h11 => cz_ratedByEvents l X.2.2.2.2.2.2.2.2 X.2.2.2.2.2.2.1 h11 (fun _ z => nomatch z) (qo_eq co8)) n_921 n_922 n_923 n_1 n_924 nh_yX11_ratedByEvents ⟨rfl, rfl, Nat.le_of_ble_eq_true rfl, Nat.le_of_ble_eq_true rfl⟩ rfl rfl (Nat.le_of_ble_eq_true rfl) dL_areLegs_352 ⟨by show _ ≤ 0; omega, by show _ ≤ 0; omega⟩ ?_
              refine z_if_ne (tgt := 362) X dL_areLegs_355 (by decide) (fun q => ?_) (fun q => ?_)
              · have h := zp q h
                refine zz.pick (lo' := [(0, .ref ob), (1, .ref (ar 0)), (2, .ref (ar 1)), (3, .ref (ar 2)), (7, .int (v7))]) [0, 1, 2, 3, 7] rfl ?_
                exact bl_areLegs_358 X Y hml hr hk33 h
              · have h := zn q h
                refine zz.pick (lo' := [(0, .ref ob), (1, .ref (ar 0)), (2, .ref (ar 1)), (3, .ref (ar 2)), (7, .int (v7))]) [0, 1, 2, 3, 7] rfl ?_
                exact bl_areLegs_362 X Y hml hr hk33 h
            · have h := zn q h
              refine zz.pick (lo' := [(0, .ref ob), (1, .ref (ar 0)), (2, .ref (ar 1)), (3, .ref (ar 2)), (7, .int (v7))]) [0, 1, 2, 3, 7] rfl ?_
              exact bl_areLegs_362 X Y hml hr hk33 h
    · have h := zn q h
      refine zz.pick (lo' := [(0, .ref ob), (1, .ref (ar 0)), (2, .ref (ar 1)), (3, .ref (ar 2)), (7, .int (v7))]) [0, 1, 2, 3, 7] rfl ?_
      exact bl_areLegs_362 X Y hml hr hk33 h
def fl_areLegs_219 (k33 : GS → Int32 → Int32 → Int64 → Option (GS × Int32)) (σ : GS) (v6 : Int32) (v7 : Int32) (v8 : Int32) (v10 : Int32) (v11 : Int32) (s0 : Int64) (s1 : Int64) : Option (GS × Int32) := (some ((s0 ||| s1))).bind fun x1 => (if v11 = 0 then fl_areLegs_281 k33 σ v6 v7 v8 (x1)
  else if v7 < 0 ∨ 64 ≤ (v7).toNatClampNeg then none else (fl_part σ ((σ.2 0 (v7).toNatClampNeg)) (13) (1)).bind fun o3 => (if o3 = 0 then if v7 < 0 ∨ 64 ≤ (v7).toNatClampNeg then none else if v7 < 0 ∨ 64 ≤ (v7).toNatClampNeg then none else (some ((σ.1, cs σ.2 0 (v7).toNatClampNeg (((σ.2 0 (v7).toNatClampNeg) ||| 8192))) : GS)).bind fun σ5 => if v7 < 0 ∨ 64 ≤ (v7).toNatClampNeg then none else (aq_seconds σ5.1 (v7)).bind fun o8 => if v7 < 0 ∨ 64 ≤ (v7).toNatClampNeg then none else (fl_part σ5 ((σ5.2 0 (v7).toNatClampNeg)) (10) (3)).bind fun o10 => (fl_event σ5 ((σ5.2 1 (v7).toNatClampNeg)) (2) ((v10 + o8)) (o10)).bind fun o11 => if v7 < 0 ∨ 64 ≤ (v7).toNatClampNeg then none else (some ((σ5.1, cs σ5.2 1 (v7).toNatClampNeg (o11)) : GS)).bind fun σ12 => fl_areLegs_281 k33 σ12 v6 v7 v8 (x1)
  else fl_areLegs_281 k33 σ v6 v7 v8 (x1)))
set_option maxRecDepth 100000 in
set_option maxHeartbeats 4000000 in
theorem bl_areLegs_219 {p : Program} {l : Launch} {e : Env} {s : State} {m : MethodId} {args : Array Value} {below : List Frame} {meth : Method} {c : Code} {D : va_G} {dA : Nat → ClassId} {A : Nat → Prop} {ar : Nat → Nat} {ob b Ls : Nat} {sc : Nat → Int32} {o : GS × Int32} (X : zc p l s m args meth c cL_areLegs RL D dA A) (Y : zY s A b Ls sc) (hml : c.maxLocals = 12) (hr : meth.sig.returnType = (some .boolean)) {k33 : GS → Int32 → Int32 → Int64 → Option (GS × Int32)} (hk33 : ∀ {σ : GS} {v6 : Int32} {v7 : Int32} {u4 : Int64}, k33 σ v6 v7 u4 = some o → zz p l e ({ frames := 12, cells := 0, slots := 0, locals := 504 } : Room) s m args below meth c A (gw D dA A σ ob ar) 0 0 (MQ below (va_Qi (fun r (_ : Unit) => r = o.2 ∧ True) (fun _ t => gw D dA A o.1 ob ar t.heap) A) args s (0) (0) A) 33 [(0, .ref ob), (1, .ref (ar 0)), (2, .ref (ar 1)), (3, .ref (ar 2)), (6, .int (v6)), (7, .int (v7))] [(4, u4)] []) {σ : GS} {v6 : Int32} {v7 : Int32} {v8 : Int32} {v10 : Int32} {v11 : Int32} {s0 : Int64} {s1 : Int64} (h : fl_areLegs_219 k33 σ v6 v7 v8 v10 v11 s0 s1 = some o) : zz p l e ({ frames := 12, cells := 0, slots := 0, locals := 504 } : Room) s m args below meth c A (gw D dA A σ ob ar) 0 0 (MQ below (va_Qi (fun r (_ : Unit) => r = o.2 ∧ True) (fun _ t => gw D dA A o.1 ob ar t.heap) A) args s (0) (0) A) 219 [(0, .ref ob), (1, .ref (ar 0)), (2, .ref (ar 1)), (3, .ref (ar 2)), (6, .int (v6)), (7, .int (v7)), (8, .int (v8)), (10, .int (v10)), (11, .int (v11))] [] [.long (s1), .long (s0)] := by
  unfold fl_areLegs_219 at h
  refine z_lor X dL_areLegs_219 ?_
  obtain ⟨x1, ex1, h⟩ := zb h
  rw [ex1]
  refine z_lstore X dL_areLegs_220 (by rw [hml]; decide) (lo' := [(0, .ref ob), (1, .ref (ar 0)), (2, .ref (ar 1)), (3, .ref (ar 2)), (6, .int (v6)), (7, .int (v7)), (8, .int (v8)), (10, .int (v10)), (11, .int (v11))]) (ll' := [(4, x1)]) rfl rfl ?_
  refine z_iload X dL_areLegs_222 rfl ?_
  refine z_if_eq (tgt := 281) X dL_areLegs_224 (by decide) (fun q => ?_) (fun q => ?_)
  · have h := zp q h
    refine zz.pick (lo' := [(0, .ref ob), (1, .ref (ar 0)), (2, .ref (ar 1)), (3, .ref (ar 2)), (6, .int (v6)), (7, .int (v7)), (8, .int (v8))]) [0, 1, 2, 3, 6, 7, 8] rfl ?_
    exact bl_areLegs_281 X Y hml hr hk33 h
  · have h := zn q h
    refine z_aload_n X dL_areLegs_227 rfl rfl ?_
    refine z_iload X dL_areLegs_228 rfl ?_
    obtain ⟨q2, h⟩ := zg h
    refine l_ald X 0 rfl q2 dL_areLegs_230 ?_
    refine z_bipush (v := 13) X dL_areLegs_231 (by decide) ?_
    refine z_iconst (v := 1) X dL_areLegs_233 (by decide) ?_
    obtain ⟨o3, co3, h⟩ := zb2 h
    refine z_lSi (As := [.int ((σ.2 0 (v7).toNatClampNeg)), .int (13), .int (1)]) (rest := []) (nA := 3) (mc := 0) (ms := 0) (r0 := o3) (pu := fun (_ : Unit) => True) (G1 := fun _ => gw D dA A σ ob ar) X Y (ll_part l X.2.2.2.2.2.2.2.2 X.2.2.2.2.2.2.1 Y.2.2.2 co3) n_784 n_785 n_0 n_786 nh_yL_part ⟨rfl, rfl, Nat.le_of_ble_eq_true rfl, Nat.le_of_ble_eq_true rfl⟩ rfl rfl (Nat.le_of_ble_eq_true rfl) dL_areLegs_234 ⟨by show _ ≤ 0; omega, by show _ ≤ 0; omega⟩ (fun _ _ => ?_)
    refine z_if_ne (tgt := 281) X dL_areLegs_237 (by decide) (fun q => ?_) (fun q => ?_)
    · have h := zp q h
      refine z_aload_n X dL_areLegs_240 rfl rfl ?_
      refine z_iload X dL_areLegs_241 rfl ?_
      refine z_dup2 X dL_areLegs_243 rfl rfl ?_
      obtain ⟨q4, h⟩ := zg h
      refine l_ald X 0 rfl q4 dL_areLegs_244 ?_
      refine z_sipush (v := 8192) X dL_areLegs_245 (by decide) ?_
      refine z_ior X dL_areLegs_248 ?_
      obtain ⟨q6, h⟩ := zg h
      obtain ⟨σ5, eσ5, h⟩ := zb h
      refine l_ast X 0 rfl q6 eσ5 dL_areLegs_249 ?_
      refine z_aload_n X dL_areLegs_250 rfl rfl ?_
      refine z_iload X dL_areLegs_251 rfl ?_
      refine z_aload_n X dL_areLegs_253 rfl rfl ?_
      refine z_iload X dL_areLegs_254 rfl ?_
      obtain ⟨q7, h⟩ := zg h
      refine l_ald X 1 rfl q7 dL_areLegs_256 ?_
      refine z_iconst (v := 2) X dL_areLegs_257 (by decide) ?_
      refine z_iload X dL_areLegs_258 rfl ?_
      refine z_aload_n X dL_areLegs_260 rfl rfl ?_
      refine z_iload X dL_areLegs_261 rfl ?_
      obtain ⟨o8, co8, h⟩ := zb2 h
      refine l_q (As := [.int (v7)]) (rest := [.int (v10), .int (2), .int ((σ5.2 1 (v7).toNatClampNeg)), .int (v7), .ref (ar 1)]) (nA := 1) (mc := 0) (ms := 0) (rm := ({ frames := 10, cells := 0, slots := 0, locals := 420 } : Room)) (r0 := o8) X (fun _ h11 => cz_seconds l X.2.2.2.2.2.2.2.2 X.2.2.2.2.2.2.1 h11 (fun _ z => nomatch z) (qo_eq co8)) n_904 n_905 n_906 n_1 n_907 nh_yX11_seconds ⟨rfl, rfl, Nat.le_of_ble_eq_true rfl, Nat.le_of_ble_eq_true rfl⟩ rfl rfl (Nat.le_of_ble_eq_true rfl) dL_areLegs_263 ⟨by show _ ≤ 0; omega, by show _ ≤ 0; omega⟩ ?_
      refine z_iadd X dL_areLegs_266 ?_
      refine z_aload_n X dL_areLegs_267 rfl rfl ?_
      refine z_iload X dL_areLegs_268 rfl ?_
      obtain ⟨q9, h⟩ := zg h
      refine l_ald X 0 rfl q9 dL_areLegs_270 ?_
      refine z_bipush (v := 10) X dL_areLegs_271 (by decide) ?_
      refine z_iconst (v := 3) X dL_areLegs_273 (by decide) ?_
      obtain ⟨o10, co10, h⟩ := zb2 h
      refine z_lSi (As := [.int ((σ5.2 0 (v7).toNatClampNeg)), .int (10), .int (3)]) (rest := [.int ((v10 + o8)), .int (2), .int ((σ5.2 1 (v7).toNatClampNeg)), .int (v7), .ref (ar 1)]) (nA := 3) (mc := 0) (ms := 0) (r0 := o10) (pu := fun (_ : Unit) => True) (G1 := fun _ => gw D dA A σ5 ob ar) X Y (ll_part l X.2.2.2.2.2.2.2.2 X.2.2.2.2.2.2.1 Y.2.2.2 co10) n_784 n_785 n_0 n_786 nh_yL_part ⟨rfl, rfl, Nat.le_of_ble_eq_true rfl, Nat.le_of_ble_eq_true rfl⟩ rfl rfl (Nat.le_of_ble_eq_true rfl) dL_areLegs_274 ⟨by show _ ≤ 0; omega, by show _ ≤ 0; omega⟩ (fun _ _ => ?_)
      obtain ⟨o11, co11, h⟩ := zb2 h
      refine z_lSi (As := [.int ((σ5.2 1 (v7).toNatClampNeg)), .int (2), .int ((v10 + o8)), .int (o10)]) (rest := [.int (v7), .ref (ar 1)]) (nA := 4) (mc := 0) (ms := 0) (r0 := o11) (pu := fun (_ : Unit) => True) (G1 := fun _ => gw D dA A σ5 ob ar) X Y (ll_event l X.2.2.2.2.2.2.2.2 X.2.2.2.2.2.2.1 Y.2.2.2 co11) n_768 n_769 n_0 n_770 nh_yL_event ⟨rfl, rfl, Nat.le_of_ble_eq_true rfl, Nat.le_of_ble_eq_true rfl⟩ rfl rfl (Nat.le_of_ble_eq_true rfl) dL_areLegs_277 ⟨by show _ ≤ 0; omega, by show _ ≤ 0; omega⟩ (fun _ _ => ?_)
      obtain ⟨q13, h⟩ := zg h
      obtain ⟨σ12, eσ12, h⟩ := zb h
      refine l_ast X 1 rfl q13 eσ12 dL_areLegs_280 ?_
      refine zz.pick (lo' := [(0, .ref ob), (1, .ref (ar 0)), (2, .ref (ar 1)), (3, .ref (ar 2)), (6, .int (v6)), (7, .int (v7)), (8, .int (v8))]) [0, 1, 2, 3, 6, 7, 8] rfl ?_
      exact bl_areLegs_281 X Y hml hr hk33 h
    · have h := zn q h
      refine zz.pick (lo' := [(0, .ref ob), (1, .ref (ar 0)), (2, .ref (ar 1)), (3, .ref (ar 2)), (6, .int (v6)), (7, .int (v7)), (8, .int (v8))]) [0, 1, 2, 3, 6, 7, 8] rfl ?_
      exact bl_areLegs_281 X Y hml hr hk33 h
def fl_areLegs_202 (k33 : GS → Int32 → Int32 → Int64 → Option (GS × Int32)) (σ : GS) (v7 : Int32) (v8 : Int32) (v10 : Int32) (v11 : Int32) (u4 : Int64) (s0 : Int32) : Option (GS × Int32) := (if v11 = 0 then fl_areLegs_219 k33 σ s0 v7 v8 v10 v11 u4 (1 <<< ((v8 : Int32).toInt64 &&& 63))
  else fl_areLegs_219 k33 σ s0 v7 v8 v10 v11 u4 0)
set_option maxRecDepth 100000 in
set_option maxHeartbeats 4000000 in
theorem bl_areLegs_202 {p : Program} {l : Launch} {e : Env} {s : State} {m : MethodId} {args : Array Value} {below : List Frame} {meth : Method} {c : Code} {D : va_G} {dA : Nat → ClassId} {A : Nat → Prop} {ar : Nat → Nat} {ob b Ls : Nat} {sc : Nat → Int32} {o : GS × Int32} (X : zc p l s m args meth c cL_areLegs RL D dA A) (Y : zY s A b Ls sc) (hml : c.maxLocals = 12) (hr : meth.sig.returnType = (some .boolean)) {k33 : GS → Int32 → Int32 → Int64 → Option (GS × Int32)} (hk33 : ∀ {σ : GS} {v6 : Int32} {v7 : Int32} {u4 : Int64}, k33 σ v6 v7 u4 = some o → zz p l e ({ frames := 12, cells := 0, slots := 0, locals := 504 } : Room) s m args below meth c A (gw D dA A σ ob ar) 0 0 (MQ below (va_Qi (fun r (_ : Unit) => r = o.2 ∧ True) (fun _ t => gw D dA A o.1 ob ar t.heap) A) args s (0) (0) A) 33 [(0, .ref ob), (1, .ref (ar 0)), (2, .ref (ar 1)), (3, .ref (ar 2)), (6, .int (v6)), (7, .int (v7))] [(4, u4)] []) {σ : GS} {v7 : Int32} {v8 : Int32} {v10 : Int32} {v11 : Int32} {u4 : Int64} {s0 : Int32} (h : fl_areLegs_202 k33 σ v7 v8 v10 v11 u4 s0 = some o) : zz p l e ({ frames := 12, cells := 0, slots := 0, locals := 504 } : Room) s m args below meth c A (gw D dA A σ ob ar) 0 0 (MQ below (va_Qi (fun r (_ : Unit) => r = o.2 ∧ True) (fun _ t => gw D dA A o.1 ob ar t.heap) A) args s (0) (0) A) 202 [(0, .ref ob), (1, .ref (ar 0)), (2, .ref (ar 1)), (3, .ref (ar 2)), (7, .int (v7)), (8, .int (v8)), (10, .int (v10)), (11, .int (v11))] [(4, u4)] [.int (s0)] := by
  unfold fl_areLegs_202 at h
  refine z_istore (lo' := [(6, .int (s0)), (0, .ref ob), (1, .ref (ar 0)), (2, .ref (ar 1)), (3, .ref (ar 2)), (7, .int (v7)), (8, .int (v8)), (10, .int (v10)), (11, .int (v11))]) X dL_areLegs_202 (by rw [hml]; decide) rfl rfl ?_
  refine z_lload X dL_areLegs_204 rfl ?_
  refine z_iload X dL_areLegs_206 rfl ?_
  refine z_if_eq (tgt := 215) X dL_areLegs_208 (by decide) (fun q => ?_) (fun q => ?_)
  · have h := zp q h
    refine z_lconst (v := 1) X dL_areLegs_215 (by decide) ?_
    refine z_iload X dL_areLegs_216 rfl ?_
    refine z_lshl X dL_areLegs_218 ?_
    refine zz.pick (lo' := [(0, .ref ob), (1, .ref (ar 0)), (2, .ref (ar 1)), (3, .ref (ar 2)), (6, .int (s0)), (7, .int (v7)), (8, .int (v8)), (10, .int (v10)), (11, .int (v11))]) [0, 1, 2, 3, 6, 7, 8, 10, 11] rfl ?_
    refine zz.pickl (ll' := []) [] rfl ?_
    exact bl_areLegs_219 X Y hml hr hk33 h
  · have h := zn q h
    refine z_lconst (v := 0) X dL_areLegs_211 (by decide) ?_
    refine z_goto (tgt := 219) X dL_areLegs_212 (by decide) ?_
    refine zz.pick (lo' := [(0, .ref ob), (1, .ref (ar 0)), (2, .ref (ar 1)), (3, .ref (ar 2)), (6, .int (s0)), (7, .int (v7)), (8, .int (v8)), (10, .int (v10)), (11, .int (v11))]) [0, 1, 2, 3, 6, 7, 8, 10, 11] rfl ?_
    refine zz.pickl (ll' := []) [] rfl ?_
    exact bl_areLegs_219 X Y hml hr hk33 h
def fl_areLegs_201 (k33 : GS → Int32 → Int32 → Int64 → Option (GS × Int32)) (σ : GS) (v7 : Int32) (v8 : Int32) (v10 : Int32) (v11 : Int32) (u4 : Int64) : Option (GS × Int32) := fl_areLegs_202 k33 σ v7 v8 v10 v11 (u4) 0
set_option maxRecDepth 100000 in
set_option maxHeartbeats 4000000 in
theorem bl_areLegs_201 {p : Program} {l : Launch} {e : Env} {s : State} {m : MethodId} {args : Array Value} {below : List Frame} {meth : Method} {c : Code} {D : va_G} {dA : Nat → ClassId} {A : Nat → Prop} {ar : Nat → Nat} {ob b Ls : Nat} {sc : Nat → Int32} {o : GS × Int32} (X : zc p l s m args meth c cL_areLegs RL D dA A) (Y : zY s A b Ls sc) (hml : c.maxLocals = 12) (hr : meth.sig.returnType = (some .boolean)) {k33 : GS → Int32 → Int32 → Int64 → Option (GS × Int32)} (hk33 : ∀ {σ : GS} {v6 : Int32} {v7 : Int32} {u4 : Int64}, k33 σ v6 v7 u4 = some o → zz p l e ({ frames := 12, cells := 0, slots := 0, locals := 504 } : Room) s m args below meth c A (gw D dA A σ ob ar) 0 0 (MQ below (va_Qi (fun r (_ : Unit) => r = o.2 ∧ True) (fun _ t => gw D dA A o.1 ob ar t.heap) A) args s (0) (0) A) 33 [(0, .ref ob), (1, .ref (ar 0)), (2, .ref (ar 1)), (3, .ref (ar 2)), (6, .int (v6)), (7, .int (v7))] [(4, u4)] []) {σ : GS} {v7 : Int32} {v8 : Int32} {v10 : Int32} {v11 : Int32} {u4 : Int64} (h : fl_areLegs_201 k33 σ v7 v8 v10 v11 u4 = some o) : zz p l e ({ frames := 12, cells := 0, slots := 0, locals := 504 } : Room) s m args below meth c A (gw D dA A σ ob ar) 0 0 (MQ below (va_Qi (fun r (_ : Unit) => r = o.2 ∧ True) (fun _ t => gw D dA A o.1 ob ar t.heap) A) args s (0) (0) A) 201 [(0, .ref ob), (1, .ref (ar 0)), (2, .ref (ar 1)), (3, .ref (ar 2)), (7, .int (v7)), (8, .int (v8)), (10, .int (v10)), (11, .int (v11))] [(4, u4)] [] := by
  unfold fl_areLegs_201 at h
  refine z_iconst (v := 0) X dL_areLegs_201 (by decide) ?_
  refine zz.pick (lo' := [(0, .ref ob), (1, .ref (ar 0)), (2, .ref (ar 1)), (3, .ref (ar 2)), (7, .int (v7)), (8, .int (v8)), (10, .int (v10)), (11, .int (v11))]) [0, 1, 2, 3, 7, 8, 10, 11] rfl ?_
  exact bl_areLegs_202 X Y hml hr hk33 h
def fl_areLegs_197 (k33 : GS → Int32 → Int32 → Int64 → Option (GS × Int32)) (σ : GS) (v7 : Int32) (v8 : Int32) (v10 : Int32) (v11 : Int32) (u4 : Int64) : Option (GS × Int32) := fl_areLegs_202 k33 σ v7 v8 v10 v11 (u4) 1
set_option maxRecDepth 100000 in
set_option maxHeartbeats 4000000 in
theorem bl_areLegs_197 {p : Program} {l : Launch} {e : Env} {s : State} {m : MethodId} {args : Array Value} {below : List Frame} {meth : Method} {c : Code} {D : va_G} {dA : Nat → ClassId} {A : Nat → Prop} {ar : Nat → Nat} {ob b Ls : Nat} {sc : Nat → Int32} {o : GS × Int32} (X : zc p l s m args meth c cL_areLegs RL D dA A) (Y : zY s A b Ls sc) (hml : c.maxLocals = 12) (hr : meth.sig.returnType = (some .boolean)) {k33 : GS → Int32 → Int32 → Int64 → Option (GS × Int32)} (hk33 : ∀ {σ : GS} {v6 : Int32} {v7 : Int32} {u4 : Int64}, k33 σ v6 v7 u4 = some o → zz p l e ({ frames := 12, cells := 0, slots := 0, locals := 504 } : Room) s m args below meth c A (gw D dA A σ ob ar) 0 0 (MQ below (va_Qi (fun r (_ : Unit) => r = o.2 ∧ True) (fun _ t => gw D dA A o.1 ob ar t.heap) A) args s (0) (0) A) 33 [(0, .ref ob), (1, .ref (ar 0)), (2, .ref (ar 1)), (3, .ref (ar 2)), (6, .int (v6)), (7, .int (v7))] [(4, u4)] []) {σ : GS} {v7 : Int32} {v8 : Int32} {v10 : Int32} {v11 : Int32} {u4 : Int64} (h : fl_areLegs_197 k33 σ v7 v8 v10 v11 u4 = some o) : zz p l e ({ frames := 12, cells := 0, slots := 0, locals := 504 } : Room) s m args below meth c A (gw D dA A σ ob ar) 0 0 (MQ below (va_Qi (fun r (_ : Unit) => r = o.2 ∧ True) (fun _ t => gw D dA A o.1 ob ar t.heap) A) args s (0) (0) A) 197 [(0, .ref ob), (1, .ref (ar 0)), (2, .ref (ar 1)), (3, .ref (ar 2)), (7, .int (v7)), (8, .int (v8)), (10, .int (v10)), (11, .int (v11))] [(4, u4)] [] := by
  unfold fl_areLegs_197 at h
  refine z_iconst (v := 1) X dL_areLegs_197 (by decide) ?_
  refine z_goto (tgt := 202) X dL_areLegs_198 (by decide) ?_
  refine zz.pick (lo' := [(0, .ref ob), (1, .ref (ar 0)), (2, .ref (ar 1)), (3, .ref (ar 2)), (7, .int (v7)), (8, .int (v8)), (10, .int (v10)), (11, .int (v11))]) [0, 1, 2, 3, 7, 8, 10, 11] rfl ?_
  exact bl_areLegs_202 X Y hml hr hk33 h
def fl_areLegs_179 (k33 : GS → Int32 → Int32 → Int64 → Option (GS × Int32)) (σ : GS) (v7 : Int32) (v8 : Int32) (v10 : Int32) (v11 : Int32) (u4 : Int64) : Option (GS × Int32) := if v7 < 0 ∨ 64 ≤ (v7).toNatClampNeg then none else (fl_part σ ((σ.2 0 (v7).toNatClampNeg)) (13) (1)).bind fun o2 => (if o2 = 0 then fl_areLegs_197 k33 σ v7 v8 v10 v11 (u4)
  else (if v11 = 0 then fl_areLegs_201 k33 σ v7 v8 v10 v11 (u4)
  else fl_areLegs_197 k33 σ v7 v8 v10 v11 (u4)))
set_option maxRecDepth 100000 in
set_option maxHeartbeats 4000000 in
theorem bl_areLegs_179 {p : Program} {l : Launch} {e : Env} {s : State} {m : MethodId} {args : Array Value} {below : List Frame} {meth : Method} {c : Code} {D : va_G} {dA : Nat → ClassId} {A : Nat → Prop} {ar : Nat → Nat} {ob b Ls : Nat} {sc : Nat → Int32} {o : GS × Int32} (X : zc p l s m args meth c cL_areLegs RL D dA A) (Y : zY s A b Ls sc) (hml : c.maxLocals = 12) (hr : meth.sig.returnType = (some .boolean)) {k33 : GS → Int32 → Int32 → Int64 → Option (GS × Int32)} (hk33 : ∀ {σ : GS} {v6 : Int32} {v7 : Int32} {u4 : Int64}, k33 σ v6 v7 u4 = some o → zz p l e ({ frames := 12, cells := 0, slots := 0, locals := 504 } : Room) s m args below meth c A (gw D dA A σ ob ar) 0 0 (MQ below (va_Qi (fun r (_ : Unit) => r = o.2 ∧ True) (fun _ t => gw D dA A o.1 ob ar t.heap) A) args s (0) (0) A) 33 [(0, .ref ob), (1, .ref (ar 0)), (2, .ref (ar 1)), (3, .ref (ar 2)), (6, .int (v6)), (7, .int (v7))] [(4, u4)] []) {σ : GS} {v7 : Int32} {v8 : Int32} {v10 : Int32} {v11 : Int32} {u4 : Int64} (h : fl_areLegs_179 k33 σ v7 v8 v10 v11 u4 = some o) : zz p l e ({ frames := 12, cells := 0, slots := 0, locals := 504 } : Room) s m args below meth c A (gw D dA A σ ob ar) 0 0 (MQ below (va_Qi (fun r (_ : Unit) => r = o.2 ∧ True) (fun _ t => gw D dA A o.1 ob ar t.heap) A) args s (0) (0) A) 179 [(0, .ref ob), (1, .ref (ar 0)), (2, .ref (ar 1)), (3, .ref (ar 2)), (7, .int (v7)), (8, .int (v8)), (10, .int (v10)), (11, .int (v11))] [(4, u4)] [] := by
  unfold fl_areLegs_179 at h
  refine z_aload_n X dL_areLegs_179 rfl rfl ?_
  refine z_iload X dL_areLegs_180 rfl ?_
  obtain ⟨q1, h⟩ := zg h
  refine l_ald X 0 rfl q1 dL_areLegs_182 ?_
  refine z_bipush (v := 13) X dL_areLegs_183 (by decide) ?_
  refine z_iconst (v := 1) X dL_areLegs_185 (by decide) ?_
  obtain ⟨o2, co2, h⟩ := zb2 h
  refine z_lSi (As := [.int ((σ.2 0 (v7).toNatClampNeg)), .int (13), .int (1)]) (rest := []) (nA := 3) (mc := 0) (ms := 0) (r0 := o2) (pu := fun (_ : Unit) => True) (G1 := fun _ => gw D dA A σ ob ar) X Y (ll_part l X.2.2.2.2.2.2.2.2 X.2.2.2.2.2.2.1 Y.2.2.2 co2) n_784 n_785 n_0 n_786 nh_yL_part ⟨rfl, rfl, Nat.le_of_ble_eq_true rfl, Nat.le_of_ble_eq_true rfl⟩ rfl rfl (Nat.le_of_ble_eq_true rfl) dL_areLegs_186 ⟨by show _ ≤ 0; omega, by show _ ≤ 0; omega⟩ (fun _ _ => ?_)
  refine z_if_eq (tgt := 197) X dL_areLegs_189 (by decide) (fun q => ?_) (fun q => ?_)
  · have h := zp q h
    refine zz.pick (lo' := [(0, .ref ob), (1, .ref (ar 0)), (2, .ref (ar 1)), (3, .ref (ar 2)), (7, .int (v7)), (8, .int (v8)), (10, .int (v10)), (11, .int (v11))]) [0, 1, 2, 3, 7, 8, 10, 11] rfl ?_
    exact bl_areLegs_197 X Y hml hr hk33 h
  · have h := zn q h
    refine z_iload X dL_areLegs_192 rfl ?_
    refine z_if_eq (tgt := 201) X dL_areLegs_194 (by decide) (fun q => ?_) (fun q => ?_)
    · have h := zp q h
      refine zz.pick (lo' := [(0, .ref ob), (1, .ref (ar 0)), (2, .ref (ar 1)), (3, .ref (ar 2)), (7, .int (v7)), (8, .int (v8)), (10, .int (v10)), (11, .int (v11))]) [0, 1, 2, 3, 7, 8, 10, 11] rfl ?_
      exact bl_areLegs_201 X Y hml hr hk33 h
    · have h := zn q h
      refine zz.pick (lo' := [(0, .ref ob), (1, .ref (ar 0)), (2, .ref (ar 1)), (3, .ref (ar 2)), (7, .int (v7)), (8, .int (v8)), (10, .int (v10)), (11, .int (v11))]) [0, 1, 2, 3, 7, 8, 10, 11] rfl ?_
      exact bl_areLegs_197 X Y hml hr hk33 h
def fl_areLegs_159 (k33 : GS → Int32 → Int32 → Int64 → Option (GS × Int32)) (σ : GS) (v7 : Int32) (v8 : Int32) (v10 : Int32) (v11 : Int32) (u4 : Int64) : Option (GS × Int32) := (if v11 = 0 then fl_areLegs_179 k33 σ v7 v8 v10 v11 (u4)
  else (aq_seconds σ.1 (v7)).bind fun o1 => (if ((σ.2 2 (0 : Int32).toNatClampNeg) - v10) < o1 then fl_areLegs_201 k33 σ v7 v8 v10 v11 (u4)
  else fl_areLegs_179 k33 σ v7 v8 v10 v11 (u4)))
set_option maxRecDepth 100000 in
set_option maxHeartbeats 4000000 in
theorem bl_areLegs_159 {p : Program} {l : Launch} {e : Env} {s : State} {m : MethodId} {args : Array Value} {below : List Frame} {meth : Method} {c : Code} {D : va_G} {dA : Nat → ClassId} {A : Nat → Prop} {ar : Nat → Nat} {ob b Ls : Nat} {sc : Nat → Int32} {o : GS × Int32} (X : zc p l s m args meth c cL_areLegs RL D dA A) (Y : zY s A b Ls sc) (hml : c.maxLocals = 12) (hr : meth.sig.returnType = (some .boolean)) {k33 : GS → Int32 → Int32 → Int64 → Option (GS × Int32)} (hk33 : ∀ {σ : GS} {v6 : Int32} {v7 : Int32} {u4 : Int64}, k33 σ v6 v7 u4 = some o → zz p l e ({ frames := 12, cells := 0, slots := 0, locals := 504 } : Room) s m args below meth c A (gw D dA A σ ob ar) 0 0 (MQ below (va_Qi (fun r (_ : Unit) => r = o.2 ∧ True) (fun _ t => gw D dA A o.1 ob ar t.heap) A) args s (0) (0) A) 33 [(0, .ref ob), (1, .ref (ar 0)), (2, .ref (ar 1)), (3, .ref (ar 2)), (6, .int (v6)), (7, .int (v7))] [(4, u4)] []) {σ : GS} {v7 : Int32} {v8 : Int32} {v10 : Int32} {v11 : Int32} {u4 : Int64} (h : fl_areLegs_159 k33 σ v7 v8 v10 v11 u4 = some o) : zz p l e ({ frames := 12, cells := 0, slots := 0, locals := 504 } : Room) s m args below meth c A (gw D dA A σ ob ar) 0 0 (MQ below (va_Qi (fun r (_ : Unit) => r = o.2 ∧ True) (fun _ t => gw D dA A o.1 ob ar t.heap) A) args s (0) (0) A) 159 [(0, .ref ob), (1, .ref (ar 0)), (2, .ref (ar 1)), (3, .ref (ar 2)), (7, .int (v7)), (8, .int (v8)), (10, .int (v10)), (11, .int (v11))] [(4, u4)] [] := by
  unfold fl_areLegs_159 at h
  refine z_iload X dL_areLegs_159 rfl ?_
  refine z_if_eq (tgt := 179) X dL_areLegs_161 (by decide) (fun q => ?_) (fun q => ?_)
  · have h := zp q h
    refine zz.pick (lo' := [(0, .ref ob), (1, .ref (ar 0)), (2, .ref (ar 1)), (3, .ref (ar 2)), (7, .int (v7)), (8, .int (v8)), (10, .int (v10)), (11, .int (v11))]) [0, 1, 2, 3, 7, 8, 10, 11] rfl ?_
    exact bl_areLegs_179 X Y hml hr hk33 h
  · have h := zn q h
    refine z_aload_n X dL_areLegs_164 rfl rfl ?_
    refine z_iload X dL_areLegs_165 rfl ?_
    obtain ⟨o1, co1, h⟩ := zb2 h
    refine l_q (As := [.int (v7)]) (rest := []) (nA := 1) (mc := 0) (ms := 0) (rm := ({ frames := 10, cells := 0, slots := 0, locals := 420 } : Room)) (r0 := o1) X (fun _ h11 => cz_seconds l X.2.2.2.2.2.2.2.2 X.2.2.2.2.2.2.1 h11 (fun _ z => nomatch z) (qo_eq co1)) n_904 n_905 n_906 n_1 n_907 nh_yX11_seconds ⟨rfl, rfl, Nat.le_of_ble_eq_true rfl, Nat.le_of_ble_eq_true rfl⟩ rfl rfl (Nat.le_of_ble_eq_true rfl) dL_areLegs_167 ⟨by show _ ≤ 0; omega, by show _ ≤ 0; omega⟩ ?_
    refine z_aload_n X dL_areLegs_170 rfl rfl ?_
    refine z_iconst (v := 0) X dL_areLegs_171 (by decide) ?_
    refine l_ald X 2 rfl (by decide) dL_areLegs_172 ?_
    refine z_iload X dL_areLegs_173 rfl ?_
    refine z_isub X dL_areLegs_175 ?_
    refine z_icmp_gt (tgt := 201) X dL_areLegs_176 (by decide) (fun q => ?_) (fun q => ?_)
    · have h := zp q h
      refine zz.pick (lo' := [(0, .ref ob), (1, .ref (ar 0)), (2, .ref (ar 1)), (3, .ref (ar 2)), (7, .int (v7)), (8, .int (v8)), (10, .int (v10)), (11, .int (v11))]) [0, 1, 2, 3, 7, 8, 10, 11] rfl ?_
      exact bl_areLegs_201 X Y hml hr hk33 h
    · have h := zn q h
      refine zz.pick (lo' := [(0, .ref ob), (1, .ref (ar 0)), (2, .ref (ar 1)), (3, .ref (ar 2)), (7, .int (v7)), (8, .int (v8)), (10, .int (v10)), (11, .int (v11))]) [0, 1, 2, 3, 7, 8, 10, 11] rfl ?_
      exact bl_areLegs_179 X Y hml hr hk33 h
def fl_areLegs_84 (k33 : GS → Int32 → Int32 → Int64 → Option (GS × Int32)) (σ : GS) (v7 : Int32) (v8 : Int32) (v9 : Int32) (v10 : Int32) (u4 : Int64) (s0 : Int32) : Option (GS × Int32) := (if v9 < 0 then fl_areLegs_201 k33 σ v7 v8 v10 s0 (u4)
  else (if 4 ≤ v9 then fl_areLegs_201 k33 σ v7 v8 v10 s0 (u4)
  else (if s0 = 0 then (aq_seconds σ.1 (v7)).bind fun o1 => (if o1 = ((σ.2 2 (0 : Int32).toNatClampNeg) - v10) then (aq_legOf σ.1 (v8)).bind fun o2 => (if o2 = v7 then (aq_cellOf σ.1 (v8)).bind fun o3 => if v7 < 0 ∨ 64 ≤ (v7).toNatClampNeg then none else (fl_part σ ((σ.2 0 (v7).toNatClampNeg)) (10) (3)).bind fun o5 => (if o3 = o5 then (if (lg_cmp ((u4 >>> ((v8 : Int32).toInt64 &&& 63)) &&& 1) 0) = 0 then fl_areLegs_159 k33 σ v7 v8 v10 s0 (u4)
  else fl_areLegs_201 k33 σ v7 v8 v10 s0 (u4))
  else fl_areLegs_201 k33 σ v7 v8 v10 s0 (u4))
  else fl_areLegs_201 k33 σ v7 v8 v10 s0 (u4))
  else fl_areLegs_201 k33 σ v7 v8 v10 s0 (u4))
  else fl_areLegs_159 k33 σ v7 v8 v10 s0 (u4))))
set_option maxRecDepth 100000 in
set_option maxHeartbeats 4000000 in
theorem bl_areLegs_84 {p : Program} {l : Launch} {e : Env} {s : State} {m : MethodId} {args : Array Value} {below : List Frame} {meth : Method} {c : Code} {D : va_G} {dA : Nat → ClassId} {A : Nat → Prop} {ar : Nat → Nat} {ob b Ls : Nat} {sc : Nat → Int32} {o : GS × Int32} (X : zc p l s m args meth c cL_areLegs RL D dA A) (Y : zY s A b Ls sc) (hml : c.maxLocals = 12) (hr : meth.sig.returnType = (some .boolean)) {k33 : GS → Int32 → Int32 → Int64 → Option (GS × Int32)} (hk33 : ∀ {σ : GS} {v6 : Int32} {v7 : Int32} {u4 : Int64}, k33 σ v6 v7 u4 = some o → zz p l e ({ frames := 12, cells := 0, slots := 0, locals := 504 } : Room) s m args below meth c A (gw D dA A σ ob ar) 0 0 (MQ below (va_Qi (fun r (_ : Unit) => r = o.2 ∧ True) (fun _ t => gw D dA A o.1 ob ar t.heap) A) args s (0) (0) A) 33 [(0, .ref ob), (1, .ref (ar 0)), (2, .ref (ar 1)), (3, .ref (ar 2)), (6, .int (v6)), (7, .int (v7))] [(4, u4)] []) {σ : GS} {v7 : Int32} {v8 : Int32} {v9 : Int32} {v10 : Int32} {u4 : Int64} {s0 : Int32} (h : fl_areLegs_84 k33 σ v7 v8 v9 v10 u4 s0 = some o) : zz p l e ({ frames := 12, cells := 0, slots := 0, locals := 504 } : Room) s m args below meth c A (gw D dA A σ ob ar) 0 0 (MQ below (va_Qi (fun r (_ : Unit) => r = o.2 ∧ True) (fun _ t => gw D dA A o.1 ob ar t.heap) A) args s (0) (0) A) 84 [(0, .ref ob), (1, .ref (ar 0)), (2, .ref (ar 1)), (3, .ref (ar 2)), (7, .int (v7)), (8, .int (v8)), (9, .int (v9)), (10, .int (v10))] [(4, u4)] [.int (s0)] := by
  unfold fl_areLegs_84 at h
  refine z_istore (lo' := [(11, .int (s0)), (0, .ref ob), (1, .ref (ar 0)), (2, .ref (ar 1)), (3, .ref (ar 2)), (7, .int (v7)), (8, .int (v8)), (9, .int (v9)), (10, .int (v10))]) X dL_areLegs_84 (by rw [hml]; decide) rfl rfl ?_
  refine z_iload X dL_areLegs_86 rfl ?_
  refine z_if_lt (tgt := 201) X dL_areLegs_88 (by decide) (fun q => ?_) (fun q => ?_)
  · have h := zp q h
    refine zz.pick (lo' := [(0, .ref ob), (1, .ref (ar 0)), (2, .ref (ar 1)), (3, .ref (ar 2)), (7, .int (v7)), (8, .int (v8)), (10, .int (v10)), (11, .int (s0))]) [0, 1, 2, 3, 7, 8, 10, 11] rfl ?_
    exact bl_areLegs_201 X Y hml hr hk33 h
  · have h := zn q h
    refine z_iload X dL_areLegs_91 rfl ?_
    refine z_iconst (v := 4) X dL_areLegs_93 (by decide) ?_
    refine z_icmp_ge (tgt := 201) X dL_areLegs_94 (by decide) (fun q => ?_) (fun q => ?_)
    · have h := zp q h
      refine zz.pick (lo' := [(0, .ref ob), (1, .ref (ar 0)), (2, .ref (ar 1)), (3, .ref (ar 2)), (7, .int (v7)), (8, .int (v8)), (10, .int (v10)), (11, .int (s0))]) [0, 1, 2, 3, 7, 8, 10, 11] rfl ?_
      exact bl_areLegs_201 X Y hml hr hk33 h
    · have h := zn q h
      refine z_iload X dL_areLegs_97 rfl ?_
      refine z_if_ne (tgt := 159) X dL_areLegs_99 (by decide) (fun q => ?_) (fun q => ?_)
      · have h := zp q h
        refine z_aload_n X dL_areLegs_102 rfl rfl ?_
        refine z_iload X dL_areLegs_103 rfl ?_
        obtain ⟨o1, co1, h⟩ := zb2 h
        refine l_q (As := [.int (v7)]) (rest := []) (nA := 1) (mc := 0) (ms := 0) (rm := ({ frames := 10, cells := 0, slots := 0, locals := 420 } : Room)) (r0 := o1) X (fun _ h11 => cz_seconds l X.2.2.2.2.2.2.2.2 X.2.2.2.2.2.2.1 h11 (fun _ z => nomatch z) (qo_eq co1)) n_904 n_905 n_906 n_1 n_907 nh_yX11_seconds ⟨rfl, rfl, Nat.le_of_ble_eq_true rfl, Nat.le_of_ble_eq_true rfl⟩ rfl rfl (Nat.le_of_ble_eq_true rfl) dL_areLegs_105 ⟨by show _ ≤ 0; omega, by show _ ≤ 0; omega⟩ ?_
        refine z_aload_n X dL_areLegs_108 rfl rfl ?_
        refine z_iconst (v := 0) X dL_areLegs_109 (by decide) ?_
        refine l_ald X 2 rfl (by decide) dL_areLegs_110 ?_
        refine z_iload X dL_areLegs_111 rfl ?_
        refine z_isub X dL_areLegs_113 ?_
        refine z_icmp_ne (tgt := 201) X dL_areLegs_114 (by decide) (fun q => ?_) (fun q => ?_)
        · have h := zp q h
          refine z_aload_n X dL_areLegs_117 rfl rfl ?_
          refine z_iload X dL_areLegs_118 rfl ?_
          obtain ⟨o2, co2, h⟩ := zb2 h
          refine l_q (As := [.int (v8)]) (rest := []) (nA := 1) (mc := 0) (ms := 0) (rm := ({ frames := 7, cells := 0, slots := 0, locals := 294 } : Room)) (r0 := o2) X (fun _ h11 => cz_legOf l X.2.2.2.2.2.2.2.2 X.2.2.2.2.2.2.1 h11 (fun _ z => nomatch z) (qo_eq co2)) n_313 n_314 n_315 n_1 n_316 nh_yX11_legOf ⟨rfl, rfl, Nat.le_of_ble_eq_true rfl, Nat.le_of_ble_eq_true rfl⟩ rfl rfl (Nat.le_of_ble_eq_true rfl) dL_areLegs_120 ⟨by show _ ≤ 0; omega, by show _ ≤ 0; omega⟩ ?_
          refine z_iload X dL_areLegs_123 rfl ?_
          refine z_icmp_ne (tgt := 201) X dL_areLegs_125 (by decide) (fun q => ?_) (fun q => ?_)
          · have h := zp q h
            refine z_aload_n X dL_areLegs_128 rfl rfl ?_
            refine z_iload X dL_areLegs_129 rfl ?_
            obtain ⟨o3, co3, h⟩ := zb2 h
            refine l_q (As := [.int (v8)]) (rest := []) (nA := 1) (mc := 0) (ms := 0) (rm := ({ frames := 7, cells := 0, slots := 0, locals := 294 } : Room)) (r0 := o3) X (fun _ h11 => cz_cellOf l X.2.2.2.2.2.2.2.2 X.2.2.2.2.2.2.1 h11 (fun _ z => nomatch z) (qo_eq co3)) n_761 n_762 n_763 n_1 n_764 nh_yX11_cellOf ⟨rfl, rfl, Nat.le_of_ble_eq_true rfl, Nat.le_of_ble_eq_true rfl⟩ rfl rfl (Nat.le_of_ble_eq_true rfl) dL_areLegs_131 ⟨by show _ ≤ 0; omega, by show _ ≤ 0; omega⟩ ?_
            refine z_aload_n X dL_areLegs_134 rfl rfl ?_
            refine z_iload X dL_areLegs_135 rfl ?_
            obtain ⟨q4, h⟩ := zg h
            refine l_ald X 0 rfl q4 dL_areLegs_137 ?_
            refine z_bipush (v := 10) X dL_areLegs_138 (by decide) ?_
            refine z_iconst (v := 3) X dL_areLegs_140 (by decide) ?_
            obtain ⟨o5, co5, h⟩ := zb2 h
            refine z_lSi (As := [.int ((σ.2 0 (v7).toNatClampNeg)), .int (10), .int (3)]) (rest := [.int (o3)]) (nA := 3) (mc := 0) (ms := 0) (r0 := o5) (pu := fun (_ : Unit) => True) (G1 := fun _ => gw D dA A σ ob ar) X Y (ll_part l X.2.2.2.2.2.2.2.2 X.2.2.2.2.2.2.1 Y.2.2.2 co5) n_784 n_785 n_0 n_786 nh_yL_part ⟨rfl, rfl, Nat.le_of_ble_eq_true rfl, Nat.le_of_ble_eq_true rfl⟩ rfl rfl (Nat.le_of_ble_eq_true rfl) dL_areLegs_141 ⟨by show _ ≤ 0; omega, by show _ ≤ 0; omega⟩ (fun _ _ => ?_)
            refine z_icmp_ne (tgt := 201) X dL_areLegs_144 (by decide) (fun q => ?_) (fun q => ?_)
            · have h := zp q h
              refine z_lload X dL_areLegs_147 rfl ?_
              refine z_iload X dL_areLegs_149 rfl ?_
              refine z_lshr X dL_areLegs_151 ?_
              refine z_lconst (v := 1) X dL_areLegs_152 (by decide) ?_
              refine z_land X dL_areLegs_153 ?_
              refine z_lconst (v := 0) X dL_areLegs_154 (by decide) ?_
              refine z_lcmp X dL_areLegs_155 ?_
              refine z_if_ne (tgt := 201) X dL_areLegs_156 (by decide) (fun q => ?_) (fun q => ?_)
              · have h := zp q h
                refine zz.pick (lo' := [(0, .ref ob), (1, .ref (ar 0)), (2, .ref (ar 1)), (3, .ref (ar 2)), (7, .int (v7)), (8, .int (v8)), (10, .int (v10)), (11, .int (s0))]) [0, 1, 2, 3, 7, 8, 10, 11] rfl ?_
                exact bl_areLegs_159 X Y hml hr hk33 h
              · have h := zn q h
                refine zz.pick (lo' := [(0, .ref ob), (1, .ref (ar 0)), (2, .ref (ar 1)), (3, .ref (ar 2)), (7, .int (v7)), (8, .int (v8)), (10, .int (v10)), (11, .int (s0))]) [0, 1, 2, 3, 7, 8, 10, 11] rfl ?_
                exact bl_areLegs_201 X Y hml hr hk33 h
            · have h := zn q h
              refine zz.pick (lo' := [(0, .ref ob), (1, .ref (ar 0)), (2, .ref (ar 1)), (3, .ref (ar 2)), (7, .int (v7)), (8, .int (v8)), (10, .int (v10)), (11, .int (s0))]) [0, 1, 2, 3, 7, 8, 10, 11] rfl ?_
              exact bl_areLegs_201 X Y hml hr hk33 h
          · have h := zn q h
            refine zz.pick (lo' := [(0, .ref ob), (1, .ref (ar 0)), (2, .ref (ar 1)), (3, .ref (ar 2)), (7, .int (v7)), (8, .int (v8)), (10, .int (v10)), (11, .int (s0))]) [0, 1, 2, 3, 7, 8, 10, 11] rfl ?_
            exact bl_areLegs_201 X Y hml hr hk33 h
        · have h := zn q h
          refine zz.pick (lo' := [(0, .ref ob), (1, .ref (ar 0)), (2, .ref (ar 1)), (3, .ref (ar 2)), (7, .int (v7)), (8, .int (v8)), (10, .int (v10)), (11, .int (s0))]) [0, 1, 2, 3, 7, 8, 10, 11] rfl ?_
          exact bl_areLegs_201 X Y hml hr hk33 h
      · have h := zn q h
        refine zz.pick (lo' := [(0, .ref ob), (1, .ref (ar 0)), (2, .ref (ar 1)), (3, .ref (ar 2)), (7, .int (v7)), (8, .int (v8)), (10, .int (v10)), (11, .int (s0))]) [0, 1, 2, 3, 7, 8, 10, 11] rfl ?_
        exact bl_areLegs_159 X Y hml hr hk33 h
def fl_areLegs_33 : Nat → GS → Int32 → Int32 → Int64 → Option (GS × Int32)
  | 0, _, _, _, _ => none
  | n + 1, σ, v6, v7, u4 => (if (σ.2 2 (2 : Int32).toNatClampNeg) ≤ v7 then fl_areLegs_371 σ v6 (u4)
  else (if v6 = 0 then fl_areLegs_371 σ v6 (u4)
  else if v7 < 0 ∨ 64 ≤ (v7).toNatClampNeg then none else (fl_part σ ((σ.2 0 (v7).toNatClampNeg)) (0) (4)).bind fun o2 => (aq_stateOf σ.1 (v7)).bind fun o3 => if v7 < 0 ∨ 64 ≤ (v7).toNatClampNeg then none else (some (((σ.2 0 (v7).toNatClampNeg) >>> ((14 : Int32) &&& 31) : Int32))).bind fun x5 => (if o3 ≤ 0 then fl_areLegs_84 (fl_areLegs_33 n) σ v7 o2 o3 x5 (u4) 0
  else fl_areLegs_84 (fl_areLegs_33 n) σ v7 o2 o3 x5 (u4) 1)))
set_option maxRecDepth 100000 in
set_option maxHeartbeats 4000000 in
theorem bl_areLegs_33 {p : Program} {l : Launch} {e : Env} {s : State} {m : MethodId} {args : Array Value} {below : List Frame} {meth : Method} {c : Code} {D : va_G} {dA : Nat → ClassId} {A : Nat → Prop} {ar : Nat → Nat} {ob b Ls : Nat} {sc : Nat → Int32} {o : GS × Int32} (X : zc p l s m args meth c cL_areLegs RL D dA A) (Y : zY s A b Ls sc) (hml : c.maxLocals = 12) (hr : meth.sig.returnType = (some .boolean)) : ∀ (n : Nat) {σ : GS} {v6 : Int32} {v7 : Int32} {u4 : Int64}, fl_areLegs_33 n σ v6 v7 u4 = some o → zz p l e ({ frames := 12, cells := 0, slots := 0, locals := 504 } : Room) s m args below meth c A (gw D dA A σ ob ar) 0 0 (MQ below (va_Qi (fun r (_ : Unit) => r = o.2 ∧ True) (fun _ t => gw D dA A o.1 ob ar t.heap) A) args s (0) (0) A) 33 [(0, .ref ob), (1, .ref (ar 0)), (2, .ref (ar 1)), (3, .ref (ar 2)), (6, .int (v6)), (7, .int (v7))] [(4, u4)] [] := by
  intro n
  induction n with
  | zero => intro σ v6 v7 u4 h; exact (nomatch (show none = some o from h))
  | succ n ih =>
    intro σ v6 v7 u4 h
    rw [fl_areLegs_33] at h
    refine z_iload X dL_areLegs_33 rfl ?_
    refine z_aload_n X dL_areLegs_35 rfl rfl ?_
    refine z_iconst (v := 2) X dL_areLegs_36 (by decide) ?_
    refine l_ald X 2 rfl (by decide) dL_areLegs_37 ?_
    refine z_icmp_ge (tgt := 371) X dL_areLegs_38 (by decide) (fun q => ?_) (fun q => ?_)
    · have h := zp q h
      refine zz.pick (lo' := [(0, .ref ob), (6, .int (v6))]) [0, 6] rfl ?_
      exact bl_areLegs_371 X Y hml hr h
    · have h := zn q h
      refine z_iload X dL_areLegs_41 rfl ?_
      refine z_if_eq (tgt := 371) X dL_areLegs_43 (by decide) (fun q => ?_) (fun q => ?_)
      · have h := zp q h
        refine zz.pick (lo' := [(0, .ref ob), (6, .int (v6))]) [0, 6] rfl ?_
        exact bl_areLegs_371 X Y hml hr h
      · have h := zn q h
        refine z_aload_n X dL_areLegs_46 rfl rfl ?_
        refine z_iload X dL_areLegs_47 rfl ?_
        obtain ⟨q1, h⟩ := zg h
        refine l_ald X 0 rfl q1 dL_areLegs_49 ?_
        refine z_iconst (v := 0) X dL_areLegs_50 (by decide) ?_
        refine z_iconst (v := 4) X dL_areLegs_51 (by decide) ?_
        obtain ⟨o2, co2, h⟩ := zb2 h
        refine z_lSi (As := [.int ((σ.2 0 (v7).toNatClampNeg)), .int (0), .int (4)]) (rest := []) (nA := 3) (mc := 0) (ms := 0) (r0 := o2) (pu := fun (_ : Unit) => True) (G1 := fun _ => gw D dA A σ ob ar) X Y (ll_part l X.2.2.2.2.2.2.2.2 X.2.2.2.2.2.2.1 Y.2.2.2 co2) n_784 n_785 n_0 n_786 nh_yL_part ⟨rfl, rfl, Nat.le_of_ble_eq_true rfl, Nat.le_of_ble_eq_true rfl⟩ rfl rfl (Nat.le_of_ble_eq_true rfl) dL_areLegs_52 ⟨by show _ ≤ 0; omega, by show _ ≤ 0; omega⟩ (fun _ _ => ?_)
        refine z_istore (lo' := [(8, .int (o2)), (0, .ref ob), (1, .ref (ar 0)), (2, .ref (ar 1)), (3, .ref (ar 2)), (6, .int (v6)), (7, .int (v7))]) X dL_areLegs_55 (by rw [hml]; decide) rfl rfl ?_
        refine z_aload_n X dL_areLegs_57 rfl rfl ?_
        refine z_iload X dL_areLegs_58 rfl ?_
        obtain ⟨o3, co3, h⟩ := zb2 h
        refine l_q (As := [.int (v7)]) (rest := []) (nA := 1) (mc := 0) (ms := 0) (rm := ({ frames := 10, cells := 0, slots := 0, locals := 420 } : Room)) (r0 := o3) X (fun _ h11 => cz_stateOf l X.2.2.2.2.2.2.2.2 X.2.2.2.2.2.2.1 h11 (fun _ z => nomatch z) (qo_eq co3)) n_775 n_776 n_777 n_1 n_778 nh_yX11_stateOf ⟨rfl, rfl, Nat.le_of_ble_eq_true rfl, Nat.le_of_ble_eq_true rfl⟩ rfl rfl (Nat.le_of_ble_eq_true rfl) dL_areLegs_60 ⟨by show _ ≤ 0; omega, by show _ ≤ 0; omega⟩ ?_
        refine z_istore (lo' := [(9, .int (o3)), (8, .int (o2)), (0, .ref ob), (1, .ref (ar 0)), (2, .ref (ar 1)), (3, .ref (ar 2)), (6, .int (v6)), (7, .int (v7))]) X dL_areLegs_63 (by rw [hml]; decide) rfl rfl ?_
        refine z_aload_n X dL_areLegs_65 rfl rfl ?_
        refine z_iload X dL_areLegs_66 rfl ?_
        obtain ⟨q4, h⟩ := zg h
        refine l_ald X 0 rfl q4 dL_areLegs_68 ?_
        refine z_bipush (v := 14) X dL_areLegs_69 (by decide) ?_
        refine z_ishr X dL_areLegs_71 ?_
        obtain ⟨x5, ex5, h⟩ := zb h
        rw [ex5]
        refine z_istore (lo' := [(10, .int (x5)), (9, .int (o3)), (8, .int (o2)), (0, .ref ob), (1, .ref (ar 0)), (2, .ref (ar 1)), (3, .ref (ar 2)), (6, .int (v6)), (7, .int (v7))]) X dL_areLegs_72 (by rw [hml]; decide) rfl rfl ?_
        refine z_iload X dL_areLegs_74 rfl ?_
        refine z_if_le (tgt := 83) X dL_areLegs_76 (by decide) (fun q => ?_) (fun q => ?_)
        · have h := zp q h
          refine z_iconst (v := 0) X dL_areLegs_83 (by decide) ?_
          refine zz.pick (lo' := [(0, .ref ob), (1, .ref (ar 0)), (2, .ref (ar 1)), (3, .ref (ar 2)), (7, .int (v7)), (8, .int (o2)), (9, .int (o3)), (10, .int (x5))]) [0, 1, 2, 3, 7, 8, 9, 10] rfl ?_
          exact bl_areLegs_84 X Y hml hr ih h
        · have h := zn q h
          refine z_iconst (v := 1) X dL_areLegs_79 (by decide) ?_
          refine z_goto (tgt := 84) X dL_areLegs_80 (by decide) ?_
          refine zz.pick (lo' := [(0, .ref ob), (1, .ref (ar 0)), (2, .ref (ar 1)), (3, .ref (ar 2)), (7, .int (v7)), (8, .int (o2)), (9, .int (o3)), (10, .int (x5))]) [0, 1, 2, 3, 7, 8, 9, 10] rfl ?_
          exact bl_areLegs_84 X Y hml hr ih h
def fl_areLegs_28 (σ : GS) (u4 : Int64) (s0 : Int32) : Option (GS × Int32) := fl_areLegs_33 FU σ s0 0 (u4)
set_option maxRecDepth 100000 in
set_option maxHeartbeats 4000000 in
theorem bl_areLegs_28 {p : Program} {l : Launch} {e : Env} {s : State} {m : MethodId} {args : Array Value} {below : List Frame} {meth : Method} {c : Code} {D : va_G} {dA : Nat → ClassId} {A : Nat → Prop} {ar : Nat → Nat} {ob b Ls : Nat} {sc : Nat → Int32} {o : GS × Int32} (X : zc p l s m args meth c cL_areLegs RL D dA A) (Y : zY s A b Ls sc) (hml : c.maxLocals = 12) (hr : meth.sig.returnType = (some .boolean)) {σ : GS} {u4 : Int64} {s0 : Int32} (h : fl_areLegs_28 σ u4 s0 = some o) : zz p l e ({ frames := 12, cells := 0, slots := 0, locals := 504 } : Room) s m args below meth c A (gw D dA A σ ob ar) 0 0 (MQ below (va_Qi (fun r (_ : Unit) => r = o.2 ∧ True) (fun _ t => gw D dA A o.1 ob ar t.heap) A) args s (0) (0) A) 28 [(0, .ref ob), (1, .ref (ar 0)), (2, .ref (ar 1)), (3, .ref (ar 2))] [(4, u4)] [.int (s0)] := by
  unfold fl_areLegs_28 at h
  refine z_istore (lo' := [(6, .int (s0)), (0, .ref ob), (1, .ref (ar 0)), (2, .ref (ar 1)), (3, .ref (ar 2))]) X dL_areLegs_28 (by rw [hml]; decide) rfl rfl ?_
  refine z_iconst (v := 0) X dL_areLegs_30 (by decide) ?_
  refine z_istore (lo' := [(7, .int (0)), (6, .int (s0)), (0, .ref ob), (1, .ref (ar 0)), (2, .ref (ar 1)), (3, .ref (ar 2))]) X dL_areLegs_31 (by rw [hml]; decide) rfl rfl ?_
  refine zz.pick (lo' := [(0, .ref ob), (1, .ref (ar 0)), (2, .ref (ar 1)), (3, .ref (ar 2)), (6, .int (s0)), (7, .int (0))]) [0, 1, 2, 3, 6, 7] rfl ?_
  exact bl_areLegs_33 X Y hml hr FU h
def fl_areLegs_27 (σ : GS) (u4 : Int64) : Option (GS × Int32) := fl_areLegs_28 σ (u4) 0
set_option maxRecDepth 100000 in
set_option maxHeartbeats 4000000 in
theorem bl_areLegs_27 {p : Program} {l : Launch} {e : Env} {s : State} {m : MethodId} {args : Array Value} {below : List Frame} {meth : Method} {c : Code} {D : va_G} {dA : Nat → ClassId} {A : Nat → Prop} {ar : Nat → Nat} {ob b Ls : Nat} {sc : Nat → Int32} {o : GS × Int32} (X : zc p l s m args meth c cL_areLegs RL D dA A) (Y : zY s A b Ls sc) (hml : c.maxLocals = 12) (hr : meth.sig.returnType = (some .boolean)) {σ : GS} {u4 : Int64} (h : fl_areLegs_27 σ u4 = some o) : zz p l e ({ frames := 12, cells := 0, slots := 0, locals := 504 } : Room) s m args below meth c A (gw D dA A σ ob ar) 0 0 (MQ below (va_Qi (fun r (_ : Unit) => r = o.2 ∧ True) (fun _ t => gw D dA A o.1 ob ar t.heap) A) args s (0) (0) A) 27 [(0, .ref ob), (1, .ref (ar 0)), (2, .ref (ar 1)), (3, .ref (ar 2))] [(4, u4)] [] := by
  unfold fl_areLegs_27 at h
  refine z_iconst (v := 0) X dL_areLegs_27 (by decide) ?_
  refine zz.pick (lo' := [(0, .ref ob), (1, .ref (ar 0)), (2, .ref (ar 1)), (3, .ref (ar 2))]) [0, 1, 2, 3] rfl ?_
  exact bl_areLegs_28 X Y hml hr h
def fl_areLegs (σ : GS)  : Option (GS × Int32) := (aq_legs σ.1).bind fun o1 => (if o1 = (σ.2 2 (2 : Int32).toNatClampNeg) then (aq_now σ.1).bind fun o2 => (if o2 = (σ.2 2 (0 : Int32).toNatClampNeg) then fl_areLegs_28 σ (0) 1
  else fl_areLegs_27 σ (0))
  else fl_areLegs_27 σ (0))
set_option maxRecDepth 100000 in
set_option maxHeartbeats 4000000 in
theorem bl_areLegs {p : Program} {l : Launch} {e : Env} {s : State} {m : MethodId} {args : Array Value} {below : List Frame} {meth : Method} {c : Code} {D : va_G} {dA : Nat → ClassId} {A : Nat → Prop} {ar : Nat → Nat} {ob b Ls : Nat} {sc : Nat → Int32} {o : GS × Int32} (X : zc p l s m args meth c cL_areLegs RL D dA A) (Y : zY s A b Ls sc) (hml : c.maxLocals = 12) (hr : meth.sig.returnType = (some .boolean)) {σ : GS}  (h : fl_areLegs σ = some o) : zz p l e ({ frames := 12, cells := 0, slots := 0, locals := 504 } : Room) s m args below meth c A (gw D dA A σ ob ar) 0 0 (MQ below (va_Qi (fun r (_ : Unit) => r = o.2 ∧ True) (fun _ t => gw D dA A o.1 ob ar t.heap) A) args s (0) (0) A) 0 [(0, .ref ob), (1, .ref (ar 0)), (2, .ref (ar 1)), (3, .ref (ar 2))] [] [] := by
  unfold fl_areLegs at h
  refine z_lconst (v := 0) X dL_areLegs_0 (by decide) ?_
  refine z_lstore X dL_areLegs_1 (by rw [hml]; decide) (lo' := [(0, .ref ob), (1, .ref (ar 0)), (2, .ref (ar 1)), (3, .ref (ar 2))]) (ll' := [(4, 0)]) rfl rfl ?_
  refine z_aload_n X dL_areLegs_3 rfl rfl ?_
  obtain ⟨o1, co1, h⟩ := zb2 h
  refine l_m (As := []) (rest := []) (nA := 0) (mc := 0) (ms := 0) (rm := ({ frames := 9, cells := 0, slots := 0, locals := 378 } : Room)) (r0 := o1) X (fun _ h11 => cc_legs l X.2.2.2.2.2.2.2.2 X.2.2.2.2.2.2.1 h11 co1) n_896 n_897 n_898 n_1 n_899 nh_yX11_legs ⟨rfl, rfl, Nat.le_of_ble_eq_true rfl, Nat.le_of_ble_eq_true rfl⟩ rfl rfl (Nat.le_of_ble_eq_true rfl) dL_areLegs_4 ⟨by show _ ≤ 0; omega, by show _ ≤ 0; omega⟩ ?_
  refine z_aload_n X dL_areLegs_7 rfl rfl ?_
  refine z_iconst (v := 2) X dL_areLegs_8 (by decide) ?_
  refine l_ald X 2 rfl (by decide) dL_areLegs_9 ?_
  refine z_icmp_ne (tgt := 27) X dL_areLegs_10 (by decide) (fun q => ?_) (fun q => ?_)
  · have h := zp q h
    refine z_aload_n X dL_areLegs_13 rfl rfl ?_
    obtain ⟨o2, co2, h⟩ := zb2 h
    refine l_m (As := []) (rest := []) (nA := 0) (mc := 0) (ms := 0) (rm := ({ frames := 1, cells := 0, slots := 0, locals := 42 } : Room)) (r0 := o2) X (fun _ h11 => cc_now l X.2.2.2.2.2.2.2.2 X.2.2.2.2.2.2.1 h11 co2) n_900 n_901 n_902 n_1 n_903 nh_yX11_now ⟨rfl, rfl, Nat.le_of_ble_eq_true rfl, Nat.le_of_ble_eq_true rfl⟩ rfl rfl (Nat.le_of_ble_eq_true rfl) dL_areLegs_14 ⟨by show _ ≤ 0; omega, by show _ ≤ 0; omega⟩ ?_
    refine z_aload_n X dL_areLegs_17 rfl rfl ?_
    refine z_iconst (v := 0) X dL_areLegs_18 (by decide) ?_
    refine l_ald X 2 rfl (by decide) dL_areLegs_19 ?_
    refine z_icmp_ne (tgt := 27) X dL_areLegs_20 (by decide) (fun q => ?_) (fun q => ?_)
    · have h := zp q h
      refine z_iconst (v := 1) X dL_areLegs_23 (by decide) ?_
      refine z_goto (tgt := 28) X dL_areLegs_24 (by decide) ?_
      refine zz.pick (lo' := [(0, .ref ob), (1, .ref (ar 0)), (2, .ref (ar 1)), (3, .ref (ar 2))]) [0, 1, 2, 3] rfl ?_
      exact bl_areLegs_28 X Y hml hr h
    · have h := zn q h
      refine zz.pick (lo' := [(0, .ref ob), (1, .ref (ar 0)), (2, .ref (ar 1)), (3, .ref (ar 2))]) [0, 1, 2, 3] rfl ?_
      exact bl_areLegs_27 X Y hml hr h
  · have h := zn q h
    refine zz.pick (lo' := [(0, .ref ob), (1, .ref (ar 0)), (2, .ref (ar 1)), (3, .ref (ar 2))]) [0, 1, 2, 3] rfl ?_
    exact bl_areLegs_27 X Y hml hr h
theorem ll_areLegs (l : Launch) {D : va_G} {dA : Nat → ClassId} {A : Nat → Prop} {n : Nat} {ar : Nat → Nat} {ob b Ls : Nat} {sc : Nat → Int32} (hst : l.stackTraces = false) (hA : ∀ q, n ≤ q → A q) (hbA : ¬ A b) {σ : GS}  {o : GS × Int32} (h : fl_areLegs σ = some o) : Met l yL_areLegs (.code yL_areLegs cL_areLegs 12 (some .boolean) :: gT) ({ frames := 12, cells := 0, slots := 0, locals := 504 } : Room) (va_Pc [.ref ob, .ref (ar 0), .ref (ar 1), .ref (ar 2)] (zBL D dA A n b Ls sc (gw D dA A σ ob ar))) (va_Qi (fun r (_ : Unit) => r = o.2 ∧ True) (fun _ t => gw D dA A o.1 ob ar t.heap) A) (0) (0) A :=
  z_metL (by decide) hA hbA hst (Nat.le_of_ble_eq_true rfl) rfl rfl (fun p e s m below meth c X Y hml hr => bl_areLegs X Y hml hr h)
