-- draw([III)I
def fl_draw_23 (Ls : Nat) (sc : Nat → Int32) (σ : GS) (v2 : Int32) (s0 : Int32) : Option (Int32) := if v2 = 0 then none else some (((s0 &&& 2147483647) - (s0 &&& 2147483647) / v2 * v2))
set_option maxRecDepth 100000 in
set_option maxHeartbeats 4000000 in
theorem bl_draw_23 {p : Program} {l : Launch} {e : Env} {s : State} {m : MethodId} {args : Array Value} {below : List Frame} {meth : Method} {c : Code} {D : va_G} {dA : Nat → ClassId} {A : Nat → Prop} {ar : Nat → Nat} {ob b Ls : Nat} {sc : Nat → Int32} {σ : GS} {o : Int32} (X : zc p l s m args meth c cL_draw RL D dA A) (Y : zY s A b Ls sc) (hml : c.maxLocals = 4) (hr : meth.sig.returnType = (some .int)) {v2 : Int32} {s0 : Int32} (h : fl_draw_23 Ls sc σ v2 s0 = some o) : zz p l e ({ frames := 1, cells := 0, slots := 0, locals := 42 } : Room) s m args below meth c A (gw D dA A σ ob ar) 0 0 (MQ below (va_Qi (fun r (_ : Unit) => r = o ∧ True) (fun _ t => gw D dA A σ ob ar t.heap) A) args s (0) (0) A) 23 [(2, .int (v2))] [] [.int (s0)] := by
  unfold fl_draw_23 at h
  refine z_istore_n (lo' := [(3, .int (s0)), (2, .int (v2))]) X dL_draw_23 rfl (by rw [hml]; decide) rfl rfl ?_
  refine z_iload_n X dL_draw_24 rfl rfl ?_
  refine z_ldc X n_306 dL_draw_25 ?_
  refine z_iand X dL_draw_27 ?_
  refine z_iload_n X dL_draw_28 rfl rfl ?_
  obtain ⟨q1, h⟩ := zg h
  refine z_irem X dL_draw_29 q1 ?_
  obtain rfl := Option.some.inj h
  exact z_iret X hr rfl (fun t hG hF _ => ⟨⟨_, (), rfl, ⟨rfl, trivial⟩, hG⟩, hF⟩) dL_draw_30
def fl_draw (Ls : Nat) (sc : Nat → Int32) (σ : GS) (a1 : Int32) (a2 : Int32) : Option (Int32) := (if (Int32.ofNat Ls) ≤ a1 then fl_draw_23 Ls sc σ a2 ((868739541 * (a1 + 557)) + 799127491)
  else if a1 < 0 ∨ Ls ≤ (a1).toNatClampNeg then none else fl_draw_23 Ls sc σ a2 (sc (a1).toNatClampNeg))
set_option maxRecDepth 100000 in
set_option maxHeartbeats 4000000 in
theorem bl_draw {p : Program} {l : Launch} {e : Env} {s : State} {m : MethodId} {args : Array Value} {below : List Frame} {meth : Method} {c : Code} {D : va_G} {dA : Nat → ClassId} {A : Nat → Prop} {ar : Nat → Nat} {ob b Ls : Nat} {sc : Nat → Int32} {σ : GS} {o : Int32} (X : zc p l s m args meth c cL_draw RL D dA A) (Y : zY s A b Ls sc) (hml : c.maxLocals = 4) (hr : meth.sig.returnType = (some .int)) {a1 : Int32} {a2 : Int32} (h : fl_draw Ls sc σ a1 a2 = some o) : zz p l e ({ frames := 1, cells := 0, slots := 0, locals := 42 } : Room) s m args below meth c A (gw D dA A σ ob ar) 0 0 (MQ below (va_Qi (fun r (_ : Unit) => r = o ∧ True) (fun _ t => gw D dA A σ ob ar t.heap) A) args s (0) (0) A) 0 [(0, .ref b), (1, .int (a1)), (2, .int (a2))] [] [] := by
  unfold fl_draw at h
  refine z_iload_n X dL_draw_0 rfl rfl ?_
  refine z_aload_n X dL_draw_1 rfl rfl ?_
  refine z_slen X Y.2.1 Y.2.2.1 Y.2.2.2 dL_draw_2 ?_
  refine z_icmp_ge (tgt := 12) X dL_draw_3 (by decide) (fun q => ?_) (fun q => ?_)
  · have h := zp q h
    refine z_ldc X n_304 dL_draw_12 ?_
    refine z_iload_n X dL_draw_14 rfl rfl ?_
    refine z_sipush (v := 557) X dL_draw_15 (by decide) ?_
    refine z_iadd X dL_draw_18 ?_
    refine z_imul X dL_draw_19 ?_
    refine z_ldc X n_305 dL_draw_20 ?_
    refine z_iadd X dL_draw_22 ?_
    refine zz.pick (lo' := [(2, .int (a2))]) [2] rfl ?_
    exact bl_draw_23 X Y hml hr h
  · have h := zn q h
    refine z_aload_n X dL_draw_6 rfl rfl ?_
    refine z_iload_n X dL_draw_7 rfl rfl ?_
    obtain ⟨q1, h⟩ := zg h
    refine z_sld X Y.2.1 Y.2.2.1 Y.2.2.2 q1 dL_draw_8 ?_
    refine z_goto (tgt := 23) X dL_draw_9 (by decide) ?_
    refine zz.pick (lo' := [(2, .int (a2))]) [2] rfl ?_
    exact bl_draw_23 X Y hml hr h
theorem ll_draw (l : Launch) {D : va_G} {dA : Nat → ClassId} {A : Nat → Prop} {n : Nat} {ar : Nat → Nat} {ob b Ls : Nat} {sc : Nat → Int32} (hst : l.stackTraces = false) (hA : ∀ q, n ≤ q → A q) (hbA : ¬ A b) {σ : GS} {a1 : Int32} {a2 : Int32} {o : Int32} (h : fl_draw Ls sc σ a1 a2 = some o) : Met l yL_draw (.code yL_draw cL_draw 4 (some .int) :: gT) ({ frames := 1, cells := 0, slots := 0, locals := 42 } : Room) (va_Pc [.ref b, .int (a1), .int (a2)] (zBL D dA A n b Ls sc (gw D dA A σ ob ar))) (va_Qi (fun r (_ : Unit) => r = o ∧ True) (fun _ t => gw D dA A σ ob ar t.heap) A) (0) (0) A :=
  z_metL (by decide) hA hbA hst (Nat.le_of_ble_eq_true rfl) rfl rfl (fun p e s m below meth c X Y hml hr => bl_draw X Y hml hr h)
-- part(III)I
def fl_part (σ : GS) (a1 : Int32) (a2 : Int32) (a3 : Int32) : Option (Int32) := some (((a1 >>> ((a2 : Int32) &&& 31) : Int32) &&& ((1 <<< ((a3 : Int32) &&& 31) : Int32) - 1)))
set_option maxRecDepth 100000 in
set_option maxHeartbeats 4000000 in
theorem bl_part {p : Program} {l : Launch} {e : Env} {s : State} {m : MethodId} {args : Array Value} {below : List Frame} {meth : Method} {c : Code} {D : va_G} {dA : Nat → ClassId} {A : Nat → Prop} {ar : Nat → Nat} {ob b Ls : Nat} {sc : Nat → Int32} {σ : GS} {o : Int32} (X : zc p l s m args meth c cL_part RL D dA A) (Y : zY s A b Ls sc) (hml : c.maxLocals = 3) (hr : meth.sig.returnType = (some .int)) {a1 : Int32} {a2 : Int32} {a3 : Int32} (h : fl_part σ a1 a2 a3 = some o) : zz p l e ({ frames := 1, cells := 0, slots := 0, locals := 42 } : Room) s m args below meth c A (gw D dA A σ ob ar) 0 0 (MQ below (va_Qi (fun r (_ : Unit) => r = o ∧ True) (fun _ t => gw D dA A σ ob ar t.heap) A) args s (0) (0) A) 0 [(0, .int (a1)), (1, .int (a2)), (2, .int (a3))] [] [] := by
  unfold fl_part at h
  refine z_iload_n X dL_part_0 rfl rfl ?_
  refine z_iload_n X dL_part_1 rfl rfl ?_
  refine z_ishr X dL_part_2 ?_
  refine z_iconst (v := 1) X dL_part_3 (by decide) ?_
  refine z_iload_n X dL_part_4 rfl rfl ?_
  refine z_ishl X dL_part_5 ?_
  refine z_iconst (v := 1) X dL_part_6 (by decide) ?_
  refine z_isub X dL_part_7 ?_
  refine z_iand X dL_part_8 ?_
  obtain rfl := Option.some.inj h
  exact z_iret X hr rfl (fun t hG hF _ => ⟨⟨_, (), rfl, ⟨rfl, trivial⟩, hG⟩, hF⟩) dL_part_9
theorem ll_part (l : Launch) {D : va_G} {dA : Nat → ClassId} {A : Nat → Prop} {n : Nat} {ar : Nat → Nat} {ob b Ls : Nat} {sc : Nat → Int32} (hst : l.stackTraces = false) (hA : ∀ q, n ≤ q → A q) (hbA : ¬ A b) {σ : GS} {a1 : Int32} {a2 : Int32} {a3 : Int32} {o : Int32} (h : fl_part σ a1 a2 a3 = some o) : Met l yL_part (.code yL_part cL_part 3 (some .int) :: gT) ({ frames := 1, cells := 0, slots := 0, locals := 42 } : Room) (va_Pc [.int (a1), .int (a2), .int (a3)] (zBL D dA A n b Ls sc (gw D dA A σ ob ar))) (va_Qi (fun r (_ : Unit) => r = o ∧ True) (fun _ t => gw D dA A σ ob ar t.heap) A) (0) (0) A :=
  z_metL (by decide) hA hbA hst (Nat.le_of_ble_eq_true rfl) rfl rfl (fun p e s m below meth c X Y hml hr => bl_part X Y hml hr h)
-- event(IIII)I
def fl_event (σ : GS) (a1 : Int32) (a2 : Int32) (a3 : Int32) (a4 : Int32) : Option (Int32) := some (((((a1 <<< ((5 : Int32) &&& 31) : Int32) ||| (((a1 : Int32).toUInt32 >>> ((27 : Int32).toUInt32 &&& Int32.toUInt32 31)).toInt32)) + (31 * a3)) ^^^ ((8 * a2) + a4)))
set_option maxRecDepth 100000 in
set_option maxHeartbeats 4000000 in
theorem bl_event {p : Program} {l : Launch} {e : Env} {s : State} {m : MethodId} {args : Array Value} {below : List Frame} {meth : Method} {c : Code} {D : va_G} {dA : Nat → ClassId} {A : Nat → Prop} {ar : Nat → Nat} {ob b Ls : Nat} {sc : Nat → Int32} {σ : GS} {o : Int32} (X : zc p l s m args meth c cL_event RL D dA A) (Y : zY s A b Ls sc) (hml : c.maxLocals = 4) (hr : meth.sig.returnType = (some .int)) {a1 : Int32} {a2 : Int32} {a3 : Int32} {a4 : Int32} (h : fl_event σ a1 a2 a3 a4 = some o) : zz p l e ({ frames := 1, cells := 0, slots := 0, locals := 42 } : Room) s m args below meth c A (gw D dA A σ ob ar) 0 0 (MQ below (va_Qi (fun r (_ : Unit) => r = o ∧ True) (fun _ t => gw D dA A σ ob ar t.heap) A) args s (0) (0) A) 0 [(0, .int (a1)), (1, .int (a2)), (2, .int (a3)), (3, .int (a4))] [] [] := by
  unfold fl_event at h
  refine z_iload_n X dL_event_0 rfl rfl ?_
  refine z_iconst (v := 5) X dL_event_1 (by decide) ?_
  refine z_ishl X dL_event_2 ?_
  refine z_iload_n X dL_event_3 rfl rfl ?_
  refine z_bipush (v := 27) X dL_event_4 (by decide) ?_
  refine z_iushr X dL_event_6 ?_
  refine z_ior X dL_event_7 ?_
  refine z_bipush (v := 31) X dL_event_8 (by decide) ?_
  refine z_iload_n X dL_event_10 rfl rfl ?_
  refine z_imul X dL_event_11 ?_
  refine z_iadd X dL_event_12 ?_
  refine z_bipush (v := 8) X dL_event_13 (by decide) ?_
  refine z_iload_n X dL_event_15 rfl rfl ?_
  refine z_imul X dL_event_16 ?_
  refine z_iload_n X dL_event_17 rfl rfl ?_
  refine z_iadd X dL_event_18 ?_
  refine z_ixor X dL_event_19 ?_
  obtain rfl := Option.some.inj h
  exact z_iret X hr rfl (fun t hG hF _ => ⟨⟨_, (), rfl, ⟨rfl, trivial⟩, hG⟩, hF⟩) dL_event_20
theorem ll_event (l : Launch) {D : va_G} {dA : Nat → ClassId} {A : Nat → Prop} {n : Nat} {ar : Nat → Nat} {ob b Ls : Nat} {sc : Nat → Int32} (hst : l.stackTraces = false) (hA : ∀ q, n ≤ q → A q) (hbA : ¬ A b) {σ : GS} {a1 : Int32} {a2 : Int32} {a3 : Int32} {a4 : Int32} {o : Int32} (h : fl_event σ a1 a2 a3 a4 = some o) : Met l yL_event (.code yL_event cL_event 4 (some .int) :: gT) ({ frames := 1, cells := 0, slots := 0, locals := 42 } : Room) (va_Pc [.int (a1), .int (a2), .int (a3), .int (a4)] (zBL D dA A n b Ls sc (gw D dA A σ ob ar))) (va_Qi (fun r (_ : Unit) => r = o ∧ True) (fun _ t => gw D dA A σ ob ar t.heap) A) (0) (0) A :=
  z_metL (by decide) hA hbA hst (Nat.le_of_ble_eq_true rfl) rfl rfl (fun p e s m below meth c X Y hml hr => bl_event X Y hml hr h)
