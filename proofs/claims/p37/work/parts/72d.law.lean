-- areCalls(LMeshBiller;[I[I)Z
def fl_areCalls_146 (k5 : GS → Int32 → Int32 → Option (Int32)) (σ : GS) (v4 : Int32) (s0 : Int32) : Option (Int32) := (some (v4 + 1)).bind fun x1 => k5 σ s0 x1
set_option maxRecDepth 100000 in
set_option maxHeartbeats 4000000 in
theorem bl_areCalls_146 {p : Program} {l : Launch} {e : Env} {s : State} {m : MethodId} {args : Array Value} {below : List Frame} {meth : Method} {c : Code} {D : va_G} {dA : Nat → ClassId} {A : Nat → Prop} {ar : Nat → Nat} {ob b Ls : Nat} {sc : Nat → Int32} {σ : GS} {o : Int32} (X : zc p l s m args meth c cL_areCalls RL D dA A) (Y : zY s A b Ls sc) (hml : c.maxLocals = 9) (hr : meth.sig.returnType = (some .boolean)) {k5 : GS → Int32 → Int32 → Option (Int32)} (hk5 : ∀ {v3 : Int32} {v4 : Int32}, k5 σ v3 v4 = some o → zz p l e ({ frames := 11, cells := 0, slots := 0, locals := 462 } : Room) s m args below meth c A (gw D dA A σ ob ar) 0 0 (MQ below (va_Qi (fun r (_ : Unit) => r = o ∧ True) (fun _ t => gw D dA A σ ob ar t.heap) A) args s (0) (0) A) 5 [(0, .ref ob), (1, .ref (ar 0)), (2, .ref (ar 2)), (3, .int (v3)), (4, .int (v4))] [] []) {v4 : Int32} {s0 : Int32} (h : fl_areCalls_146 k5 σ v4 s0 = some o) : zz p l e ({ frames := 11, cells := 0, slots := 0, locals := 462 } : Room) s m args below meth c A (gw D dA A σ ob ar) 0 0 (MQ below (va_Qi (fun r (_ : Unit) => r = o ∧ True) (fun _ t => gw D dA A σ ob ar t.heap) A) args s (0) (0) A) 146 [(0, .ref ob), (1, .ref (ar 0)), (2, .ref (ar 2)), (4, .int (v4))] [] [.int (s0)] := by
  unfold fl_areCalls_146 at h
  refine z_istore_n (lo' := [(3, .int (s0)), (0, .ref ob), (1, .ref (ar 0)), (2, .ref (ar 2)), (4, .int (v4))]) X dL_areCalls_146 rfl (by rw [hml]; decide) rfl rfl ?_
  obtain ⟨x1, ex1, h⟩ := zb h
  refine z_iinc (v := x1) (lo' := [(4, .int (x1)), (3, .int (s0)), (0, .ref ob), (1, .ref (ar 0)), (2, .ref (ar 2))]) X dL_areCalls_147 rfl ex1 (by rw [hml]; decide) rfl rfl ?_
  refine z_goto (tgt := 5) X dL_areCalls_150 (by decide) ?_
  refine zz.pick (lo' := [(0, .ref ob), (1, .ref (ar 0)), (2, .ref (ar 2)), (3, .int (s0)), (4, .int (x1))]) [0, 1, 2, 3, 4] rfl ?_
  exact hk5  h
def fl_areCalls_145 (k5 : GS → Int32 → Int32 → Option (Int32)) (σ : GS) (v4 : Int32) : Option (Int32) := fl_areCalls_146 k5 σ v4 0
set_option maxRecDepth 100000 in
set_option maxHeartbeats 4000000 in
theorem bl_areCalls_145 {p : Program} {l : Launch} {e : Env} {s : State} {m : MethodId} {args : Array Value} {below : List Frame} {meth : Method} {c : Code} {D : va_G} {dA : Nat → ClassId} {A : Nat → Prop} {ar : Nat → Nat} {ob b Ls : Nat} {sc : Nat → Int32} {σ : GS} {o : Int32} (X : zc p l s m args meth c cL_areCalls RL D dA A) (Y : zY s A b Ls sc) (hml : c.maxLocals = 9) (hr : meth.sig.returnType = (some .boolean)) {k5 : GS → Int32 → Int32 → Option (Int32)} (hk5 : ∀ {v3 : Int32} {v4 : Int32}, k5 σ v3 v4 = some o → zz p l e ({ frames := 11, cells := 0, slots := 0, locals := 462 } : Room) s m args below meth c A (gw D dA A σ ob ar) 0 0 (MQ below (va_Qi (fun r (_ : Unit) => r = o ∧ True) (fun _ t => gw D dA A σ ob ar t.heap) A) args s (0) (0) A) 5 [(0, .ref ob), (1, .ref (ar 0)), (2, .ref (ar 2)), (3, .int (v3)), (4, .int (v4))] [] []) {v4 : Int32} (h : fl_areCalls_145 k5 σ v4 = some o) : zz p l e ({ frames := 11, cells := 0, slots := 0, locals := 462 } : Room) s m args below meth c A (gw D dA A σ ob ar) 0 0 (MQ below (va_Qi (fun r (_ : Unit) => r = o ∧ True) (fun _ t => gw D dA A σ ob ar t.heap) A) args s (0) (0) A) 145 [(0, .ref ob), (1, .ref (ar 0)), (2, .ref (ar 2)), (4, .int (v4))] [] [] := by
  unfold fl_areCalls_145 at h
  refine z_iconst (v := 0) X dL_areCalls_145 (by decide) ?_
  refine zz.pick (lo' := [(0, .ref ob), (1, .ref (ar 0)), (2, .ref (ar 2)), (4, .int (v4))]) [0, 1, 2, 4] rfl ?_
  exact bl_areCalls_146 X Y hml hr hk5 h
def fl_areCalls_93 (k5 : GS → Int32 → Int32 → Option (Int32)) (k30 : GS → Int32 → Int32 → Int32 → Int64 → Option (Int32)) (σ : GS) (v4 : Int32) (v5 : Int32) (v8 : Int32) (u6 : Int64) : Option (Int32) := (some (v8 + 1)).bind fun x1 => k30 σ v4 v5 x1 (u6)
set_option maxRecDepth 100000 in
set_option maxHeartbeats 4000000 in
theorem bl_areCalls_93 {p : Program} {l : Launch} {e : Env} {s : State} {m : MethodId} {args : Array Value} {below : List Frame} {meth : Method} {c : Code} {D : va_G} {dA : Nat → ClassId} {A : Nat → Prop} {ar : Nat → Nat} {ob b Ls : Nat} {sc : Nat → Int32} {σ : GS} {o : Int32} (X : zc p l s m args meth c cL_areCalls RL D dA A) (Y : zY s A b Ls sc) (hml : c.maxLocals = 9) (hr : meth.sig.returnType = (some .boolean)) {k5 : GS → Int32 → Int32 → Option (Int32)} (hk5 : ∀ {v3 : Int32} {v4 : Int32}, k5 σ v3 v4 = some o → zz p l e ({ frames := 11, cells := 0, slots := 0, locals := 462 } : Room) s m args below meth c A (gw D dA A σ ob ar) 0 0 (MQ below (va_Qi (fun r (_ : Unit) => r = o ∧ True) (fun _ t => gw D dA A σ ob ar t.heap) A) args s (0) (0) A) 5 [(0, .ref ob), (1, .ref (ar 0)), (2, .ref (ar 2)), (3, .int (v3)), (4, .int (v4))] [] []) {k30 : GS → Int32 → Int32 → Int32 → Int64 → Option (Int32)} (hk30 : ∀ {v4 : Int32} {v5 : Int32} {v8 : Int32} {u6 : Int64}, k30 σ v4 v5 v8 u6 = some o → zz p l e ({ frames := 11, cells := 0, slots := 0, locals := 462 } : Room) s m args below meth c A (gw D dA A σ ob ar) 0 0 (MQ below (va_Qi (fun r (_ : Unit) => r = o ∧ True) (fun _ t => gw D dA A σ ob ar t.heap) A) args s (0) (0) A) 30 [(0, .ref ob), (1, .ref (ar 0)), (2, .ref (ar 2)), (4, .int (v4)), (5, .int (v5)), (8, .int (v8))] [(6, u6)] []) {v4 : Int32} {v5 : Int32} {v8 : Int32} {u6 : Int64} (h : fl_areCalls_93 k5 k30 σ v4 v5 v8 u6 = some o) : zz p l e ({ frames := 11, cells := 0, slots := 0, locals := 462 } : Room) s m args below meth c A (gw D dA A σ ob ar) 0 0 (MQ below (va_Qi (fun r (_ : Unit) => r = o ∧ True) (fun _ t => gw D dA A σ ob ar t.heap) A) args s (0) (0) A) 93 [(0, .ref ob), (1, .ref (ar 0)), (2, .ref (ar 2)), (4, .int (v4)), (5, .int (v5)), (8, .int (v8))] [(6, u6)] [] := by
  unfold fl_areCalls_93 at h
  obtain ⟨x1, ex1, h⟩ := zb h
  refine z_iinc (v := x1) (lo' := [(8, .int (x1)), (0, .ref ob), (1, .ref (ar 0)), (2, .ref (ar 2)), (4, .int (v4)), (5, .int (v5))]) X dL_areCalls_93 rfl ex1 (by rw [hml]; decide) rfl rfl ?_
  refine z_goto (tgt := 30) X dL_areCalls_96 (by decide) ?_
  refine zz.pick (lo' := [(0, .ref ob), (1, .ref (ar 0)), (2, .ref (ar 2)), (4, .int (v4)), (5, .int (v5)), (8, .int (x1))]) [0, 1, 2, 4, 5, 8] rfl ?_
  exact hk30  h
def fl_areCalls_69 (k5 : GS → Int32 → Int32 → Option (Int32)) (k30 : GS → Int32 → Int32 → Int32 → Int64 → Option (Int32)) (σ : GS) (v4 : Int32) (v8 : Int32) (u6 : Int64) (s0 : Int32) (s1 : Int32) : Option (Int32) := (some ((s0 + s1))).bind fun x1 => (aq_seal σ.1 (v8)).bind fun o2 => (some ((((u6 <<< ((7 : Int32).toInt64 &&& 63)) ||| (((u6 : Int64).toUInt64 >>> (((57 : Int32).toInt64).toUInt64 &&& Int64.toUInt64 63)).toInt64)) + (o2 : Int32).toInt64))).bind fun x3 => fl_areCalls_93 k5 k30 σ v4 x1 v8 (x3)
set_option maxRecDepth 100000 in
set_option maxHeartbeats 4000000 in
theorem bl_areCalls_69 {p : Program} {l : Launch} {e : Env} {s : State} {m : MethodId} {args : Array Value} {below : List Frame} {meth : Method} {c : Code} {D : va_G} {dA : Nat → ClassId} {A : Nat → Prop} {ar : Nat → Nat} {ob b Ls : Nat} {sc : Nat → Int32} {σ : GS} {o : Int32} (X : zc p l s m args meth c cL_areCalls RL D dA A) (Y : zY s A b Ls sc) (hml : c.maxLocals = 9) (hr : meth.sig.returnType = (some .boolean)) {k5 : GS → Int32 → Int32 → Option (Int32)} (hk5 : ∀ {v3 : Int32} {v4 : Int32}, k5 σ v3 v4 = some o → zz p l e ({ frames := 11, cells := 0, slots := 0, locals := 462 } : Room) s m args below meth c A (gw D dA A σ ob ar) 0 0 (MQ below (va_Qi (fun r (_ : Unit) => r = o ∧ True) (fun _ t => gw D dA A σ ob ar t.heap) A) args s (0) (0) A) 5 [(0, .ref ob), (1, .ref (ar 0)), (2, .ref (ar 2)), (3, .int (v3)), (4, .int (v4))] [] []) {k30 : GS → Int32 → Int32 → Int32 → Int64 → Option (Int32)} (hk30 : ∀ {v4 : Int32} {v5 : Int32} {v8 : Int32} {u6 : Int64}, k30 σ v4 v5 v8 u6 = some o → zz p l e ({ frames := 11, cells := 0, slots := 0, locals := 462 } : Room) s m args below meth c A (gw D dA A σ ob ar) 0 0 (MQ below (va_Qi (fun r (_ : Unit) => r = o ∧ True) (fun _ t => gw D dA A σ ob ar t.heap) A) args s (0) (0) A) 30 [(0, .ref ob), (1, .ref (ar 0)), (2, .ref (ar 2)), (4, .int (v4)), (5, .int (v5)), (8, .int (v8))] [(6, u6)] []) {v4 : Int32} {v8 : Int32} {u6 : Int64} {s0 : Int32} {s1 : Int32} (h : fl_areCalls_69 k5 k30 σ v4 v8 u6 s0 s1 = some o) : zz p l e ({ frames := 11, cells := 0, slots := 0, locals := 462 } : Room) s m args below meth c A (gw D dA A σ ob ar) 0 0 (MQ below (va_Qi (fun r (_ : Unit) => r = o ∧ True) (fun _ t => gw D dA A σ ob ar t.heap) A) args s (0) (0) A) 69 [(0, .ref ob), (1, .ref (ar 0)), (2, .ref (ar 2)), (4, .int (v4)), (8, .int (v8))] [(6, u6)] [.int (s1), .int (s0)] := by
  unfold fl_areCalls_69 at h
  refine z_iadd X dL_areCalls_69 ?_
  obtain ⟨x1, ex1, h⟩ := zb h
  rw [ex1]
  refine z_istore (lo' := [(5, .int (x1)), (0, .ref ob), (1, .ref (ar 0)), (2, .ref (ar 2)), (4, .int (v4)), (8, .int (v8))]) X dL_areCalls_70 (by rw [hml]; decide) rfl rfl ?_
  refine z_lload X dL_areCalls_72 rfl ?_
  refine z_bipush (v := 7) X dL_areCalls_74 (by decide) ?_
  refine z_lshl X dL_areCalls_76 ?_
  refine z_lload X dL_areCalls_77 rfl ?_
  refine z_bipush (v := 57) X dL_areCalls_79 (by decide) ?_
  refine z_lushr X dL_areCalls_81 ?_
  refine z_lor X dL_areCalls_82 ?_
  refine z_aload_n X dL_areCalls_83 rfl rfl ?_
  refine z_iload X dL_areCalls_84 rfl ?_
  obtain ⟨o2, co2, h⟩ := zb2 h
  refine l_q (As := [.int (v8)]) (rest := [.long (((u6 <<< ((7 : Int32).toInt64 &&& 63)) ||| (((u6 : Int64).toUInt64 >>> (((57 : Int32).toInt64).toUInt64 &&& Int64.toUInt64 63)).toInt64)))]) (nA := 1) (mc := 0) (ms := 0) (rm := ({ frames := 10, cells := 0, slots := 0, locals := 420 } : Room)) (r0 := o2) X (fun _ h11 => cz_seal l X.2.2.2.2.2.2.2.2 X.2.2.2.2.2.2.1 h11 (fun _ z => nomatch z) (qo_eq co2)) n_908 n_909 n_910 n_1 n_911 nh_yX11_seal ⟨rfl, rfl, Nat.le_of_ble_eq_true rfl, Nat.le_of_ble_eq_true rfl⟩ rfl rfl (Nat.le_of_ble_eq_true rfl) dL_areCalls_86 ⟨by show _ ≤ 0; omega, by show _ ≤ 0; omega⟩ ?_
  refine z_i2l X dL_areCalls_89 ?_
  refine z_ladd X dL_areCalls_90 ?_
  obtain ⟨x3, ex3, h⟩ := zb h
  rw [ex3]
  refine z_lstore X dL_areCalls_91 (by rw [hml]; decide) (lo' := [(5, .int (x1)), (0, .ref ob), (1, .ref (ar 0)), (2, .ref (ar 2)), (4, .int (v4)), (8, .int (v8))]) (ll' := [(6, x3)]) rfl rfl ?_
  refine zz.pick (lo' := [(0, .ref ob), (1, .ref (ar 0)), (2, .ref (ar 2)), (4, .int (v4)), (5, .int (x1)), (8, .int (v8))]) [0, 1, 2, 4, 5, 8] rfl ?_
  exact bl_areCalls_93 X Y hml hr hk5 hk30 h
def fl_areCalls_30 (k5 : GS → Int32 → Int32 → Option (Int32)) : Nat → GS → Int32 → Int32 → Int32 → Int64 → Option (Int32)
  | 0, _, _, _, _, _ => none
  | n + 1, σ, v4, v5, v8, u6 => (if (σ.2 2 (2 : Int32).toNatClampNeg) ≤ v8 then (aq_parties σ.1 (v4)).bind fun o1 => (if o1 = v5 then (if v5 = 1 then fl_areCalls_145 k5 σ v4
  else (if 5 ≤ v5 then fl_areCalls_145 k5 σ v4
  else (aq_stamp σ.1 (v4)).bind fun o2 => (if o2 = (((u6 >>> ((32 : Int32).toInt64 &&& 63)) : Int64).toInt32 ^^^ (u6 : Int64).toInt32) then fl_areCalls_146 k5 σ v4 1
  else fl_areCalls_145 k5 σ v4)))
  else fl_areCalls_145 k5 σ v4)
  else if v8 < 0 ∨ 64 ≤ (v8).toNatClampNeg then none else (fl_part σ ((σ.2 0 (v8).toNatClampNeg)) (4) (6)).bind fun o4 => (if o4 = v4 then (aq_stateOf σ.1 (v8)).bind fun o5 => (if o5 = 0 then fl_areCalls_69 k5 (fl_areCalls_30 k5 n) σ v4 v8 (u6) v5 1
  else fl_areCalls_69 k5 (fl_areCalls_30 k5 n) σ v4 v8 (u6) v5 0)
  else fl_areCalls_93 k5 (fl_areCalls_30 k5 n) σ v4 v5 v8 (u6)))
set_option maxRecDepth 100000 in
set_option maxHeartbeats 4000000 in
theorem bl_areCalls_30 {p : Program} {l : Launch} {e : Env} {s : State} {m : MethodId} {args : Array Value} {below : List Frame} {meth : Method} {c : Code} {D : va_G} {dA : Nat → ClassId} {A : Nat → Prop} {ar : Nat → Nat} {ob b Ls : Nat} {sc : Nat → Int32} {σ : GS} {o : Int32} (X : zc p l s m args meth c cL_areCalls RL D dA A) (Y : zY s A b Ls sc) (hml : c.maxLocals = 9) (hr : meth.sig.returnType = (some .boolean)) {k5 : GS → Int32 → Int32 → Option (Int32)} (hk5 : ∀ {v3 : Int32} {v4 : Int32}, k5 σ v3 v4 = some o → zz p l e ({ frames := 11, cells := 0, slots := 0, locals := 462 } : Room) s m args below meth c A (gw D dA A σ ob ar) 0 0 (MQ below (va_Qi (fun r (_ : Unit) => r = o ∧ True) (fun _ t => gw D dA A σ ob ar t.heap) A) args s (0) (0) A) 5 [(0, .ref ob), (1, .ref (ar 0)), (2, .ref (ar 2)), (3, .int (v3)), (4, .int (v4))] [] []) : ∀ (n : Nat) {v4 : Int32} {v5 : Int32} {v8 : Int32} {u6 : Int64}, fl_areCalls_30 k5 n σ v4 v5 v8 u6 = some o → zz p l e ({ frames := 11, cells := 0, slots := 0, locals := 462 } : Room) s m args below meth c A (gw D dA A σ ob ar) 0 0 (MQ below (va_Qi (fun r (_ : Unit) => r = o ∧ True) (fun _ t => gw D dA A σ ob ar t.heap) A) args s (0) (0) A) 30 [(0, .ref ob), (1, .ref (ar 0)), (2, .ref (ar 2)), (4, .int (v4)), (5, .int (v5)), (8, .int (v8))] [(6, u6)] [] := by
  intro n
  induction n with
  | zero => intro v4 v5 v8 u6 h; exact (nomatch (show none = some o from h))
  | succ n ih =>
    intro v4 v5 v8 u6 h
    rw [fl_areCalls_30] at h
    refine z_iload X dL_areCalls_30 rfl ?_
    refine z_aload_n X dL_areCalls_32 rfl rfl ?_
    refine z_iconst (v := 2) X dL_areCalls_33 (by decide) ?_
    refine l_ald X 2 rfl (by decide) dL_areCalls_34 ?_
    refine z_icmp_ge (tgt := 99) X dL_areCalls_35 (by decide) (fun q => ?_) (fun q => ?_)
    · have h := zp q h
      refine z_aload_n X dL_areCalls_99 rfl rfl ?_
      refine z_iload X dL_areCalls_100 rfl ?_
      obtain ⟨o1, co1, h⟩ := zb2 h
      refine l_q (As := [.int (v4)]) (rest := []) (nA := 1) (mc := 0) (ms := 0) (rm := ({ frames := 10, cells := 0, slots := 0, locals := 420 } : Room)) (r0 := o1) X (fun _ h11 => cz_parties l X.2.2.2.2.2.2.2.2 X.2.2.2.2.2.2.1 h11 (fun _ z => nomatch z) (qo_eq co1)) n_771 n_772 n_773 n_1 n_774 nh_yX11_parties ⟨rfl, rfl, Nat.le_of_ble_eq_true rfl, Nat.le_of_ble_eq_true rfl⟩ rfl rfl (Nat.le_of_ble_eq_true rfl) dL_areCalls_102 ⟨by show _ ≤ 0; omega, by show _ ≤ 0; omega⟩ ?_
      refine z_iload X dL_areCalls_105 rfl ?_
      refine z_icmp_ne (tgt := 145) X dL_areCalls_107 (by decide) (fun q => ?_) (fun q => ?_)
      · have h := zp q h
        refine z_iload X dL_areCalls_110 rfl ?_
        refine z_iconst (v := 1) X dL_areCalls_112 (by decide) ?_
        refine z_icmp_eq (tgt := 145) X dL_areCalls_113 (by decide) (fun q => ?_) (fun q => ?_)
        · have h := zp q h
          refine zz.pick (lo' := [(0, .ref ob), (1, .ref (ar 0)), (2, .ref (ar 2)), (4, .int (v4))]) [0, 1, 2, 4] rfl ?_
          refine zz.pickl (ll' := []) [] rfl ?_
          exact bl_areCalls_145 X Y hml hr hk5 h
        · have h := zn q h
          refine z_iload X dL_areCalls_116 rfl ?_
          refine z_iconst (v := 5) X dL_areCalls_118 (by decide) ?_
          refine z_icmp_ge (tgt := 145) X dL_areCalls_119 (by decide) (fun q => ?_) (fun q => ?_)
          · have h := zp q h
            refine zz.pick (lo' := [(0, .ref ob), (1, .ref (ar 0)), (2, .ref (ar 2)), (4, .int (v4))]) [0, 1, 2, 4] rfl ?_
            refine zz.pickl (ll' := []) [] rfl ?_
            exact bl_areCalls_145 X Y hml hr hk5 h
          · have h := zn q h
            refine z_aload_n X dL_areCalls_122 rfl rfl ?_
            refine z_iload X dL_areCalls_123 rfl ?_
            obtain ⟨o2, co2, h⟩ := zb2 h
            refine l_q (As := [.int (v4)]) (rest := []) (nA := 1) (mc := 0) (ms := 0) (rm := ({ frames := 10, cells := 0, slots := 0, locals := 420 } : Room)) (r0 := o2) X (fun _ h11 => cz_stamp l X.2.2.2.2.2.2.2.2 X.2.2.2.2.2.2.1 h11 (fun _ z => nomatch z) (qo_eq co2)) n_963 n_964 n_965 n_1 n_966 nh_yX11_stamp ⟨rfl, rfl, Nat.le_of_ble_eq_true rfl, Nat.le_of_ble_eq_true rfl⟩ rfl rfl (Nat.le_of_ble_eq_true rfl) dL_areCalls_125 ⟨by show _ ≤ 0; omega, by show _ ≤ 0; omega⟩ ?_
            refine z_lload X dL_areCalls_128 rfl ?_
            refine z_bipush (v := 32) X dL_areCalls_130 (by decide) ?_
            refine z_lshr X dL_areCalls_132 ?_
            refine z_l2i X dL_areCalls_133 ?_
            refine z_lload X dL_areCalls_134 rfl ?_
            refine z_l2i X dL_areCalls_136 ?_
            refine z_ixor X dL_areCalls_137 ?_
            refine z_icmp_ne (tgt := 145) X dL_areCalls_138 (by decide) (fun q => ?_) (fun q => ?_)
            · have h := zp q h
              refine z_iconst (v := 1) X dL_areCalls_141 (by decide) ?_
              refine z_goto (tgt := 146) X dL_areCalls_142 (by decide) ?_
              refine zz.pick (lo' := [(0, .ref ob), (1, .ref (ar 0)), (2, .ref (ar 2)), (4, .int (v4))]) [0, 1, 2, 4] rfl ?_
              refine zz.pickl (ll' := []) [] rfl ?_
              exact bl_areCalls_146 X Y hml hr hk5 h
            · have h := zn q h
              refine zz.pick (lo' := [(0, .ref ob), (1, .ref (ar 0)), (2, .ref (ar 2)), (4, .int (v4))]) [0, 1, 2, 4] rfl ?_
              refine zz.pickl (ll' := []) [] rfl ?_
              exact bl_areCalls_145 X Y hml hr hk5 h
      · have h := zn q h
        refine zz.pick (lo' := [(0, .ref ob), (1, .ref (ar 0)), (2, .ref (ar 2)), (4, .int (v4))]) [0, 1, 2, 4] rfl ?_
        refine zz.pickl (ll' := []) [] rfl ?_
        exact bl_areCalls_145 X Y hml hr hk5 h
    · have h := zn q h
      refine z_aload_n X dL_areCalls_38 rfl rfl ?_
      refine z_iload X dL_areCalls_39 rfl ?_
      obtain ⟨q3, h⟩ := zg h
      refine l_ald X 0 rfl q3 dL_areCalls_41 ?_
      refine z_iconst (v := 4) X dL_areCalls_42 (by decide) ?_
      refine z_bipush (v := 6) X dL_areCalls_43 (by decide) ?_
      obtain ⟨o4, co4, h⟩ := zb2 h
      refine z_lSi (As := [.int ((σ.2 0 (v8).toNatClampNeg)), .int (4), .int (6)]) (rest := []) (nA := 3) (mc := 0) (ms := 0) (r0 := o4) (pu := fun (_ : Unit) => True) (G1 := fun _ => gw D dA A σ ob ar) X Y (ll_part l X.2.2.2.2.2.2.2.2 X.2.2.2.2.2.2.1 Y.2.2.2 co4) n_784 n_785 n_0 n_786 nh_yL_part ⟨rfl, rfl, Nat.le_of_ble_eq_true rfl, Nat.le_of_ble_eq_true rfl⟩ rfl rfl (Nat.le_of_ble_eq_true rfl) dL_areCalls_45 ⟨by show _ ≤ 0; omega, by show _ ≤ 0; omega⟩ (fun _ _ => ?_)
      refine z_iload X dL_areCalls_48 rfl ?_
      refine z_icmp_ne (tgt := 93) X dL_areCalls_50 (by decide) (fun q => ?_) (fun q => ?_)
      · have h := zp q h
        refine z_iload X dL_areCalls_53 rfl ?_
        refine z_aload_n X dL_areCalls_55 rfl rfl ?_
        refine z_iload X dL_areCalls_56 rfl ?_
        obtain ⟨o5, co5, h⟩ := zb2 h
        refine l_q (As := [.int (v8)]) (rest := [.int (v5)]) (nA := 1) (mc := 0) (ms := 0) (rm := ({ frames := 10, cells := 0, slots := 0, locals := 420 } : Room)) (r0 := o5) X (fun _ h11 => cz_stateOf l X.2.2.2.2.2.2.2.2 X.2.2.2.2.2.2.1 h11 (fun _ z => nomatch z) (qo_eq co5)) n_775 n_776 n_777 n_1 n_778 nh_yX11_stateOf ⟨rfl, rfl, Nat.le_of_ble_eq_true rfl, Nat.le_of_ble_eq_true rfl⟩ rfl rfl (Nat.le_of_ble_eq_true rfl) dL_areCalls_58 ⟨by show _ ≤ 0; omega, by show _ ≤ 0; omega⟩ ?_
        refine z_if_ne (tgt := 68) X dL_areCalls_61 (by decide) (fun q => ?_) (fun q => ?_)
        · have h := zp q h
          refine z_iconst (v := 1) X dL_areCalls_64 (by decide) ?_
          refine z_goto (tgt := 69) X dL_areCalls_65 (by decide) ?_
          refine zz.pick (lo' := [(0, .ref ob), (1, .ref (ar 0)), (2, .ref (ar 2)), (4, .int (v4)), (8, .int (v8))]) [0, 1, 2, 4, 8] rfl ?_
          exact bl_areCalls_69 X Y hml hr hk5 ih h
        · have h := zn q h
          refine z_iconst (v := 0) X dL_areCalls_68 (by decide) ?_
          refine zz.pick (lo' := [(0, .ref ob), (1, .ref (ar 0)), (2, .ref (ar 2)), (4, .int (v4)), (8, .int (v8))]) [0, 1, 2, 4, 8] rfl ?_
          exact bl_areCalls_69 X Y hml hr hk5 ih h
      · have h := zn q h
        refine zz.pick (lo' := [(0, .ref ob), (1, .ref (ar 0)), (2, .ref (ar 2)), (4, .int (v4)), (5, .int (v5)), (8, .int (v8))]) [0, 1, 2, 4, 5, 8] rfl ?_
        exact bl_areCalls_93 X Y hml hr hk5 ih h
def fl_areCalls_5 : Nat → GS → Int32 → Int32 → Option (Int32)
  | 0, _, _, _ => none
  | n + 1, σ, v3, v4 => (if (σ.2 2 (1 : Int32).toNatClampNeg) ≤ v4 then if v3 = 0 ∨ v3 = 1 then some (v3) else none
  else (if v3 = 0 then if v3 = 0 ∨ v3 = 1 then some (v3) else none
  else (some (((v4 : Int32).toInt64 + 1))).bind fun x1 => fl_areCalls_30 (fl_areCalls_5 n) FU σ v4 0 0 (x1)))
set_option maxRecDepth 100000 in
set_option maxHeartbeats 4000000 in
theorem bl_areCalls_5 {p : Program} {l : Launch} {e : Env} {s : State} {m : MethodId} {args : Array Value} {below : List Frame} {meth : Method} {c : Code} {D : va_G} {dA : Nat → ClassId} {A : Nat → Prop} {ar : Nat → Nat} {ob b Ls : Nat} {sc : Nat → Int32} {σ : GS} {o : Int32} (X : zc p l s m args meth c cL_areCalls RL D dA A) (Y : zY s A b Ls sc) (hml : c.maxLocals = 9) (hr : meth.sig.returnType = (some .boolean)) : ∀ (n : Nat) {v3 : Int32} {v4 : Int32}, fl_areCalls_5 n σ v3 v4 = some o → zz p l e ({ frames := 11, cells := 0, slots := 0, locals := 462 } : Room) s m args below meth c A (gw D dA A σ ob ar) 0 0 (MQ below (va_Qi (fun r (_ : Unit) => r = o ∧ True) (fun _ t => gw D dA A σ ob ar t.heap) A) args s (0) (0) A) 5 [(0, .ref ob), (1, .ref (ar 0)), (2, .ref (ar 2)), (3, .int (v3)), (4, .int (v4))] [] [] := by
  intro n
  induction n with
  | zero => intro v3 v4 h; exact (nomatch (show none = some o from h))
  | succ n ih =>
    intro v3 v4 h
    rw [fl_areCalls_5] at h
    refine z_iload X dL_areCalls_5 rfl ?_
    refine z_aload_n X dL_areCalls_7 rfl rfl ?_
    refine z_iconst (v := 1) X dL_areCalls_8 (by decide) ?_
    refine l_ald X 2 rfl (by decide) dL_areCalls_9 ?_
    refine z_icmp_ge (tgt := 153) X dL_areCalls_10 (by decide) (fun q => ?_) (fun q => ?_)
    · have h := zp q h
      refine z_iload_n X dL_areCalls_153 rfl rfl ?_
      obtain ⟨q, h⟩ := zgp h
      obtain rfl := Option.some.inj h
      exact z_iret X hr (z_nb q) (fun t hG hF _ => ⟨⟨_, (), rfl, ⟨rfl, trivial⟩, hG⟩, hF⟩) dL_areCalls_154
    · have h := zn q h
      refine z_iload_n X dL_areCalls_13 rfl rfl ?_
      refine z_if_eq (tgt := 153) X dL_areCalls_14 (by decide) (fun q => ?_) (fun q => ?_)
      · have h := zp q h
        refine z_iload_n X dL_areCalls_153 rfl rfl ?_
        obtain ⟨q, h⟩ := zgp h
        obtain rfl := Option.some.inj h
        exact z_iret X hr (z_nb q) (fun t hG hF _ => ⟨⟨_, (), rfl, ⟨rfl, trivial⟩, hG⟩, hF⟩) dL_areCalls_154
      · have h := zn q h
        refine z_iconst (v := 0) X dL_areCalls_17 (by decide) ?_
        refine z_istore (lo' := [(5, .int (0)), (0, .ref ob), (1, .ref (ar 0)), (2, .ref (ar 2)), (3, .int (v3)), (4, .int (v4))]) X dL_areCalls_18 (by rw [hml]; decide) rfl rfl ?_
        refine z_iload X dL_areCalls_20 rfl ?_
        refine z_i2l X dL_areCalls_22 ?_
        refine z_lconst (v := 1) X dL_areCalls_23 (by decide) ?_
        refine z_ladd X dL_areCalls_24 ?_
        obtain ⟨x1, ex1, h⟩ := zb h
        rw [ex1]
        refine z_lstore X dL_areCalls_25 (by rw [hml]; decide) (lo' := [(5, .int (0)), (0, .ref ob), (1, .ref (ar 0)), (2, .ref (ar 2)), (3, .int (v3)), (4, .int (v4))]) (ll' := [(6, x1)]) rfl rfl ?_
        refine z_iconst (v := 0) X dL_areCalls_27 (by decide) ?_
        refine z_istore (lo' := [(8, .int (0)), (5, .int (0)), (0, .ref ob), (1, .ref (ar 0)), (2, .ref (ar 2)), (3, .int (v3)), (4, .int (v4))]) X dL_areCalls_28 (by rw [hml]; decide) rfl rfl ?_
        refine zz.pick (lo' := [(0, .ref ob), (1, .ref (ar 0)), (2, .ref (ar 2)), (4, .int (v4)), (5, .int (0)), (8, .int (0))]) [0, 1, 2, 4, 5, 8] rfl ?_
        exact bl_areCalls_30 X Y hml hr ih FU h
def fl_areCalls (σ : GS)  : Option (Int32) := fl_areCalls_5 FU σ 1 0
set_option maxRecDepth 100000 in
set_option maxHeartbeats 4000000 in
theorem bl_areCalls {p : Program} {l : Launch} {e : Env} {s : State} {m : MethodId} {args : Array Value} {below : List Frame} {meth : Method} {c : Code} {D : va_G} {dA : Nat → ClassId} {A : Nat → Prop} {ar : Nat → Nat} {ob b Ls : Nat} {sc : Nat → Int32} {σ : GS} {o : Int32} (X : zc p l s m args meth c cL_areCalls RL D dA A) (Y : zY s A b Ls sc) (hml : c.maxLocals = 9) (hr : meth.sig.returnType = (some .boolean))  (h : fl_areCalls σ = some o) : zz p l e ({ frames := 11, cells := 0, slots := 0, locals := 462 } : Room) s m args below meth c A (gw D dA A σ ob ar) 0 0 (MQ below (va_Qi (fun r (_ : Unit) => r = o ∧ True) (fun _ t => gw D dA A σ ob ar t.heap) A) args s (0) (0) A) 0 [(0, .ref ob), (1, .ref (ar 0)), (2, .ref (ar 2))] [] [] := by
  unfold fl_areCalls at h
  refine z_iconst (v := 1) X dL_areCalls_0 (by decide) ?_
  refine z_istore_n (lo' := [(3, .int (1)), (0, .ref ob), (1, .ref (ar 0)), (2, .ref (ar 2))]) X dL_areCalls_1 rfl (by rw [hml]; decide) rfl rfl ?_
  refine z_iconst (v := 0) X dL_areCalls_2 (by decide) ?_
  refine z_istore (lo' := [(4, .int (0)), (3, .int (1)), (0, .ref ob), (1, .ref (ar 0)), (2, .ref (ar 2))]) X dL_areCalls_3 (by rw [hml]; decide) rfl rfl ?_
  refine zz.pick (lo' := [(0, .ref ob), (1, .ref (ar 0)), (2, .ref (ar 2)), (3, .int (1)), (4, .int (0))]) [0, 1, 2, 3, 4] rfl ?_
  exact bl_areCalls_5 X Y hml hr FU h
theorem ll_areCalls (l : Launch) {D : va_G} {dA : Nat → ClassId} {A : Nat → Prop} {n : Nat} {ar : Nat → Nat} {ob b Ls : Nat} {sc : Nat → Int32} (hst : l.stackTraces = false) (hA : ∀ q, n ≤ q → A q) (hbA : ¬ A b) {σ : GS}  {o : Int32} (h : fl_areCalls σ = some o) : Met l yL_areCalls (.code yL_areCalls cL_areCalls 9 (some .boolean) :: gT) ({ frames := 11, cells := 0, slots := 0, locals := 462 } : Room) (va_Pc [.ref ob, .ref (ar 0), .ref (ar 2)] (zBL D dA A n b Ls sc (gw D dA A σ ob ar))) (va_Qi (fun r (_ : Unit) => r = o ∧ True) (fun _ t => gw D dA A σ ob ar t.heap) A) (0) (0) A :=
  z_metL (by decide) hA hbA hst (Nat.le_of_ble_eq_true rfl) rfl rfl (fun p e s m below meth c X Y hml hr => bl_areCalls X Y hml hr h)
