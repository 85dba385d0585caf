-- sets(LMeshBiller;III[I)Z
def fl_sets_79 (σ : GS) (v6 : Int32) (s1 : Int32) (s2 : Int32) : Option (GS × Int32) := (da_setRate σ.1 (s1) (s2) (v6)).bind fun o1 => (some ((o1.1, σ.2) : GS)).bind fun σ2 => (if o1.2 = v6 then some (σ2, 1)
  else some (σ2, 0))
set_option maxRecDepth 100000 in
set_option maxHeartbeats 4000000 in
theorem bl_sets_79 {p : Program} {l : Launch} {e : Env} {s : State} {m : MethodId} {args : Array Value} {below : List Frame} {meth : Method} {c : Code} {D : va_G} {dA : Nat → ClassId} {A : Nat → Prop} {ar : Nat → Nat} {ob b Ls : Nat} {sc : Nat → Int32} {o : GS × Int32} (X : zc p l s m args meth c cL_sets RL D dA A) (Y : zY s A b Ls sc) (hml : c.maxLocals = 8) (hr : meth.sig.returnType = (some .boolean)) {cells slots : Nat} (hcs : cells + (2) ≤ 6 ∧ slots + (912) ≤ 1824) {σ : GS} {v6 : Int32} {s1 : Int32} {s2 : Int32} (h : fl_sets_79 σ v6 s1 s2 = some o) : zz p l e ({ frames := 16, cells := 6, slots := 1824, locals := 672 } : Room) s m args below meth c A (gw D dA A σ ob ar) cells slots (MQ below (va_Qi (fun r (_ : Unit) => r = o.2 ∧ True) (fun _ t => gw D dA A o.1 ob ar t.heap) A) args s (6) (1824) A) 79 [(6, .int (v6))] [] [.int (s2), .int (s1), .ref ob] := by
  obtain ⟨hcs1, hcs2⟩ := hcs
  unfold fl_sets_79 at h
  refine z_iload X dL_sets_79 rfl ?_
  obtain ⟨o1, co1, h⟩ := zb2 h
  obtain ⟨σ2, eσ2, h⟩ := zb h
  refine l_a (As := [.int (s1), .int (s2), .int (v6)]) (rest := []) (nA := 3) (mc := 2) (ms := 912) (rm := ({ frames := 10, cells := 2, slots := 912, locals := 420 } : Room)) (o := o1) X (fun _ h11 => cc_setRate l X.2.2.2.2.2.2.2.2 X.2.2.2.2.2.2.1 h11 (ao_eq co1)) n_866 n_867 n_868 n_1 n_869 nh_yX11_setRate ⟨rfl, rfl, Nat.le_of_ble_eq_true rfl, Nat.le_of_ble_eq_true rfl⟩ rfl rfl (Nat.le_of_ble_eq_true rfl) dL_sets_81 ⟨by show _ ≤ 6; omega, by show _ ≤ 1824; omega⟩ ?_
  rw [eσ2]
  refine z_iload X dL_sets_84 rfl ?_
  refine z_icmp_ne (tgt := 93) X dL_sets_86 (by decide) (fun q => ?_) (fun q => ?_)
  · have h := zp q h
    refine z_iconst (v := 1) X dL_sets_89 (by decide) ?_
    refine z_goto (tgt := 94) X dL_sets_90 (by decide) ?_
    obtain rfl := Option.some.inj h
    refine zz.widen (k := 6) (n := 1824) (by omega) (by omega) ?_
    exact z_iret X hr rfl (fun t hG hF _ => ⟨⟨_, (), rfl, ⟨rfl, trivial⟩, hG⟩, hF⟩) dL_sets_94
  · have h := zn q h
    refine z_iconst (v := 0) X dL_sets_93 (by decide) ?_
    obtain rfl := Option.some.inj h
    refine zz.widen (k := 6) (n := 1824) (by omega) (by omega) ?_
    exact z_iret X hr rfl (fun t hG hF _ => ⟨⟨_, (), rfl, ⟨rfl, trivial⟩, hG⟩, hF⟩) dL_sets_94
def fl_sets_43 (σ : GS) (v2 : Int32) (v5 : Int32) (v6 : Int32) (s1 : Int32) (s2 : Int32) : Option (GS × Int32) := (da_setRate σ.1 (s1) (s2) (v6)).bind fun o1 => (some ((o1.1, σ.2) : GS)).bind fun σ2 => (some (o1.2)).bind fun x3 => (if x3 < 0 then some (σ2, 0)
  else (if 1000 < x3 then some (σ2, 0)
  else (if ((v2 / 3) - (v2 / 3) / 2 * 2) = 0 then fl_sets_79 σ2 v6 v5 1
  else fl_sets_79 σ2 v6 v5 0)))
set_option maxRecDepth 100000 in
set_option maxHeartbeats 4000000 in
theorem bl_sets_43 {p : Program} {l : Launch} {e : Env} {s : State} {m : MethodId} {args : Array Value} {below : List Frame} {meth : Method} {c : Code} {D : va_G} {dA : Nat → ClassId} {A : Nat → Prop} {ar : Nat → Nat} {ob b Ls : Nat} {sc : Nat → Int32} {o : GS × Int32} (X : zc p l s m args meth c cL_sets RL D dA A) (Y : zY s A b Ls sc) (hml : c.maxLocals = 8) (hr : meth.sig.returnType = (some .boolean)) {cells slots : Nat} (hcs : cells + (4) ≤ 6 ∧ slots + (1824) ≤ 1824) {σ : GS} {v2 : Int32} {v5 : Int32} {v6 : Int32} {s1 : Int32} {s2 : Int32} (h : fl_sets_43 σ v2 v5 v6 s1 s2 = some o) : zz p l e ({ frames := 16, cells := 6, slots := 1824, locals := 672 } : Room) s m args below meth c A (gw D dA A σ ob ar) cells slots (MQ below (va_Qi (fun r (_ : Unit) => r = o.2 ∧ True) (fun _ t => gw D dA A o.1 ob ar t.heap) A) args s (6) (1824) A) 43 [(0, .ref ob), (2, .int (v2)), (5, .int (v5)), (6, .int (v6))] [] [.int (s2), .int (s1), .ref ob] := by
  obtain ⟨hcs1, hcs2⟩ := hcs
  unfold fl_sets_43 at h
  refine z_iload X dL_sets_43 rfl ?_
  obtain ⟨o1, co1, h⟩ := zb2 h
  obtain ⟨σ2, eσ2, h⟩ := zb h
  refine l_a (As := [.int (s1), .int (s2), .int (v6)]) (rest := []) (nA := 3) (mc := 2) (ms := 912) (rm := ({ frames := 10, cells := 2, slots := 912, locals := 420 } : Room)) (o := o1) X (fun _ h11 => cc_setRate l X.2.2.2.2.2.2.2.2 X.2.2.2.2.2.2.1 h11 (ao_eq co1)) n_866 n_867 n_868 n_1 n_869 nh_yX11_setRate ⟨rfl, rfl, Nat.le_of_ble_eq_true rfl, Nat.le_of_ble_eq_true rfl⟩ rfl rfl (Nat.le_of_ble_eq_true rfl) dL_sets_45 ⟨by show _ ≤ 6; omega, by show _ ≤ 1824; omega⟩ ?_
  rw [eσ2]
  obtain ⟨x3, ex3, h⟩ := zb h
  rw [ex3]
  refine z_istore (lo' := [(7, .int (x3)), (0, .ref ob), (2, .int (v2)), (5, .int (v5)), (6, .int (v6))]) X dL_sets_48 (by rw [hml]; decide) rfl rfl ?_
  refine z_iload X dL_sets_50 rfl ?_
  refine z_if_lt (tgt := 93) X dL_sets_52 (by decide) (fun q => ?_) (fun q => ?_)
  · have h := zp q h
    refine z_iconst (v := 0) X dL_sets_93 (by decide) ?_
    obtain rfl := Option.some.inj h
    refine zz.widen (k := 6) (n := 1824) (by omega) (by omega) ?_
    exact z_iret X hr rfl (fun t hG hF _ => ⟨⟨_, (), rfl, ⟨rfl, trivial⟩, hG⟩, hF⟩) dL_sets_94
  · have h := zn q h
    refine z_iload X dL_sets_55 rfl ?_
    refine z_sipush (v := 1000) X dL_sets_57 (by decide) ?_
    refine z_icmp_gt (tgt := 93) X dL_sets_60 (by decide) (fun q => ?_) (fun q => ?_)
    · have h := zp q h
      refine z_iconst (v := 0) X dL_sets_93 (by decide) ?_
      obtain rfl := Option.some.inj h
      refine zz.widen (k := 6) (n := 1824) (by omega) (by omega) ?_
      exact z_iret X hr rfl (fun t hG hF _ => ⟨⟨_, (), rfl, ⟨rfl, trivial⟩, hG⟩, hF⟩) dL_sets_94
    · have h := zn q h
      refine z_aload_n X dL_sets_63 rfl rfl ?_
      refine z_iload X dL_sets_64 rfl ?_
      refine z_iload_n X dL_sets_66 rfl rfl ?_
      refine z_iconst (v := 3) X dL_sets_67 (by decide) ?_
      refine z_idiv X dL_sets_68 (by decide) ?_
      refine z_iconst (v := 2) X dL_sets_69 (by decide) ?_
      refine z_irem X dL_sets_70 (by decide) ?_
      refine z_if_ne (tgt := 78) X dL_sets_71 (by decide) (fun q => ?_) (fun q => ?_)
      · have h := zp q h
        refine z_iconst (v := 1) X dL_sets_74 (by decide) ?_
        refine z_goto (tgt := 79) X dL_sets_75 (by decide) ?_
        refine zz.pick (lo' := [(6, .int (v6))]) [6] rfl ?_
        exact bl_sets_79 X Y hml hr ⟨by omega, by omega⟩ h
      · have h := zn q h
        refine z_iconst (v := 0) X dL_sets_78 (by decide) ?_
        refine zz.pick (lo' := [(6, .int (v6))]) [6] rfl ?_
        exact bl_sets_79 X Y hml hr ⟨by omega, by omega⟩ h
def fl_sets_25 (σ : GS) (v2 : Int32) (v5 : Int32) (s0 : Int32) : Option (GS × Int32) := (if ((v2 / 3) - (v2 / 3) / 2 * 2) = 0 then fl_sets_43 σ v2 v5 s0 v5 1
  else fl_sets_43 σ v2 v5 s0 v5 0)
set_option maxRecDepth 100000 in
set_option maxHeartbeats 4000000 in
theorem bl_sets_25 {p : Program} {l : Launch} {e : Env} {s : State} {m : MethodId} {args : Array Value} {below : List Frame} {meth : Method} {c : Code} {D : va_G} {dA : Nat → ClassId} {A : Nat → Prop} {ar : Nat → Nat} {ob b Ls : Nat} {sc : Nat → Int32} {o : GS × Int32} (X : zc p l s m args meth c cL_sets RL D dA A) (Y : zY s A b Ls sc) (hml : c.maxLocals = 8) (hr : meth.sig.returnType = (some .boolean)) {cells slots : Nat} (hcs : cells + (4) ≤ 6 ∧ slots + (1824) ≤ 1824) {σ : GS} {v2 : Int32} {v5 : Int32} {s0 : Int32} (h : fl_sets_25 σ v2 v5 s0 = some o) : zz p l e ({ frames := 16, cells := 6, slots := 1824, locals := 672 } : Room) s m args below meth c A (gw D dA A σ ob ar) cells slots (MQ below (va_Qi (fun r (_ : Unit) => r = o.2 ∧ True) (fun _ t => gw D dA A o.1 ob ar t.heap) A) args s (6) (1824) A) 25 [(0, .ref ob), (2, .int (v2)), (5, .int (v5))] [] [.int (s0)] := by
  obtain ⟨hcs1, hcs2⟩ := hcs
  unfold fl_sets_25 at h
  refine z_istore (lo' := [(6, .int (s0)), (0, .ref ob), (2, .int (v2)), (5, .int (v5))]) X dL_sets_25 (by rw [hml]; decide) rfl rfl ?_
  refine z_aload_n X dL_sets_27 rfl rfl ?_
  refine z_iload X dL_sets_28 rfl ?_
  refine z_iload_n X dL_sets_30 rfl rfl ?_
  refine z_iconst (v := 3) X dL_sets_31 (by decide) ?_
  refine z_idiv X dL_sets_32 (by decide) ?_
  refine z_iconst (v := 2) X dL_sets_33 (by decide) ?_
  refine z_irem X dL_sets_34 (by decide) ?_
  refine z_if_ne (tgt := 42) X dL_sets_35 (by decide) (fun q => ?_) (fun q => ?_)
  · have h := zp q h
    refine z_iconst (v := 1) X dL_sets_38 (by decide) ?_
    refine z_goto (tgt := 43) X dL_sets_39 (by decide) ?_
    refine zz.pick (lo' := [(0, .ref ob), (2, .int (v2)), (5, .int (v5)), (6, .int (s0))]) [0, 2, 5, 6] rfl ?_
    exact bl_sets_43 X Y hml hr ⟨by omega, by omega⟩ h
  · have h := zn q h
    refine z_iconst (v := 0) X dL_sets_42 (by decide) ?_
    refine zz.pick (lo' := [(0, .ref ob), (2, .int (v2)), (5, .int (v5)), (6, .int (s0))]) [0, 2, 5, 6] rfl ?_
    exact bl_sets_43 X Y hml hr ⟨by omega, by omega⟩ h
def fl_sets_186 (σ : GS) (v6 : Int32) (s1 : Int32) (s2 : Int32) (s3 : Int32) : Option (GS × Int32) := (dv_setChannels σ.1 (s1) (s2) (s3)).bind fun o1 => (some ((o1.1, σ.2) : GS)).bind fun σ2 => (if o1.2 = v6 then some (σ2, 1)
  else some (σ2, 0))
set_option maxRecDepth 100000 in
set_option maxHeartbeats 4000000 in
theorem bl_sets_186 {p : Program} {l : Launch} {e : Env} {s : State} {m : MethodId} {args : Array Value} {below : List Frame} {meth : Method} {c : Code} {D : va_G} {dA : Nat → ClassId} {A : Nat → Prop} {ar : Nat → Nat} {ob b Ls : Nat} {sc : Nat → Int32} {o : GS × Int32} (X : zc p l s m args meth c cL_sets RL D dA A) (Y : zY s A b Ls sc) (hml : c.maxLocals = 8) (hr : meth.sig.returnType = (some .boolean)) {cells slots : Nat} (hcs : cells + (2) ≤ 6 ∧ slots + (12) ≤ 1824) {σ : GS} {v6 : Int32} {s1 : Int32} {s2 : Int32} {s3 : Int32} (h : fl_sets_186 σ v6 s1 s2 s3 = some o) : zz p l e ({ frames := 16, cells := 6, slots := 1824, locals := 672 } : Room) s m args below meth c A (gw D dA A σ ob ar) cells slots (MQ below (va_Qi (fun r (_ : Unit) => r = o.2 ∧ True) (fun _ t => gw D dA A o.1 ob ar t.heap) A) args s (6) (1824) A) 186 [(6, .int (v6))] [] [.int (s3), .int (s2), .int (s1), .ref ob] := by
  obtain ⟨hcs1, hcs2⟩ := hcs
  unfold fl_sets_186 at h
  obtain ⟨o1, co1, h⟩ := zb2 h
  obtain ⟨σ2, eσ2, h⟩ := zb h
  obtain ⟨u3, ko1, jo1⟩ := vo_eq co1
  refine l_v (As := [.int (s1), .int (s2), .int (s3)]) (rest := []) (nA := 3) (mc := 2) (ms := 12) (rm := ({ frames := 7, cells := 2, slots := 12, locals := 294 } : Room)) (o := u3) X (fun _ h11 => cc_setChannels l X.2.2.2.2.2.2.2.2 X.2.2.2.2.2.2.1 h11 ko1) n_876 n_877 n_878 n_1 n_879 nh_yX11_setChannels ⟨rfl, rfl, Nat.le_of_ble_eq_true rfl, Nat.le_of_ble_eq_true rfl⟩ rfl rfl (Nat.le_of_ble_eq_true rfl) dL_sets_186 ⟨by show _ ≤ 6; omega, by show _ ≤ 1824; omega⟩ ?_
  rw [show ((u3.1, σ.1.2), σ.2) = ((o1.1, σ.2) : GS) by rw [jo1], show u3.2 = o1.2 by rw [jo1], eσ2]
  refine z_iload X dL_sets_189 rfl ?_
  refine z_icmp_ne (tgt := 198) X dL_sets_191 (by decide) (fun q => ?_) (fun q => ?_)
  · have h := zp q h
    refine z_iconst (v := 1) X dL_sets_194 (by decide) ?_
    refine z_goto (tgt := 199) X dL_sets_195 (by decide) ?_
    obtain rfl := Option.some.inj h
    refine zz.widen (k := 6) (n := 1824) (by omega) (by omega) ?_
    exact z_iret X hr rfl (fun t hG hF _ => ⟨⟨_, (), rfl, ⟨rfl, trivial⟩, hG⟩, hF⟩) dL_sets_199
  · have h := zn q h
    refine z_iconst (v := 0) X dL_sets_198 (by decide) ?_
    obtain rfl := Option.some.inj h
    refine zz.widen (k := 6) (n := 1824) (by omega) (by omega) ?_
    exact z_iret X hr rfl (fun t hG hF _ => ⟨⟨_, (), rfl, ⟨rfl, trivial⟩, hG⟩, hF⟩) dL_sets_199
def fl_sets_185 (σ : GS) (v6 : Int32) (s1 : Int32) (s2 : Int32) : Option (GS × Int32) := fl_sets_186 σ v6 s1 s2 0
set_option maxRecDepth 100000 in
set_option maxHeartbeats 4000000 in
theorem bl_sets_185 {p : Program} {l : Launch} {e : Env} {s : State} {m : MethodId} {args : Array Value} {below : List Frame} {meth : Method} {c : Code} {D : va_G} {dA : Nat → ClassId} {A : Nat → Prop} {ar : Nat → Nat} {ob b Ls : Nat} {sc : Nat → Int32} {o : GS × Int32} (X : zc p l s m args meth c cL_sets RL D dA A) (Y : zY s A b Ls sc) (hml : c.maxLocals = 8) (hr : meth.sig.returnType = (some .boolean)) {cells slots : Nat} (hcs : cells + (2) ≤ 6 ∧ slots + (12) ≤ 1824) {σ : GS} {v6 : Int32} {s1 : Int32} {s2 : Int32} (h : fl_sets_185 σ v6 s1 s2 = some o) : zz p l e ({ frames := 16, cells := 6, slots := 1824, locals := 672 } : Room) s m args below meth c A (gw D dA A σ ob ar) cells slots (MQ below (va_Qi (fun r (_ : Unit) => r = o.2 ∧ True) (fun _ t => gw D dA A o.1 ob ar t.heap) A) args s (6) (1824) A) 185 [(6, .int (v6))] [] [.int (s2), .int (s1), .ref ob] := by
  obtain ⟨hcs1, hcs2⟩ := hcs
  unfold fl_sets_185 at h
  refine z_iconst (v := 0) X dL_sets_185 (by decide) ?_
  refine zz.pick (lo' := [(6, .int (v6))]) [6] rfl ?_
  exact bl_sets_186 X Y hml hr ⟨by omega, by omega⟩ h
def fl_sets_146 (k112 : GS → Int32 → Int32 → Int32 → Int32 → Option (GS × Int32)) (σ : GS) (v3 : Int32) (v5 : Int32) (v7 : Int32) (s0 : Int32) (s1 : Int32) : Option (GS × Int32) := (some ((s0 + s1))).bind fun x1 => (some (v7 + 1)).bind fun x2 => k112 σ v3 v5 x1 x2
set_option maxRecDepth 100000 in
set_option maxHeartbeats 4000000 in
theorem bl_sets_146 {p : Program} {l : Launch} {e : Env} {s : State} {m : MethodId} {args : Array Value} {below : List Frame} {meth : Method} {c : Code} {D : va_G} {dA : Nat → ClassId} {A : Nat → Prop} {ar : Nat → Nat} {ob b Ls : Nat} {sc : Nat → Int32} {o : GS × Int32} (X : zc p l s m args meth c cL_sets RL D dA A) (Y : zY s A b Ls sc) (hml : c.maxLocals = 8) (hr : meth.sig.returnType = (some .boolean)) {k112 : GS → Int32 → Int32 → Int32 → Int32 → Option (GS × Int32)} (hk112 : ∀ {cells slots : Nat} (hcs : cells + (2) ≤ 6 ∧ slots + (12) ≤ 1824) {σ : GS} {v3 : Int32} {v5 : Int32} {v6 : Int32} {v7 : Int32}, k112 σ v3 v5 v6 v7 = some o → zz p l e ({ frames := 16, cells := 6, slots := 1824, locals := 672 } : Room) s m args below meth c A (gw D dA A σ ob ar) cells slots (MQ below (va_Qi (fun r (_ : Unit) => r = o.2 ∧ True) (fun _ t => gw D dA A o.1 ob ar t.heap) A) args s (6) (1824) A) 112 [(0, .ref ob), (3, .int (v3)), (5, .int (v5)), (6, .int (v6)), (7, .int (v7))] [] []) {cells slots : Nat} (hcs : cells + (2) ≤ 6 ∧ slots + (12) ≤ 1824) {σ : GS} {v3 : Int32} {v5 : Int32} {v7 : Int32} {s0 : Int32} {s1 : Int32} (h : fl_sets_146 k112 σ v3 v5 v7 s0 s1 = some o) : zz p l e ({ frames := 16, cells := 6, slots := 1824, locals := 672 } : Room) s m args below meth c A (gw D dA A σ ob ar) cells slots (MQ below (va_Qi (fun r (_ : Unit) => r = o.2 ∧ True) (fun _ t => gw D dA A o.1 ob ar t.heap) A) args s (6) (1824) A) 146 [(0, .ref ob), (3, .int (v3)), (5, .int (v5)), (7, .int (v7))] [] [.int (s1), .int (s0)] := by
  obtain ⟨hcs1, hcs2⟩ := hcs
  unfold fl_sets_146 at h
  refine z_iadd X dL_sets_146 ?_
  obtain ⟨x1, ex1, h⟩ := zb h
  rw [ex1]
  refine z_istore (lo' := [(6, .int (x1)), (0, .ref ob), (3, .int (v3)), (5, .int (v5)), (7, .int (v7))]) X dL_sets_147 (by rw [hml]; decide) rfl rfl ?_
  obtain ⟨x2, ex2, h⟩ := zb h
  refine z_iinc (v := x2) (lo' := [(7, .int (x2)), (6, .int (x1)), (0, .ref ob), (3, .int (v3)), (5, .int (v5))]) X dL_sets_149 rfl ex2 (by rw [hml]; decide) rfl rfl ?_
  refine z_goto (tgt := 112) X dL_sets_152 (by decide) ?_
  refine zz.pick (lo' := [(0, .ref ob), (3, .int (v3)), (5, .int (v5)), (6, .int (x1)), (7, .int (x2))]) [0, 3, 5, 6, 7] rfl ?_
  exact hk112 ⟨by omega, by omega⟩ h
def fl_sets_145 (k112 : GS → Int32 → Int32 → Int32 → Int32 → Option (GS × Int32)) (σ : GS) (v3 : Int32) (v5 : Int32) (v7 : Int32) (s0 : Int32) : Option (GS × Int32) := fl_sets_146 k112 σ v3 v5 v7 s0 0
set_option maxRecDepth 100000 in
set_option maxHeartbeats 4000000 in
theorem bl_sets_145 {p : Program} {l : Launch} {e : Env} {s : State} {m : MethodId} {args : Array Value} {below : List Frame} {meth : Method} {c : Code} {D : va_G} {dA : Nat → ClassId} {A : Nat → Prop} {ar : Nat → Nat} {ob b Ls : Nat} {sc : Nat → Int32} {o : GS × Int32} (X : zc p l s m args meth c cL_sets RL D dA A) (Y : zY s A b Ls sc) (hml : c.maxLocals = 8) (hr : meth.sig.returnType = (some .boolean)) {k112 : GS → Int32 → Int32 → Int32 → Int32 → Option (GS × Int32)} (hk112 : ∀ {cells slots : Nat} (hcs : cells + (2) ≤ 6 ∧ slots + (12) ≤ 1824) {σ : GS} {v3 : Int32} {v5 : Int32} {v6 : Int32} {v7 : Int32}, k112 σ v3 v5 v6 v7 = some o → zz p l e ({ frames := 16, cells := 6, slots := 1824, locals := 672 } : Room) s m args below meth c A (gw D dA A σ ob ar) cells slots (MQ below (va_Qi (fun r (_ : Unit) => r = o.2 ∧ True) (fun _ t => gw D dA A o.1 ob ar t.heap) A) args s (6) (1824) A) 112 [(0, .ref ob), (3, .int (v3)), (5, .int (v5)), (6, .int (v6)), (7, .int (v7))] [] []) {cells slots : Nat} (hcs : cells + (2) ≤ 6 ∧ slots + (12) ≤ 1824) {σ : GS} {v3 : Int32} {v5 : Int32} {v7 : Int32} {s0 : Int32} (h : fl_sets_145 k112 σ v3 v5 v7 s0 = some o) : zz p l e ({ frames := 16, cells := 6, slots := 1824, locals := 672 } : Room) s m args below meth c A (gw D dA A σ ob ar) cells slots (MQ below (va_Qi (fun r (_ : Unit) => r = o.2 ∧ True) (fun _ t => gw D dA A o.1 ob ar t.heap) A) args s (6) (1824) A) 145 [(0, .ref ob), (3, .int (v3)), (5, .int (v5)), (7, .int (v7))] [] [.int (s0)] := by
  obtain ⟨hcs1, hcs2⟩ := hcs
  unfold fl_sets_145 at h
  refine z_iconst (v := 0) X dL_sets_145 (by decide) ?_
  refine zz.pick (lo' := [(0, .ref ob), (3, .int (v3)), (5, .int (v5)), (7, .int (v7))]) [0, 3, 5, 7] rfl ?_
  exact bl_sets_146 X Y hml hr hk112 ⟨by omega, by omega⟩ h
def fl_sets_112 : Nat → GS → Int32 → Int32 → Int32 → Int32 → Option (GS × Int32)
  | 0, _, _, _, _, _ => none
  | n + 1, σ, v3, v5, v6, v7 => (if 10 ≤ v7 then (some ((v3 - v3 / 6 * 6))).bind fun x1 => (if x1 ≤ 1 then fl_sets_185 σ v6 v5 x1
  else (if ((v3 / 6) - (v3 / 6) / 4 * 4) = 0 then fl_sets_186 σ v6 v5 x1 1
  else fl_sets_185 σ v6 v5 x1))
  else (aq_legOf σ.1 (v7)).bind fun o2 => (if o2 < 0 then fl_sets_145 (fl_sets_112 n) σ v3 v5 v7 v6
  else (aq_cellOf σ.1 (v7)).bind fun o3 => (if o3 = v5 then fl_sets_146 (fl_sets_112 n) σ v3 v5 v7 v6 1
  else fl_sets_145 (fl_sets_112 n) σ v3 v5 v7 v6)))
set_option maxRecDepth 100000 in
set_option maxHeartbeats 4000000 in
theorem bl_sets_112 {p : Program} {l : Launch} {e : Env} {s : State} {m : MethodId} {args : Array Value} {below : List Frame} {meth : Method} {c : Code} {D : va_G} {dA : Nat → ClassId} {A : Nat → Prop} {ar : Nat → Nat} {ob b Ls : Nat} {sc : Nat → Int32} {o : GS × Int32} (X : zc p l s m args meth c cL_sets RL D dA A) (Y : zY s A b Ls sc) (hml : c.maxLocals = 8) (hr : meth.sig.returnType = (some .boolean)) : ∀ (n : Nat) {cells slots : Nat} (hcs : cells + (2) ≤ 6 ∧ slots + (12) ≤ 1824) {σ : GS} {v3 : Int32} {v5 : Int32} {v6 : Int32} {v7 : Int32}, fl_sets_112 n σ v3 v5 v6 v7 = some o → zz p l e ({ frames := 16, cells := 6, slots := 1824, locals := 672 } : Room) s m args below meth c A (gw D dA A σ ob ar) cells slots (MQ below (va_Qi (fun r (_ : Unit) => r = o.2 ∧ True) (fun _ t => gw D dA A o.1 ob ar t.heap) A) args s (6) (1824) A) 112 [(0, .ref ob), (3, .int (v3)), (5, .int (v5)), (6, .int (v6)), (7, .int (v7))] [] [] := by
  intro n
  induction n with
  | zero => intro cells slots hcs σ v3 v5 v6 v7 h; exact (nomatch (show none = some o from h))
  | succ n ih =>
    intro cells slots hcs σ v3 v5 v6 v7 h
    obtain ⟨hcs1, hcs2⟩ := hcs
    rw [fl_sets_112] at h
    refine z_iload X dL_sets_112 rfl ?_
    refine z_bipush (v := 10) X dL_sets_114 (by decide) ?_
    refine z_icmp_ge (tgt := 155) X dL_sets_116 (by decide) (fun q => ?_) (fun q => ?_)
    · have h := zp q h
      refine z_iload_n X dL_sets_155 rfl rfl ?_
      refine z_bipush (v := 6) X dL_sets_156 (by decide) ?_
      refine z_irem X dL_sets_158 (by decide) ?_
      obtain ⟨x1, ex1, h⟩ := zb h
      rw [ex1]
      refine z_istore (lo' := [(7, .int (x1)), (0, .ref ob), (3, .int (v3)), (5, .int (v5)), (6, .int (v6))]) X dL_sets_159 (by rw [hml]; decide) rfl rfl ?_
      refine z_aload_n X dL_sets_161 rfl rfl ?_
      refine z_iload X dL_sets_162 rfl ?_
      refine z_iload X dL_sets_164 rfl ?_
      refine z_iload X dL_sets_166 rfl ?_
      refine z_iconst (v := 1) X dL_sets_168 (by decide) ?_
      refine z_icmp_le (tgt := 185) X dL_sets_169 (by decide) (fun q => ?_) (fun q => ?_)
      · have h := zp q h
        refine zz.pick (lo' := [(6, .int (v6))]) [6] rfl ?_
        exact bl_sets_185 X Y hml hr ⟨by omega, by omega⟩ h
      · have h := zn q h
        refine z_iload_n X dL_sets_172 rfl rfl ?_
        refine z_bipush (v := 6) X dL_sets_173 (by decide) ?_
        refine z_idiv X dL_sets_175 (by decide) ?_
        refine z_iconst (v := 4) X dL_sets_176 (by decide) ?_
        refine z_irem X dL_sets_177 (by decide) ?_
        refine z_if_ne (tgt := 185) X dL_sets_178 (by decide) (fun q => ?_) (fun q => ?_)
        · have h := zp q h
          refine z_iconst (v := 1) X dL_sets_181 (by decide) ?_
          refine z_goto (tgt := 186) X dL_sets_182 (by decide) ?_
          refine zz.pick (lo' := [(6, .int (v6))]) [6] rfl ?_
          exact bl_sets_186 X Y hml hr ⟨by omega, by omega⟩ h
        · have h := zn q h
          refine zz.pick (lo' := [(6, .int (v6))]) [6] rfl ?_
          exact bl_sets_185 X Y hml hr ⟨by omega, by omega⟩ h
    · have h := zn q h
      refine z_iload X dL_sets_119 rfl ?_
      refine z_aload_n X dL_sets_121 rfl rfl ?_
      refine z_iload X dL_sets_122 rfl ?_
      obtain ⟨o2, co2, h⟩ := zb2 h
      refine l_q (As := [.int (v7)]) (rest := [.int (v6)]) (nA := 1) (mc := 0) (ms := 0) (rm := ({ frames := 7, cells := 0, slots := 0, locals := 294 } : Room)) (r0 := o2) X (fun _ h11 => cz_legOf l X.2.2.2.2.2.2.2.2 X.2.2.2.2.2.2.1 h11 (fun _ z => nomatch z) (qo_eq co2)) n_313 n_314 n_315 n_1 n_316 nh_yX11_legOf ⟨rfl, rfl, Nat.le_of_ble_eq_true rfl, Nat.le_of_ble_eq_true rfl⟩ rfl rfl (Nat.le_of_ble_eq_true rfl) dL_sets_124 ⟨by show _ ≤ 6; omega, by show _ ≤ 1824; omega⟩ ?_
      refine z_if_lt (tgt := 145) X dL_sets_127 (by decide) (fun q => ?_) (fun q => ?_)
      · have h := zp q h
        refine zz.pick (lo' := [(0, .ref ob), (3, .int (v3)), (5, .int (v5)), (7, .int (v7))]) [0, 3, 5, 7] rfl ?_
        exact bl_sets_145 X Y hml hr ih ⟨by omega, by omega⟩ h
      · have h := zn q h
        refine z_aload_n X dL_sets_130 rfl rfl ?_
        refine z_iload X dL_sets_131 rfl ?_
        obtain ⟨o3, co3, h⟩ := zb2 h
        refine l_q (As := [.int (v7)]) (rest := [.int (v6)]) (nA := 1) (mc := 0) (ms := 0) (rm := ({ frames := 7, cells := 0, slots := 0, locals := 294 } : Room)) (r0 := o3) X (fun _ h11 => cz_cellOf l X.2.2.2.2.2.2.2.2 X.2.2.2.2.2.2.1 h11 (fun _ z => nomatch z) (qo_eq co3)) n_761 n_762 n_763 n_1 n_764 nh_yX11_cellOf ⟨rfl, rfl, Nat.le_of_ble_eq_true rfl, Nat.le_of_ble_eq_true rfl⟩ rfl rfl (Nat.le_of_ble_eq_true rfl) dL_sets_133 ⟨by show _ ≤ 6; omega, by show _ ≤ 1824; omega⟩ ?_
        refine z_iload X dL_sets_136 rfl ?_
        refine z_icmp_ne (tgt := 145) X dL_sets_138 (by decide) (fun q => ?_) (fun q => ?_)
        · have h := zp q h
          refine z_iconst (v := 1) X dL_sets_141 (by decide) ?_
          refine z_goto (tgt := 146) X dL_sets_142 (by decide) ?_
          refine zz.pick (lo' := [(0, .ref ob), (3, .int (v3)), (5, .int (v5)), (7, .int (v7))]) [0, 3, 5, 7] rfl ?_
          exact bl_sets_146 X Y hml hr ih ⟨by omega, by omega⟩ h
        · have h := zn q h
          refine zz.pick (lo' := [(0, .ref ob), (3, .int (v3)), (5, .int (v5)), (7, .int (v7))]) [0, 3, 5, 7] rfl ?_
          exact bl_sets_145 X Y hml hr ih ⟨by omega, by omega⟩ h
def fl_sets_220 (σ : GS) (s0 : Int32) (s1 : Int32) (s2 : Int32) : Option (GS × Int32) := if s2 = 0 then none else (some ((s0 + (s1 - s1 / s2 * s2)))).bind fun x2 => (dv_setSlice σ.1 (x2)).bind fun o3 => (some ((o3.1, σ.2) : GS)).bind fun σ4 => (some (o3.2)).bind fun x6 => (if x6 ≤ 0 then some (σ4, 0)
  else (if 100 < x6 then some (σ4, 0)
  else (dv_setSlice σ4.1 (x2)).bind fun o7 => (some ((o7.1, σ4.2) : GS)).bind fun σ8 => (if o7.2 = x2 then some (σ8, 1)
  else some (σ8, 0))))
set_option maxRecDepth 100000 in
set_option maxHeartbeats 4000000 in
theorem bl_sets_220 {p : Program} {l : Launch} {e : Env} {s : State} {m : MethodId} {args : Array Value} {below : List Frame} {meth : Method} {c : Code} {D : va_G} {dA : Nat → ClassId} {A : Nat → Prop} {ar : Nat → Nat} {ob b Ls : Nat} {sc : Nat → Int32} {o : GS × Int32} (X : zc p l s m args meth c cL_sets RL D dA A) (Y : zY s A b Ls sc) (hml : c.maxLocals = 8) (hr : meth.sig.returnType = (some .boolean)) {cells slots : Nat} (hcs : cells + (2) ≤ 6 ∧ slots + (12) ≤ 1824) {σ : GS} {s0 : Int32} {s1 : Int32} {s2 : Int32} (h : fl_sets_220 σ s0 s1 s2 = some o) : zz p l e ({ frames := 16, cells := 6, slots := 1824, locals := 672 } : Room) s m args below meth c A (gw D dA A σ ob ar) cells slots (MQ below (va_Qi (fun r (_ : Unit) => r = o.2 ∧ True) (fun _ t => gw D dA A o.1 ob ar t.heap) A) args s (6) (1824) A) 220 [(0, .ref ob)] [] [.int (s2), .int (s1), .int (s0)] := by
  obtain ⟨hcs1, hcs2⟩ := hcs
  unfold fl_sets_220 at h
  obtain ⟨q1, h⟩ := zg h
  refine z_irem X dL_sets_220 q1 ?_
  refine z_iadd X dL_sets_221 ?_
  obtain ⟨x2, ex2, h⟩ := zb h
  rw [ex2]
  refine z_istore (lo' := [(5, .int (x2)), (0, .ref ob)]) X dL_sets_222 (by rw [hml]; decide) rfl rfl ?_
  refine z_aload_n X dL_sets_224 rfl rfl ?_
  refine z_iload X dL_sets_225 rfl ?_
  obtain ⟨o3, co3, h⟩ := zb2 h
  obtain ⟨σ4, eσ4, h⟩ := zb h
  obtain ⟨u5, ko3, jo3⟩ := vo_eq co3
  refine l_v (As := [.int (x2)]) (rest := []) (nA := 1) (mc := 1) (ms := 6) (rm := ({ frames := 7, cells := 1, slots := 6, locals := 294 } : Room)) (o := u5) X (fun _ h11 => cc_setSlice l X.2.2.2.2.2.2.2.2 X.2.2.2.2.2.2.1 h11 ko3) n_881 n_882 n_883 n_1 n_884 nh_yX11_setSlice ⟨rfl, rfl, Nat.le_of_ble_eq_true rfl, Nat.le_of_ble_eq_true rfl⟩ rfl rfl (Nat.le_of_ble_eq_true rfl) dL_sets_227 ⟨by show _ ≤ 6; omega, by show _ ≤ 1824; omega⟩ ?_
  rw [show ((u5.1, σ.1.2), σ.2) = ((o3.1, σ.2) : GS) by rw [jo3], show u5.2 = o3.2 by rw [jo3], eσ4]
  obtain ⟨x6, ex6, h⟩ := zb h
  rw [ex6]
  refine z_istore (lo' := [(6, .int (x6)), (5, .int (x2)), (0, .ref ob)]) X dL_sets_230 (by rw [hml]; decide) rfl rfl ?_
  refine z_iload X dL_sets_232 rfl ?_
  refine z_if_le (tgt := 259) X dL_sets_234 (by decide) (fun q => ?_) (fun q => ?_)
  · have h := zp q h
    refine z_iconst (v := 0) X dL_sets_259 (by decide) ?_
    obtain rfl := Option.some.inj h
    refine zz.widen (k := 6) (n := 1824) (by omega) (by omega) ?_
    exact z_iret X hr rfl (fun t hG hF _ => ⟨⟨_, (), rfl, ⟨rfl, trivial⟩, hG⟩, hF⟩) dL_sets_260
  · have h := zn q h
    refine z_iload X dL_sets_237 rfl ?_
    refine z_bipush (v := 100) X dL_sets_239 (by decide) ?_
    refine z_icmp_gt (tgt := 259) X dL_sets_241 (by decide) (fun q => ?_) (fun q => ?_)
    · have h := zp q h
      refine z_iconst (v := 0) X dL_sets_259 (by decide) ?_
      obtain rfl := Option.some.inj h
      refine zz.widen (k := 6) (n := 1824) (by omega) (by omega) ?_
      exact z_iret X hr rfl (fun t hG hF _ => ⟨⟨_, (), rfl, ⟨rfl, trivial⟩, hG⟩, hF⟩) dL_sets_260
    · have h := zn q h
      refine z_aload_n X dL_sets_244 rfl rfl ?_
      refine z_iload X dL_sets_245 rfl ?_
      obtain ⟨o7, co7, h⟩ := zb2 h
      obtain ⟨σ8, eσ8, h⟩ := zb h
      obtain ⟨u9, ko7, jo7⟩ := vo_eq co7
      refine l_v (As := [.int (x2)]) (rest := []) (nA := 1) (mc := 1) (ms := 6) (rm := ({ frames := 7, cells := 1, slots := 6, locals := 294 } : Room)) (o := u9) X (fun _ h11 => cc_setSlice l X.2.2.2.2.2.2.2.2 X.2.2.2.2.2.2.1 h11 ko7) n_881 n_882 n_883 n_1 n_884 nh_yX11_setSlice ⟨rfl, rfl, Nat.le_of_ble_eq_true rfl, Nat.le_of_ble_eq_true rfl⟩ rfl rfl (Nat.le_of_ble_eq_true rfl) dL_sets_247 ⟨by show _ ≤ 6; omega, by show _ ≤ 1824; omega⟩ ?_
      rw [show ((u9.1, σ4.1.2), σ4.2) = ((o7.1, σ4.2) : GS) by rw [jo7], show u9.2 = o7.2 by rw [jo7], eσ8]
      refine z_iload X dL_sets_250 rfl ?_
      refine z_icmp_ne (tgt := 259) X dL_sets_252 (by decide) (fun q => ?_) (fun q => ?_)
      · have h := zp q h
        refine z_iconst (v := 1) X dL_sets_255 (by decide) ?_
        refine z_goto (tgt := 260) X dL_sets_256 (by decide) ?_
        obtain rfl := Option.some.inj h
        refine zz.widen (k := 6) (n := 1824) (by omega) (by omega) ?_
        exact z_iret X hr rfl (fun t hG hF _ => ⟨⟨_, (), rfl, ⟨rfl, trivial⟩, hG⟩, hF⟩) dL_sets_260
      · have h := zn q h
        refine z_iconst (v := 0) X dL_sets_259 (by decide) ?_
        obtain rfl := Option.some.inj h
        refine zz.widen (k := 6) (n := 1824) (by omega) (by omega) ?_
        exact z_iret X hr rfl (fun t hG hF _ => ⟨⟨_, (), rfl, ⟨rfl, trivial⟩, hG⟩, hF⟩) dL_sets_260
def fl_sets_283 (σ : GS) (v2 : Int32) (s0 : Int32) : Option (GS × Int32) := (dv_setCap σ.1 ((v2 - v2 / 10 * 10)) (s0)).bind fun o1 => (some ((o1.1, σ.2) : GS)).bind fun σ2 => (some (o1.2)).bind fun x4 => (if x4 < (-1) then some (σ2, 0)
  else (dv_setCap σ2.1 ((v2 - v2 / 10 * 10)) (s0)).bind fun o5 => (some ((o5.1, σ2.2) : GS)).bind fun σ6 => (if o5.2 = s0 then some (σ6, 1)
  else some (σ6, 0)))
set_option maxRecDepth 100000 in
set_option maxHeartbeats 4000000 in
theorem bl_sets_283 {p : Program} {l : Launch} {e : Env} {s : State} {m : MethodId} {args : Array Value} {below : List Frame} {meth : Method} {c : Code} {D : va_G} {dA : Nat → ClassId} {A : Nat → Prop} {ar : Nat → Nat} {ob b Ls : Nat} {sc : Nat → Int32} {o : GS × Int32} (X : zc p l s m args meth c cL_sets RL D dA A) (Y : zY s A b Ls sc) (hml : c.maxLocals = 8) (hr : meth.sig.returnType = (some .boolean)) {cells slots : Nat} (hcs : cells + (4) ≤ 6 ∧ slots + (24) ≤ 1824) {σ : GS} {v2 : Int32} {s0 : Int32} (h : fl_sets_283 σ v2 s0 = some o) : zz p l e ({ frames := 16, cells := 6, slots := 1824, locals := 672 } : Room) s m args below meth c A (gw D dA A σ ob ar) cells slots (MQ below (va_Qi (fun r (_ : Unit) => r = o.2 ∧ True) (fun _ t => gw D dA A o.1 ob ar t.heap) A) args s (6) (1824) A) 283 [(0, .ref ob), (2, .int (v2))] [] [.int (s0)] := by
  obtain ⟨hcs1, hcs2⟩ := hcs
  unfold fl_sets_283 at h
  refine z_istore (lo' := [(5, .int (s0)), (0, .ref ob), (2, .int (v2))]) X dL_sets_283 (by rw [hml]; decide) rfl rfl ?_
  refine z_aload_n X dL_sets_285 rfl rfl ?_
  refine z_iload_n X dL_sets_286 rfl rfl ?_
  refine z_bipush (v := 10) X dL_sets_287 (by decide) ?_
  refine z_irem X dL_sets_289 (by decide) ?_
  refine z_iload X dL_sets_290 rfl ?_
  obtain ⟨o1, co1, h⟩ := zb2 h
  obtain ⟨σ2, eσ2, h⟩ := zb h
  obtain ⟨u3, ko1, jo1⟩ := vo_eq co1
  refine l_v (As := [.int ((v2 - v2 / 10 * 10)), .int (s0)]) (rest := []) (nA := 2) (mc := 2) (ms := 12) (rm := ({ frames := 7, cells := 2, slots := 12, locals := 294 } : Room)) (o := u3) X (fun _ h11 => cc_setCap l X.2.2.2.2.2.2.2.2 X.2.2.2.2.2.2.1 h11 ko1) n_885 n_886 n_887 n_1 n_888 nh_yX11_setCap ⟨rfl, rfl, Nat.le_of_ble_eq_true rfl, Nat.le_of_ble_eq_true rfl⟩ rfl rfl (Nat.le_of_ble_eq_true rfl) dL_sets_292 ⟨by show _ ≤ 6; omega, by show _ ≤ 1824; omega⟩ ?_
  rw [show ((u3.1, σ.1.2), σ.2) = ((o1.1, σ.2) : GS) by rw [jo1], show u3.2 = o1.2 by rw [jo1], eσ2]
  obtain ⟨x4, ex4, h⟩ := zb h
  rw [ex4]
  refine z_istore (lo' := [(6, .int (x4)), (5, .int (s0)), (0, .ref ob), (2, .int (v2))]) X dL_sets_295 (by rw [hml]; decide) rfl rfl ?_
  refine z_iload X dL_sets_297 rfl ?_
  refine z_iconst (v := (-1)) X dL_sets_299 (by decide) ?_
  refine z_icmp_lt (tgt := 322) X dL_sets_300 (by decide) (fun q => ?_) (fun q => ?_)
  · have h := zp q h
    refine z_iconst (v := 0) X dL_sets_322 (by decide) ?_
    obtain rfl := Option.some.inj h
    refine zz.widen (k := 6) (n := 1824) (by omega) (by omega) ?_
    exact z_iret X hr rfl (fun t hG hF _ => ⟨⟨_, (), rfl, ⟨rfl, trivial⟩, hG⟩, hF⟩) dL_sets_323
  · have h := zn q h
    refine z_aload_n X dL_sets_303 rfl rfl ?_
    refine z_iload_n X dL_sets_304 rfl rfl ?_
    refine z_bipush (v := 10) X dL_sets_305 (by decide) ?_
    refine z_irem X dL_sets_307 (by decide) ?_
    refine z_iload X dL_sets_308 rfl ?_
    obtain ⟨o5, co5, h⟩ := zb2 h
    obtain ⟨σ6, eσ6, h⟩ := zb h
    obtain ⟨u7, ko5, jo5⟩ := vo_eq co5
    refine l_v (As := [.int ((v2 - v2 / 10 * 10)), .int (s0)]) (rest := []) (nA := 2) (mc := 2) (ms := 12) (rm := ({ frames := 7, cells := 2, slots := 12, locals := 294 } : Room)) (o := u7) X (fun _ h11 => cc_setCap l X.2.2.2.2.2.2.2.2 X.2.2.2.2.2.2.1 h11 ko5) n_885 n_886 n_887 n_1 n_888 nh_yX11_setCap ⟨rfl, rfl, Nat.le_of_ble_eq_true rfl, Nat.le_of_ble_eq_true rfl⟩ rfl rfl (Nat.le_of_ble_eq_true rfl) dL_sets_310 ⟨by show _ ≤ 6; omega, by show _ ≤ 1824; omega⟩ ?_
    rw [show ((u7.1, σ2.1.2), σ2.2) = ((o5.1, σ2.2) : GS) by rw [jo5], show u7.2 = o5.2 by rw [jo5], eσ6]
    refine z_iload X dL_sets_313 rfl ?_
    refine z_icmp_ne (tgt := 322) X dL_sets_315 (by decide) (fun q => ?_) (fun q => ?_)
    · have h := zp q h
      refine z_iconst (v := 1) X dL_sets_318 (by decide) ?_
      refine z_goto (tgt := 323) X dL_sets_319 (by decide) ?_
      obtain rfl := Option.some.inj h
      refine zz.widen (k := 6) (n := 1824) (by omega) (by omega) ?_
      exact z_iret X hr rfl (fun t hG hF _ => ⟨⟨_, (), rfl, ⟨rfl, trivial⟩, hG⟩, hF⟩) dL_sets_323
    · have h := zn q h
      refine z_iconst (v := 0) X dL_sets_322 (by decide) ?_
      obtain rfl := Option.some.inj h
      refine zz.widen (k := 6) (n := 1824) (by omega) (by omega) ?_
      exact z_iret X hr rfl (fun t hG hF _ => ⟨⟨_, (), rfl, ⟨rfl, trivial⟩, hG⟩, hF⟩) dL_sets_323
def fl_sets (σ : GS) (a1 : Int32) (a2 : Int32) (a3 : Int32) : Option (GS × Int32) := (if a1 = 0 then (some ((a2 - a2 / 3 * 3))).bind fun x1 => (if (a3 - a3 / 4 * 4) = 0 then fl_sets_25 σ a2 x1 0
  else fl_sets_25 σ a2 x1 ((a3 / 4) - (a3 / 4) / 90 * 90))
  else (if a1 = 1 then (some ((a2 - a2 / 8 * 8))).bind fun x2 => fl_sets_112 FU σ a3 x2 0 0
  else (if a1 = 2 then (if (a3 - a3 / 3 * 3) = 0 then fl_sets_220 σ 1 a3 100
  else fl_sets_220 σ 1 a3 9)
  else (if a1 = 3 then (if (a3 - a3 / 3 * 3) = 0 then fl_sets_283 σ a2 (-1)
  else fl_sets_283 σ a2 ((a3 / 3) - (a3 / 3) / 800 * 800))
  else (if a1 = 4 then (ak_setWallet σ.1 ((a2 - a2 / 10 * 10)) ((a3 - a3 / 4 * 4)) (0)).bind fun o3 => (some ((o3.1, σ.2) : GS)).bind fun σ4 => (some (o3.2)).bind fun x5 => (aq_legOf σ4.1 ((a2 - a2 / 10 * 10))).bind fun o6 => (if o6 < 0 then (if x5 < 0 then some (σ4, 0)
  else (if 4 ≤ x5 then some (σ4, 0)
  else (dv_setWallet σ4.1 ((a2 - a2 / 10 * 10)) ((a3 - a3 / 4 * 4))).bind fun o7 => (some ((o7.1, σ4.2) : GS)).bind fun σ8 => (if o7.2 = (a3 - a3 / 4 * 4) then some (σ8, 1)
  else some (σ8, 0))))
  else (if x5 = (-108) then some (σ4, 1)
  else some (σ4, 0)))
  else (ak_setZone σ.1 ((a2 - a2 / 8 * 8)) ((a3 - a3 / 3 * 3)) (0)).bind fun o10 => (some ((o10.1, σ.2) : GS)).bind fun σ11 => (some (o10.2)).bind fun x12 => (if (σ11.2 2 (1 : Int32).toNatClampNeg) ≤ 0 then (if x12 < 0 then some (σ11, 0)
  else (if 3 ≤ x12 then some (σ11, 0)
  else (dv_setZone σ11.1 ((a2 - a2 / 8 * 8)) ((a3 - a3 / 3 * 3))).bind fun o13 => (some ((o13.1, σ11.2) : GS)).bind fun σ14 => (if o13.2 = (a3 - a3 / 3 * 3) then some (σ14, 1)
  else some (σ14, 0))))
  else (if x12 = (-108) then some (σ11, 1)
  else some (σ11, 0))))))))
set_option maxRecDepth 100000 in
set_option maxHeartbeats 4000000 in
theorem bl_sets {p : Program} {l : Launch} {e : Env} {s : State} {m : MethodId} {args : Array Value} {below : List Frame} {meth : Method} {c : Code} {D : va_G} {dA : Nat → ClassId} {A : Nat → Prop} {ar : Nat → Nat} {ob b Ls : Nat} {sc : Nat → Int32} {o : GS × Int32} (X : zc p l s m args meth c cL_sets RL D dA A) (Y : zY s A b Ls sc) (hml : c.maxLocals = 8) (hr : meth.sig.returnType = (some .boolean)) {cells slots : Nat} (hcs : cells + (6) ≤ 6 ∧ slots + (1824) ≤ 1824) {σ : GS} {a1 : Int32} {a2 : Int32} {a3 : Int32} (h : fl_sets σ a1 a2 a3 = some o) : zz p l e ({ frames := 16, cells := 6, slots := 1824, locals := 672 } : Room) s m args below meth c A (gw D dA A σ ob ar) cells slots (MQ below (va_Qi (fun r (_ : Unit) => r = o.2 ∧ True) (fun _ t => gw D dA A o.1 ob ar t.heap) A) args s (6) (1824) A) 0 [(0, .ref ob), (1, .int (a1)), (2, .int (a2)), (3, .int (a3)), (4, .ref (ar 2))] [] [] := by
  obtain ⟨hcs1, hcs2⟩ := hcs
  unfold fl_sets at h
  refine z_iload_n X dL_sets_0 rfl rfl ?_
  refine z_if_ne (tgt := 95) X dL_sets_1 (by decide) (fun q => ?_) (fun q => ?_)
  · have h := zp q h
    refine z_iload_n X dL_sets_4 rfl rfl ?_
    refine z_iconst (v := 3) X dL_sets_5 (by decide) ?_
    refine z_irem X dL_sets_6 (by decide) ?_
    obtain ⟨x1, ex1, h⟩ := zb h
    rw [ex1]
    refine z_istore (lo' := [(5, .int (x1)), (0, .ref ob), (1, .int (a1)), (2, .int (a2)), (3, .int (a3)), (4, .ref (ar 2))]) X dL_sets_7 (by rw [hml]; decide) rfl rfl ?_
    refine z_iload_n X dL_sets_9 rfl rfl ?_
    refine z_iconst (v := 4) X dL_sets_10 (by decide) ?_
    refine z_irem X dL_sets_11 (by decide) ?_
    refine z_if_ne (tgt := 19) X dL_sets_12 (by decide) (fun q => ?_) (fun q => ?_)
    · have h := zp q h
      refine z_iconst (v := 0) X dL_sets_15 (by decide) ?_
      refine z_goto (tgt := 25) X dL_sets_16 (by decide) ?_
      refine zz.pick (lo' := [(0, .ref ob), (2, .int (a2)), (5, .int (x1))]) [0, 2, 5] rfl ?_
      exact bl_sets_25 X Y hml hr ⟨by omega, by omega⟩ h
    · have h := zn q h
      refine z_iload_n X dL_sets_19 rfl rfl ?_
      refine z_iconst (v := 4) X dL_sets_20 (by decide) ?_
      refine z_idiv X dL_sets_21 (by decide) ?_
      refine z_bipush (v := 90) X dL_sets_22 (by decide) ?_
      refine z_irem X dL_sets_24 (by decide) ?_
      refine zz.pick (lo' := [(0, .ref ob), (2, .int (a2)), (5, .int (x1))]) [0, 2, 5] rfl ?_
      exact bl_sets_25 X Y hml hr ⟨by omega, by omega⟩ h
  · have h := zn q h
    refine z_iload_n X dL_sets_95 rfl rfl ?_
    refine z_iconst (v := 1) X dL_sets_96 (by decide) ?_
    refine z_icmp_ne (tgt := 200) X dL_sets_97 (by decide) (fun q => ?_) (fun q => ?_)
    · have h := zp q h
      refine z_iload_n X dL_sets_100 rfl rfl ?_
      refine z_bipush (v := 8) X dL_sets_101 (by decide) ?_
      refine z_irem X dL_sets_103 (by decide) ?_
      obtain ⟨x2, ex2, h⟩ := zb h
      rw [ex2]
      refine z_istore (lo' := [(5, .int (x2)), (0, .ref ob), (1, .int (a1)), (2, .int (a2)), (3, .int (a3)), (4, .ref (ar 2))]) X dL_sets_104 (by rw [hml]; decide) rfl rfl ?_
      refine z_iconst (v := 0) X dL_sets_106 (by decide) ?_
      refine z_istore (lo' := [(6, .int (0)), (5, .int (x2)), (0, .ref ob), (1, .int (a1)), (2, .int (a2)), (3, .int (a3)), (4, .ref (ar 2))]) X dL_sets_107 (by rw [hml]; decide) rfl rfl ?_
      refine z_iconst (v := 0) X dL_sets_109 (by decide) ?_
      refine z_istore (lo' := [(7, .int (0)), (6, .int (0)), (5, .int (x2)), (0, .ref ob), (1, .int (a1)), (2, .int (a2)), (3, .int (a3)), (4, .ref (ar 2))]) X dL_sets_110 (by rw [hml]; decide) rfl rfl ?_
      refine zz.pick (lo' := [(0, .ref ob), (3, .int (a3)), (5, .int (x2)), (6, .int (0)), (7, .int (0))]) [0, 3, 5, 6, 7] rfl ?_
      exact bl_sets_112 X Y hml hr FU ⟨by omega, by omega⟩ h
    · have h := zn q h
      refine z_iload_n X dL_sets_200 rfl rfl ?_
      refine z_iconst (v := 2) X dL_sets_201 (by decide) ?_
      refine z_icmp_ne (tgt := 261) X dL_sets_202 (by decide) (fun q => ?_) (fun q => ?_)
      · have h := zp q h
        refine z_iconst (v := 1) X dL_sets_205 (by decide) ?_
        refine z_iload_n X dL_sets_206 rfl rfl ?_
        refine z_iload_n X dL_sets_207 rfl rfl ?_
        refine z_iconst (v := 3) X dL_sets_208 (by decide) ?_
        refine z_irem X dL_sets_209 (by decide) ?_
        refine z_if_ne (tgt := 218) X dL_sets_210 (by decide) (fun q => ?_) (fun q => ?_)
        · have h := zp q h
          refine z_bipush (v := 100) X dL_sets_213 (by decide) ?_
          refine z_goto (tgt := 220) X dL_sets_215 (by decide) ?_
          refine zz.pick (lo' := [(0, .ref ob)]) [0] rfl ?_
          exact bl_sets_220 X Y hml hr ⟨by omega, by omega⟩ h
        · have h := zn q h
          refine z_bipush (v := 9) X dL_sets_218 (by decide) ?_
          refine zz.pick (lo' := [(0, .ref ob)]) [0] rfl ?_
          exact bl_sets_220 X Y hml hr ⟨by omega, by omega⟩ h
      · have h := zn q h
        refine z_iload_n X dL_sets_261 rfl rfl ?_
        refine z_iconst (v := 3) X dL_sets_262 (by decide) ?_
        refine z_icmp_ne (tgt := 324) X dL_sets_263 (by decide) (fun q => ?_) (fun q => ?_)
        · have h := zp q h
          refine z_iload_n X dL_sets_266 rfl rfl ?_
          refine z_iconst (v := 3) X dL_sets_267 (by decide) ?_
          refine z_irem X dL_sets_268 (by decide) ?_
          refine z_if_ne (tgt := 276) X dL_sets_269 (by decide) (fun q => ?_) (fun q => ?_)
          · have h := zp q h
            refine z_iconst (v := (-1)) X dL_sets_272 (by decide) ?_
            refine z_goto (tgt := 283) X dL_sets_273 (by decide) ?_
            refine zz.pick (lo' := [(0, .ref ob), (2, .int (a2))]) [0, 2] rfl ?_
            exact bl_sets_283 X Y hml hr ⟨by omega, by omega⟩ h
          · have h := zn q h
            refine z_iload_n X dL_sets_276 rfl rfl ?_
            refine z_iconst (v := 3) X dL_sets_277 (by decide) ?_
            refine z_idiv X dL_sets_278 (by decide) ?_
            refine z_sipush (v := 800) X dL_sets_279 (by decide) ?_
            refine z_irem X dL_sets_282 (by decide) ?_
            refine zz.pick (lo' := [(0, .ref ob), (2, .int (a2))]) [0, 2] rfl ?_
            exact bl_sets_283 X Y hml hr ⟨by omega, by omega⟩ h
        · have h := zn q h
          refine z_iload_n X dL_sets_324 rfl rfl ?_
          refine z_iconst (v := 4) X dL_sets_325 (by decide) ?_
          refine z_icmp_ne (tgt := 404) X dL_sets_326 (by decide) (fun q => ?_) (fun q => ?_)
          · have h := zp q h
            refine z_aload_n X dL_sets_329 rfl rfl ?_
            refine z_iconst (v := 4) X dL_sets_330 (by decide) ?_
            refine z_iload_n X dL_sets_331 rfl rfl ?_
            refine z_bipush (v := 10) X dL_sets_332 (by decide) ?_
            refine z_irem X dL_sets_334 (by decide) ?_
            refine z_iload_n X dL_sets_335 rfl rfl ?_
            refine z_iconst (v := 4) X dL_sets_336 (by decide) ?_
            refine z_irem X dL_sets_337 (by decide) ?_
            refine z_iconst (v := 0) X dL_sets_338 (by decide) ?_
            obtain ⟨o3, co3, h⟩ := zb2 h
            obtain ⟨σ4, eσ4, h⟩ := zb h
            refine z_callWi (As := [.ref ob, .int (4), .int ((a2 - a2 / 10 * 10)), .int ((a3 - a3 / 4 * 4)), .int (0)]) (rest := []) (nA := 5) (mc := 3) (ms := 18) (rm := ({ frames := 15, cells := 3, slots := 18, locals := 630 } : Room)) (S := Unit) (post := fun r _ => r = o3.2 ∧ True) (G1 := fun _ => gw D dA A (o3.1, σ.2) ob ar) X Y.1 (la_setWallet l X.2.2.2.2.2.2.2.2 X.2.2.2.2.2.2.1 co3) n_390 n_391 n_0 n_392 nh_yL_asks ⟨rfl, rfl, Nat.le_of_ble_eq_true rfl, Nat.le_of_ble_eq_true rfl⟩ rfl rfl (Nat.le_of_ble_eq_true rfl) dL_sets_339 ⟨by show _ ≤ 6; omega, by show _ ≤ 1824; omega⟩ (fun r9 _ hr9 => ?_)
            obtain ⟨rfl, -⟩ := hr9
            rw [eσ4]
            obtain ⟨x5, ex5, h⟩ := zb h
            rw [ex5]
            refine z_istore (lo' := [(5, .int (x5)), (0, .ref ob), (1, .int (a1)), (2, .int (a2)), (3, .int (a3)), (4, .ref (ar 2))]) X dL_sets_342 (by rw [hml]; decide) rfl rfl ?_
            refine z_aload_n X dL_sets_344 rfl rfl ?_
            refine z_iload_n X dL_sets_345 rfl rfl ?_
            refine z_bipush (v := 10) X dL_sets_346 (by decide) ?_
            refine z_irem X dL_sets_348 (by decide) ?_
            obtain ⟨o6, co6, h⟩ := zb2 h
            refine l_q (As := [.int ((a2 - a2 / 10 * 10))]) (rest := []) (nA := 1) (mc := 0) (ms := 0) (rm := ({ frames := 7, cells := 0, slots := 0, locals := 294 } : Room)) (r0 := o6) X (fun _ h11 => cz_legOf l X.2.2.2.2.2.2.2.2 X.2.2.2.2.2.2.1 h11 (fun _ z => nomatch z) (qo_eq co6)) n_313 n_314 n_315 n_1 n_316 nh_yX11_legOf ⟨rfl, rfl, Nat.le_of_ble_eq_true rfl, Nat.le_of_ble_eq_true rfl⟩ rfl rfl (Nat.le_of_ble_eq_true rfl) dL_sets_349 ⟨by show _ ≤ 6; omega, by show _ ≤ 1824; omega⟩ ?_
            refine z_if_lt (tgt := 370) X dL_sets_352 (by decide) (fun q => ?_) (fun q => ?_)
            · have h := zp q h
              refine z_iload X dL_sets_370 rfl ?_
              refine z_if_lt (tgt := 402) X dL_sets_372 (by decide) (fun q => ?_) (fun q => ?_)
              · have h := zp q h
                refine z_iconst (v := 0) X dL_sets_402 (by decide) ?_
                obtain rfl := Option.some.inj h
                refine zz.widen (k := 6) (n := 1824) (by omega) (by omega) ?_
                exact z_iret X hr rfl (fun t hG hF _ => ⟨⟨_, (), rfl, ⟨rfl, trivial⟩, hG⟩, hF⟩) dL_sets_403
              · have h := zn q h
                refine z_iload X dL_sets_375 rfl ?_
                refine z_iconst (v := 4) X dL_sets_377 (by decide) ?_
                refine z_icmp_ge (tgt := 402) X dL_sets_378 (by decide) (fun q => ?_) (fun q => ?_)
                · have h := zp q h
                  refine z_iconst (v := 0) X dL_sets_402 (by decide) ?_
                  obtain rfl := Option.some.inj h
                  refine zz.widen (k := 6) (n := 1824) (by omega) (by omega) ?_
                  exact z_iret X hr rfl (fun t hG hF _ => ⟨⟨_, (), rfl, ⟨rfl, trivial⟩, hG⟩, hF⟩) dL_sets_403
                · have h := zn q h
                  refine z_aload_n X dL_sets_381 rfl rfl ?_
                  refine z_iload_n X dL_sets_382 rfl rfl ?_
                  refine z_bipush (v := 10) X dL_sets_383 (by decide) ?_
                  refine z_irem X dL_sets_385 (by decide) ?_
                  refine z_iload_n X dL_sets_386 rfl rfl ?_
                  refine z_iconst (v := 4) X dL_sets_387 (by decide) ?_
                  refine z_irem X dL_sets_388 (by decide) ?_
                  obtain ⟨o7, co7, h⟩ := zb2 h
                  obtain ⟨σ8, eσ8, h⟩ := zb h
                  obtain ⟨u9, ko7, jo7⟩ := vo_eq co7
                  refine l_v (As := [.int ((a2 - a2 / 10 * 10)), .int ((a3 - a3 / 4 * 4))]) (rest := []) (nA := 2) (mc := 3) (ms := 18) (rm := ({ frames := 7, cells := 3, slots := 18, locals := 294 } : Room)) (o := u9) X (fun _ h11 => cc_setWallet l X.2.2.2.2.2.2.2.2 X.2.2.2.2.2.2.1 h11 ko7) n_713 n_714 n_715 n_1 n_716 nh_yX11_setWallet ⟨rfl, rfl, Nat.le_of_ble_eq_true rfl, Nat.le_of_ble_eq_true rfl⟩ rfl rfl (Nat.le_of_ble_eq_true rfl) dL_sets_389 ⟨by show _ ≤ 6; omega, by show _ ≤ 1824; omega⟩ ?_
                  rw [show ((u9.1, σ4.1.2), σ4.2) = ((o7.1, σ4.2) : GS) by rw [jo7], show u9.2 = o7.2 by rw [jo7], eσ8]
                  refine z_iload_n X dL_sets_392 rfl rfl ?_
                  refine z_iconst (v := 4) X dL_sets_393 (by decide) ?_
                  refine z_irem X dL_sets_394 (by decide) ?_
                  refine z_icmp_ne (tgt := 402) X dL_sets_395 (by decide) (fun q => ?_) (fun q => ?_)
                  · have h := zp q h
                    refine z_iconst (v := 1) X dL_sets_398 (by decide) ?_
                    refine z_goto (tgt := 403) X dL_sets_399 (by decide) ?_
                    obtain rfl := Option.some.inj h
                    refine zz.widen (k := 6) (n := 1824) (by omega) (by omega) ?_
                    exact z_iret X hr rfl (fun t hG hF _ => ⟨⟨_, (), rfl, ⟨rfl, trivial⟩, hG⟩, hF⟩) dL_sets_403
                  · have h := zn q h
                    refine z_iconst (v := 0) X dL_sets_402 (by decide) ?_
                    obtain rfl := Option.some.inj h
                    refine zz.widen (k := 6) (n := 1824) (by omega) (by omega) ?_
                    exact z_iret X hr rfl (fun t hG hF _ => ⟨⟨_, (), rfl, ⟨rfl, trivial⟩, hG⟩, hF⟩) dL_sets_403
            · have h := zn q h
              refine z_iload X dL_sets_355 rfl ?_
              refine z_bipush (v := (-108)) X dL_sets_357 (by decide) ?_
              refine z_icmp_ne (tgt := 366) X dL_sets_359 (by decide) (fun q => ?_) (fun q => ?_)
              · have h := zp q h
                refine z_iconst (v := 1) X dL_sets_362 (by decide) ?_
                refine z_goto (tgt := 403) X dL_sets_363 (by decide) ?_
                obtain rfl := Option.some.inj h
                refine zz.widen (k := 6) (n := 1824) (by omega) (by omega) ?_
                exact z_iret X hr rfl (fun t hG hF _ => ⟨⟨_, (), rfl, ⟨rfl, trivial⟩, hG⟩, hF⟩) dL_sets_403
              · have h := zn q h
                refine z_iconst (v := 0) X dL_sets_366 (by decide) ?_
                refine z_goto (tgt := 403) X dL_sets_367 (by decide) ?_
                obtain rfl := Option.some.inj h
                refine zz.widen (k := 6) (n := 1824) (by omega) (by omega) ?_
                exact z_iret X hr rfl (fun t hG hF _ => ⟨⟨_, (), rfl, ⟨rfl, trivial⟩, hG⟩, hF⟩) dL_sets_403
          · have h := zn q h
            refine z_aload_n X dL_sets_404 rfl rfl ?_
            refine z_iconst (v := 5) X dL_sets_405 (by decide) ?_
            refine z_iload_n X dL_sets_406 rfl rfl ?_
            refine z_bipush (v := 8) X dL_sets_407 (by decide) ?_
            refine z_irem X dL_sets_409 (by decide) ?_
            refine z_iload_n X dL_sets_410 rfl rfl ?_
            refine z_iconst (v := 3) X dL_sets_411 (by decide) ?_
            refine z_irem X dL_sets_412 (by decide) ?_
            refine z_iconst (v := 0) X dL_sets_413 (by decide) ?_
            obtain ⟨o10, co10, h⟩ := zb2 h
            obtain ⟨σ11, eσ11, h⟩ := zb h
            refine z_callWi (As := [.ref ob, .int (5), .int ((a2 - a2 / 8 * 8)), .int ((a3 - a3 / 3 * 3)), .int (0)]) (rest := []) (nA := 5) (mc := 2) (ms := 12) (rm := ({ frames := 15, cells := 2, slots := 12, locals := 630 } : Room)) (S := Unit) (post := fun r _ => r = o10.2 ∧ True) (G1 := fun _ => gw D dA A (o10.1, σ.2) ob ar) X Y.1 (la_setZone l X.2.2.2.2.2.2.2.2 X.2.2.2.2.2.2.1 co10) n_390 n_391 n_0 n_392 nh_yL_asks ⟨rfl, rfl, Nat.le_of_ble_eq_true rfl, Nat.le_of_ble_eq_true rfl⟩ rfl rfl (Nat.le_of_ble_eq_true rfl) dL_sets_414 ⟨by show _ ≤ 6; omega, by show _ ≤ 1824; omega⟩ (fun r9 _ hr9 => ?_)
            obtain ⟨rfl, -⟩ := hr9
            rw [eσ11]
            obtain ⟨x12, ex12, h⟩ := zb h
            rw [ex12]
            refine z_istore (lo' := [(5, .int (x12)), (0, .ref ob), (1, .int (a1)), (2, .int (a2)), (3, .int (a3)), (4, .ref (ar 2))]) X dL_sets_417 (by rw [hml]; decide) rfl rfl ?_
            refine z_aload X dL_sets_419 rfl ?_
            refine z_iconst (v := 1) X dL_sets_421 (by decide) ?_
            refine l_ald X 2 rfl (by decide) dL_sets_422 ?_
            refine z_if_le (tgt := 441) X dL_sets_423 (by decide) (fun q => ?_) (fun q => ?_)
            · have h := zp q h
              refine z_iload X dL_sets_441 rfl ?_
              refine z_if_lt (tgt := 473) X dL_sets_443 (by decide) (fun q => ?_) (fun q => ?_)
              · have h := zp q h
                refine z_iconst (v := 0) X dL_sets_473 (by decide) ?_
                obtain rfl := Option.some.inj h
                refine zz.widen (k := 6) (n := 1824) (by omega) (by omega) ?_
                exact z_iret X hr rfl (fun t hG hF _ => ⟨⟨_, (), rfl, ⟨rfl, trivial⟩, hG⟩, hF⟩) dL_sets_474
              · have h := zn q h
                refine z_iload X dL_sets_446 rfl ?_
                refine z_iconst (v := 3) X dL_sets_448 (by decide) ?_
                refine z_icmp_ge (tgt := 473) X dL_sets_449 (by decide) (fun q => ?_) (fun q => ?_)
                · have h := zp q h
                  refine z_iconst (v := 0) X dL_sets_473 (by decide) ?_
                  obtain rfl := Option.some.inj h
                  refine zz.widen (k := 6) (n := 1824) (by omega) (by omega) ?_
                  exact z_iret X hr rfl (fun t hG hF _ => ⟨⟨_, (), rfl, ⟨rfl, trivial⟩, hG⟩, hF⟩) dL_sets_474
                · have h := zn q h
                  refine z_aload_n X dL_sets_452 rfl rfl ?_
                  refine z_iload_n X dL_sets_453 rfl rfl ?_
                  refine z_bipush (v := 8) X dL_sets_454 (by decide) ?_
                  refine z_irem X dL_sets_456 (by decide) ?_
                  refine z_iload_n X dL_sets_457 rfl rfl ?_
                  refine z_iconst (v := 3) X dL_sets_458 (by decide) ?_
                  refine z_irem X dL_sets_459 (by decide) ?_
                  obtain ⟨o13, co13, h⟩ := zb2 h
                  obtain ⟨σ14, eσ14, h⟩ := zb h
                  obtain ⟨u15, ko13, jo13⟩ := vo_eq co13
                  refine l_v (As := [.int ((a2 - a2 / 8 * 8)), .int ((a3 - a3 / 3 * 3))]) (rest := []) (nA := 2) (mc := 2) (ms := 12) (rm := ({ frames := 9, cells := 2, slots := 12, locals := 378 } : Room)) (o := u15) X (fun _ h11 => cc_setZone l X.2.2.2.2.2.2.2.2 X.2.2.2.2.2.2.1 h11 ko13) n_718 n_719 n_720 n_1 n_721 nh_yX11_setZone ⟨rfl, rfl, Nat.le_of_ble_eq_true rfl, Nat.le_of_ble_eq_true rfl⟩ rfl rfl (Nat.le_of_ble_eq_true rfl) dL_sets_460 ⟨by show _ ≤ 6; omega, by show _ ≤ 1824; omega⟩ ?_
                  rw [show ((u15.1, σ11.1.2), σ11.2) = ((o13.1, σ11.2) : GS) by rw [jo13], show u15.2 = o13.2 by rw [jo13], eσ14]
                  refine z_iload_n X dL_sets_463 rfl rfl ?_
                  refine z_iconst (v := 3) X dL_sets_464 (by decide) ?_
                  refine z_irem X dL_sets_465 (by decide) ?_
                  refine z_icmp_ne (tgt := 473) X dL_sets_466 (by decide) (fun q => ?_) (fun q => ?_)
                  · have h := zp q h
                    refine z_iconst (v := 1) X dL_sets_469 (by decide) ?_
                    refine z_goto (tgt := 474) X dL_sets_470 (by decide) ?_
                    obtain rfl := Option.some.inj h
                    refine zz.widen (k := 6) (n := 1824) (by omega) (by omega) ?_
                    exact z_iret X hr rfl (fun t hG hF _ => ⟨⟨_, (), rfl, ⟨rfl, trivial⟩, hG⟩, hF⟩) dL_sets_474
                  · have h := zn q h
                    refine z_iconst (v := 0) X dL_sets_473 (by decide) ?_
                    obtain rfl := Option.some.inj h
                    refine zz.widen (k := 6) (n := 1824) (by omega) (by omega) ?_
                    exact z_iret X hr rfl (fun t hG hF _ => ⟨⟨_, (), rfl, ⟨rfl, trivial⟩, hG⟩, hF⟩) dL_sets_474
            · have h := zn q h
              refine z_iload X dL_sets_426 rfl ?_
              refine z_bipush (v := (-108)) X dL_sets_428 (by decide) ?_
              refine z_icmp_ne (tgt := 437) X dL_sets_430 (by decide) (fun q => ?_) (fun q => ?_)
              · have h := zp q h
                refine z_iconst (v := 1) X dL_sets_433 (by decide) ?_
                refine z_goto (tgt := 474) X dL_sets_434 (by decide) ?_
                obtain rfl := Option.some.inj h
                refine zz.widen (k := 6) (n := 1824) (by omega) (by omega) ?_
                exact z_iret X hr rfl (fun t hG hF _ => ⟨⟨_, (), rfl, ⟨rfl, trivial⟩, hG⟩, hF⟩) dL_sets_474
              · have h := zn q h
                refine z_iconst (v := 0) X dL_sets_437 (by decide) ?_
                refine z_goto (tgt := 474) X dL_sets_438 (by decide) ?_
                obtain rfl := Option.some.inj h
                refine zz.widen (k := 6) (n := 1824) (by omega) (by omega) ?_
                exact z_iret X hr rfl (fun t hG hF _ => ⟨⟨_, (), rfl, ⟨rfl, trivial⟩, hG⟩, hF⟩) dL_sets_474
theorem ll_sets (l : Launch) {D : va_G} {dA : Nat → ClassId} {A : Nat → Prop} {n : Nat} {ar : Nat → Nat} {ob b Ls : Nat} {sc : Nat → Int32} (hst : l.stackTraces = false) (hA : ∀ q, n ≤ q → A q) (hbA : ¬ A b) {σ : GS} {a1 : Int32} {a2 : Int32} {a3 : Int32} {o : GS × Int32} (h : fl_sets σ a1 a2 a3 = some o) : Met l yL_sets (.code yL_sets cL_sets 8 (some .boolean) :: gT) ({ frames := 16, cells := 6, slots := 1824, locals := 672 } : Room) (va_Pc [.ref ob, .int (a1), .int (a2), .int (a3), .ref (ar 2)] (zBL D dA A n b Ls sc (gw D dA A σ ob ar))) (va_Qi (fun r (_ : Unit) => r = o.2 ∧ True) (fun _ t => gw D dA A o.1 ob ar t.heap) A) (6) (1824) A :=
  z_metL (by decide) hA hbA hst (Nat.le_of_ble_eq_true rfl) rfl rfl (fun p e s m below meth c X Y hml hr => bl_sets X Y hml hr ⟨by omega, by omega⟩ h)
