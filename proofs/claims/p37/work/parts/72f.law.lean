-- calls(LMeshBiller;III[I[I[I)Z
def fl_calls_75 (σ : GS) (v7 : Int32) (v8 : Int32) (v10 : Int32) : Option (GS × Int32) := (if v7 = v8 then (if v10 = (-109) then some (σ, 1)
  else some (σ, 0))
  else (if v10 = (-108) then some (σ, 1)
  else some (σ, 0)))
set_option maxRecDepth 100000 in
set_option maxHeartbeats 4000000 in
theorem bl_calls_75 {p : Program} {l : Launch} {e : Env} {s : State} {m : MethodId} {args : Array Value} {below : List Frame} {meth : Method} {c : Code} {D : va_G} {dA : Nat → ClassId} {A : Nat → Prop} {ar : Nat → Nat} {ob b Ls : Nat} {sc : Nat → Int32} {o : GS × Int32} (X : zc p l s m args meth c cL_calls RL D dA A) (Y : zY s A b Ls sc) (hml : c.maxLocals = 13) (hr : meth.sig.returnType = (some .boolean)) {cells slots : Nat} (hcs : cells + (0) ≤ 27 ∧ slots + (0) ≤ 13082) {σ : GS} {v7 : Int32} {v8 : Int32} {v10 : Int32} (h : fl_calls_75 σ v7 v8 v10 = some o) : zz p l e ({ frames := 16, cells := 27, slots := 13082, locals := 672 } : Room) s m args below meth c A (gw D dA A σ ob ar) cells slots (MQ below (va_Qi (fun r (_ : Unit) => r = o.2 ∧ True) (fun _ t => gw D dA A o.1 ob ar t.heap) A) args s (27) (13082) A) 75 [(7, .int (v7)), (8, .int (v8)), (10, .int (v10))] [] [] := by
  obtain ⟨hcs1, hcs2⟩ := hcs
  unfold fl_calls_75 at h
  refine z_iload X dL_calls_75 rfl ?_
  refine z_iload X dL_calls_77 rfl ?_
  refine z_iload X dL_calls_79 rfl ?_
  refine z_icmp_ne (tgt := 89) X dL_calls_81 (by decide) (fun q => ?_) (fun q => ?_)
  · have h := zp q h
    refine z_bipush (v := (-109)) X dL_calls_84 (by decide) ?_
    refine z_goto (tgt := 91) X dL_calls_86 (by decide) ?_
    refine z_icmp_ne (tgt := 98) X dL_calls_91 (by decide) (fun q => ?_) (fun q => ?_)
    · have h := zp q h
      refine z_iconst (v := 1) X dL_calls_94 (by decide) ?_
      refine z_goto (tgt := 99) X dL_calls_95 (by decide) ?_
      obtain rfl := Option.some.inj h
      refine zz.widen (k := 27) (n := 13082) (by omega) (by omega) ?_
      exact z_iret X hr rfl (fun t hG hF _ => ⟨⟨_, (), rfl, ⟨rfl, trivial⟩, hG⟩, hF⟩) dL_calls_99
    · have h := zn q h
      refine z_iconst (v := 0) X dL_calls_98 (by decide) ?_
      obtain rfl := Option.some.inj h
      refine zz.widen (k := 27) (n := 13082) (by omega) (by omega) ?_
      exact z_iret X hr rfl (fun t hG hF _ => ⟨⟨_, (), rfl, ⟨rfl, trivial⟩, hG⟩, hF⟩) dL_calls_99
  · have h := zn q h
    refine z_bipush (v := (-108)) X dL_calls_89 (by decide) ?_
    refine z_icmp_ne (tgt := 98) X dL_calls_91 (by decide) (fun q => ?_) (fun q => ?_)
    · have h := zp q h
      refine z_iconst (v := 1) X dL_calls_94 (by decide) ?_
      refine z_goto (tgt := 99) X dL_calls_95 (by decide) ?_
      obtain rfl := Option.some.inj h
      refine zz.widen (k := 27) (n := 13082) (by omega) (by omega) ?_
      exact z_iret X hr rfl (fun t hG hF _ => ⟨⟨_, (), rfl, ⟨rfl, trivial⟩, hG⟩, hF⟩) dL_calls_99
    · have h := zn q h
      refine z_iconst (v := 0) X dL_calls_98 (by decide) ?_
      obtain rfl := Option.some.inj h
      refine zz.widen (k := 27) (n := 13082) (by omega) (by omega) ?_
      exact z_iret X hr rfl (fun t hG hF _ => ⟨⟨_, (), rfl, ⟨rfl, trivial⟩, hG⟩, hF⟩) dL_calls_99
def fl_calls_39 (σ : GS) (v3 : Int32) (v7 : Int32) (v8 : Int32) (s0 : Int32) : Option (GS × Int32) := (ak_begin σ.1 (v7) (v8) (((v3 / 10) - (v3 / 10) / 2 * 2))).bind fun o1 => (some ((o1.1, σ.2) : GS)).bind fun σ2 => (some (o1.2)).bind fun x3 => (if v7 = v8 then fl_calls_75 σ2 v7 v8 x3
  else (if s0 = 0 then (if 0 ≤ x3 then (aq_cellOf σ2.1 (v7)).bind fun o4 => (fl_joins σ2 (v7) ((σ2.2 2 (1 : Int32).toNatClampNeg)) (o4)).bind fun o5 => (aq_cellOf o5.1 (v8)).bind fun o6 => (fl_joins o5 (v8) ((o5.2 2 (1 : Int32).toNatClampNeg)) (o6)).bind fun o7 => if (1 : Int32) < 0 ∨ 5 ≤ ((1 : Int32)).toNatClampNeg then none else (some ((o7.1, cs o7.2 2 ((1 : Int32)).toNatClampNeg (((o7.2 2 (1 : Int32).toNatClampNeg) + 1))) : GS)).bind fun σ8 => (if x3 = ((σ8.2 2 (1 : Int32).toNatClampNeg) - 1) then some (σ8, 1)
  else some (σ8, 0))
  else fl_calls_75 σ2 v7 v8 x3)
  else fl_calls_75 σ2 v7 v8 x3))
set_option maxRecDepth 100000 in
set_option maxHeartbeats 4000000 in
theorem bl_calls_39 {p : Program} {l : Launch} {e : Env} {s : State} {m : MethodId} {args : Array Value} {below : List Frame} {meth : Method} {c : Code} {D : va_G} {dA : Nat → ClassId} {A : Nat → Prop} {ar : Nat → Nat} {ob b Ls : Nat} {sc : Nat → Int32} {o : GS × Int32} (X : zc p l s m args meth c cL_calls RL D dA A) (Y : zY s A b Ls sc) (hml : c.maxLocals = 13) (hr : meth.sig.returnType = (some .boolean)) {cells slots : Nat} (hcs : cells + (27) ≤ 27 ∧ slots + (13082) ≤ 13082) {σ : GS} {v3 : Int32} {v7 : Int32} {v8 : Int32} {s0 : Int32} (h : fl_calls_39 σ v3 v7 v8 s0 = some o) : zz p l e ({ frames := 16, cells := 27, slots := 13082, locals := 672 } : Room) s m args below meth c A (gw D dA A σ ob ar) cells slots (MQ below (va_Qi (fun r (_ : Unit) => r = o.2 ∧ True) (fun _ t => gw D dA A o.1 ob ar t.heap) A) args s (27) (13082) A) 39 [(0, .ref ob), (3, .int (v3)), (4, .ref (ar 0)), (5, .ref (ar 1)), (6, .ref (ar 2)), (7, .int (v7)), (8, .int (v8))] [] [.int (s0)] := by
  obtain ⟨hcs1, hcs2⟩ := hcs
  unfold fl_calls_39 at h
  refine z_istore (lo' := [(9, .int (s0)), (0, .ref ob), (3, .int (v3)), (4, .ref (ar 0)), (5, .ref (ar 1)), (6, .ref (ar 2)), (7, .int (v7)), (8, .int (v8))]) X dL_calls_39 (by rw [hml]; decide) rfl rfl ?_
  refine z_aload_n X dL_calls_41 rfl rfl ?_
  refine z_iconst (v := 0) X dL_calls_42 (by decide) ?_
  refine z_iload X dL_calls_43 rfl ?_
  refine z_iload X dL_calls_45 rfl ?_
  refine z_iload_n X dL_calls_47 rfl rfl ?_
  refine z_bipush (v := 10) X dL_calls_48 (by decide) ?_
  refine z_idiv X dL_calls_50 (by decide) ?_
  refine z_iconst (v := 2) X dL_calls_51 (by decide) ?_
  refine z_irem X dL_calls_52 (by decide) ?_
  obtain ⟨o1, co1, h⟩ := zb2 h
  obtain ⟨σ2, eσ2, h⟩ := zb h
  refine z_callWi (As := [.ref ob, .int (0), .int (v7), .int (v8), .int (((v3 / 10) - (v3 / 10) / 2 * 2))]) (rest := []) (nA := 5) (mc := 27) (ms := 13082) (rm := ({ frames := 15, cells := 27, slots := 13082, locals := 630 } : Room)) (S := Unit) (post := fun r _ => r = o1.2 ∧ True) (G1 := fun _ => gw D dA A (o1.1, σ.2) ob ar) X Y.1 (la_begin l X.2.2.2.2.2.2.2.2 X.2.2.2.2.2.2.1 co1) n_390 n_391 n_0 n_392 nh_yL_asks ⟨rfl, rfl, Nat.le_of_ble_eq_true rfl, Nat.le_of_ble_eq_true rfl⟩ rfl rfl (Nat.le_of_ble_eq_true rfl) dL_calls_53 ⟨by show _ ≤ 27; omega, by show _ ≤ 13082; omega⟩ (fun r9 _ hr9 => ?_)
  obtain ⟨rfl, -⟩ := hr9
  rw [eσ2]
  obtain ⟨x3, ex3, h⟩ := zb h
  rw [ex3]
  refine z_istore (lo' := [(10, .int (x3)), (9, .int (s0)), (0, .ref ob), (3, .int (v3)), (4, .ref (ar 0)), (5, .ref (ar 1)), (6, .ref (ar 2)), (7, .int (v7)), (8, .int (v8))]) X dL_calls_56 (by rw [hml]; decide) rfl rfl ?_
  refine z_iload X dL_calls_58 rfl ?_
  refine z_iload X dL_calls_60 rfl ?_
  refine z_icmp_eq (tgt := 75) X dL_calls_62 (by decide) (fun q => ?_) (fun q => ?_)
  · have h := zp q h
    refine zz.pick (lo' := [(7, .int (v7)), (8, .int (v8)), (10, .int (x3))]) [7, 8, 10] rfl ?_
    exact bl_calls_75 X Y hml hr ⟨by omega, by omega⟩ h
  · have h := zn q h
    refine z_iload X dL_calls_65 rfl ?_
    refine z_if_ne (tgt := 75) X dL_calls_67 (by decide) (fun q => ?_) (fun q => ?_)
    · have h := zp q h
      refine z_iload X dL_calls_70 rfl ?_
      refine z_if_ge (tgt := 100) X dL_calls_72 (by decide) (fun q => ?_) (fun q => ?_)
      · have h := zp q h
        refine z_aload X dL_calls_100 rfl ?_
        refine z_aload X dL_calls_102 rfl ?_
        refine z_aload X dL_calls_104 rfl ?_
        refine z_iload X dL_calls_106 rfl ?_
        refine z_aload X dL_calls_108 rfl ?_
        refine z_iconst (v := 1) X dL_calls_110 (by decide) ?_
        refine l_ald X 2 rfl (by decide) dL_calls_111 ?_
        refine z_aload_n X dL_calls_112 rfl rfl ?_
        refine z_iload X dL_calls_113 rfl ?_
        obtain ⟨o4, co4, h⟩ := zb2 h
        refine l_q (As := [.int (v7)]) (rest := [.int ((σ2.2 2 (1 : Int32).toNatClampNeg)), .int (v7), .ref (ar 2), .ref (ar 1), .ref (ar 0)]) (nA := 1) (mc := 0) (ms := 0) (rm := ({ frames := 7, cells := 0, slots := 0, locals := 294 } : Room)) (r0 := o4) X (fun _ h11 => cz_cellOf l X.2.2.2.2.2.2.2.2 X.2.2.2.2.2.2.1 h11 (fun _ z => nomatch z) (qo_eq co4)) n_761 n_762 n_763 n_1 n_764 nh_yX11_cellOf ⟨rfl, rfl, Nat.le_of_ble_eq_true rfl, Nat.le_of_ble_eq_true rfl⟩ rfl rfl (Nat.le_of_ble_eq_true rfl) dL_calls_115 ⟨by show _ ≤ 27; omega, by show _ ≤ 13082; omega⟩ ?_
        obtain ⟨o5, co5, h⟩ := zb2 h
        refine z_lSv (As := [.ref (ar 0), .ref (ar 1), .ref (ar 2), .int (v7), .int ((σ2.2 2 (1 : Int32).toNatClampNeg)), .int (o4)]) (rest := []) (nA := 6) (mc := 0) (ms := 0) (pu := fun (_ : Unit) => True) (G1 := fun _ => gw D dA A o5 ob ar) X Y (ll_joins l X.2.2.2.2.2.2.2.2 X.2.2.2.2.2.2.1 Y.2.2.2 co5) n_765 n_766 n_0 n_767 nh_yL_joins ⟨rfl, rfl, Nat.le_of_ble_eq_true rfl, Nat.le_of_ble_eq_true rfl⟩ rfl rfl (Nat.le_of_ble_eq_true rfl) dL_calls_118 ⟨by show _ ≤ 27; omega, by show _ ≤ 13082; omega⟩ (fun _ _ => ?_)
        refine z_aload X dL_calls_121 rfl ?_
        refine z_aload X dL_calls_123 rfl ?_
        refine z_aload X dL_calls_125 rfl ?_
        refine z_iload X dL_calls_127 rfl ?_
        refine z_aload X dL_calls_129 rfl ?_
        refine z_iconst (v := 1) X dL_calls_131 (by decide) ?_
        refine l_ald X 2 rfl (by decide) dL_calls_132 ?_
        refine z_aload_n X dL_calls_133 rfl rfl ?_
        refine z_iload X dL_calls_134 rfl ?_
        obtain ⟨o6, co6, h⟩ := zb2 h
        refine l_q (As := [.int (v8)]) (rest := [.int ((o5.2 2 (1 : Int32).toNatClampNeg)), .int (v8), .ref (ar 2), .ref (ar 1), .ref (ar 0)]) (nA := 1) (mc := 0) (ms := 0) (rm := ({ frames := 7, cells := 0, slots := 0, locals := 294 } : Room)) (r0 := o6) X (fun _ h11 => cz_cellOf l X.2.2.2.2.2.2.2.2 X.2.2.2.2.2.2.1 h11 (fun _ z => nomatch z) (qo_eq co6)) n_761 n_762 n_763 n_1 n_764 nh_yX11_cellOf ⟨rfl, rfl, Nat.le_of_ble_eq_true rfl, Nat.le_of_ble_eq_true rfl⟩ rfl rfl (Nat.le_of_ble_eq_true rfl) dL_calls_136 ⟨by show _ ≤ 27; omega, by show _ ≤ 13082; omega⟩ ?_
        obtain ⟨o7, co7, h⟩ := zb2 h
        refine z_lSv (As := [.ref (ar 0), .ref (ar 1), .ref (ar 2), .int (v8), .int ((o5.2 2 (1 : Int32).toNatClampNeg)), .int (o6)]) (rest := []) (nA := 6) (mc := 0) (ms := 0) (pu := fun (_ : Unit) => True) (G1 := fun _ => gw D dA A o7 ob ar) X Y (ll_joins l X.2.2.2.2.2.2.2.2 X.2.2.2.2.2.2.1 Y.2.2.2 co7) n_765 n_766 n_0 n_767 nh_yL_joins ⟨rfl, rfl, Nat.le_of_ble_eq_true rfl, Nat.le_of_ble_eq_true rfl⟩ rfl rfl (Nat.le_of_ble_eq_true rfl) dL_calls_139 ⟨by show _ ≤ 27; omega, by show _ ≤ 13082; omega⟩ (fun _ _ => ?_)
        refine z_aload X dL_calls_142 rfl ?_
        refine z_iconst (v := 1) X dL_calls_144 (by decide) ?_
        refine z_dup2 X dL_calls_145 rfl rfl ?_
        refine l_ald X 2 rfl (by decide) dL_calls_146 ?_
        refine z_iconst (v := 1) X dL_calls_147 (by decide) ?_
        refine z_iadd X dL_calls_148 ?_
        obtain ⟨q9, h⟩ := zg h
        obtain ⟨σ8, eσ8, h⟩ := zb h
        refine l_ast X 2 rfl q9 eσ8 dL_calls_149 ?_
        refine z_iload X dL_calls_150 rfl ?_
        refine z_aload X dL_calls_152 rfl ?_
        refine z_iconst (v := 1) X dL_calls_154 (by decide) ?_
        refine l_ald X 2 rfl (by decide) dL_calls_155 ?_
        refine z_iconst (v := 1) X dL_calls_156 (by decide) ?_
        refine z_isub X dL_calls_157 ?_
        refine z_icmp_ne (tgt := 165) X dL_calls_158 (by decide) (fun q => ?_) (fun q => ?_)
        · have h := zp q h
          refine z_iconst (v := 1) X dL_calls_161 (by decide) ?_
          refine z_goto (tgt := 166) X dL_calls_162 (by decide) ?_
          obtain rfl := Option.some.inj h
          refine zz.widen (k := 27) (n := 13082) (by omega) (by omega) ?_
          exact z_iret X hr rfl (fun t hG hF _ => ⟨⟨_, (), rfl, ⟨rfl, trivial⟩, hG⟩, hF⟩) dL_calls_166
        · have h := zn q h
          refine z_iconst (v := 0) X dL_calls_165 (by decide) ?_
          obtain rfl := Option.some.inj h
          refine zz.widen (k := 27) (n := 13082) (by omega) (by omega) ?_
          exact z_iret X hr rfl (fun t hG hF _ => ⟨⟨_, (), rfl, ⟨rfl, trivial⟩, hG⟩, hF⟩) dL_calls_166
      · have h := zn q h
        refine zz.pick (lo' := [(7, .int (v7)), (8, .int (v8)), (10, .int (x3))]) [7, 8, 10] rfl ?_
        exact bl_calls_75 X Y hml hr ⟨by omega, by omega⟩ h
    · have h := zn q h
      refine zz.pick (lo' := [(7, .int (v7)), (8, .int (v8)), (10, .int (x3))]) [7, 8, 10] rfl ?_
      exact bl_calls_75 X Y hml hr ⟨by omega, by omega⟩ h
def fl_calls_34 (σ : GS) (v3 : Int32) (v7 : Int32) (v8 : Int32) : Option (GS × Int32) := fl_calls_39 σ v3 v7 v8 1
set_option maxRecDepth 100000 in
set_option maxHeartbeats 4000000 in
theorem bl_calls_34 {p : Program} {l : Launch} {e : Env} {s : State} {m : MethodId} {args : Array Value} {below : List Frame} {meth : Method} {c : Code} {D : va_G} {dA : Nat → ClassId} {A : Nat → Prop} {ar : Nat → Nat} {ob b Ls : Nat} {sc : Nat → Int32} {o : GS × Int32} (X : zc p l s m args meth c cL_calls RL D dA A) (Y : zY s A b Ls sc) (hml : c.maxLocals = 13) (hr : meth.sig.returnType = (some .boolean)) {cells slots : Nat} (hcs : cells + (27) ≤ 27 ∧ slots + (13082) ≤ 13082) {σ : GS} {v3 : Int32} {v7 : Int32} {v8 : Int32} (h : fl_calls_34 σ v3 v7 v8 = some o) : zz p l e ({ frames := 16, cells := 27, slots := 13082, locals := 672 } : Room) s m args below meth c A (gw D dA A σ ob ar) cells slots (MQ below (va_Qi (fun r (_ : Unit) => r = o.2 ∧ True) (fun _ t => gw D dA A o.1 ob ar t.heap) A) args s (27) (13082) A) 34 [(0, .ref ob), (3, .int (v3)), (4, .ref (ar 0)), (5, .ref (ar 1)), (6, .ref (ar 2)), (7, .int (v7)), (8, .int (v8))] [] [] := by
  obtain ⟨hcs1, hcs2⟩ := hcs
  unfold fl_calls_34 at h
  refine z_iconst (v := 1) X dL_calls_34 (by decide) ?_
  refine z_goto (tgt := 39) X dL_calls_35 (by decide) ?_
  refine zz.pick (lo' := [(0, .ref ob), (3, .int (v3)), (4, .ref (ar 0)), (5, .ref (ar 1)), (6, .ref (ar 2)), (7, .int (v7)), (8, .int (v8))]) [0, 3, 4, 5, 6, 7, 8] rfl ?_
  exact bl_calls_39 X Y hml hr ⟨by omega, by omega⟩ h
def fl_calls_345 (σ : GS) (v11 : Int32) (s0 : Int32) (s1 : Int32) (s2 : Int32) : Option (GS × Int32) := (if s0 = (s1 + s2) then (aq_stateOf σ.1 (v11)).bind fun o1 => (if o1 = 0 then some (σ, 1)
  else (aq_stateOf σ.1 (v11)).bind fun o2 => (if o2 = 2 then some (σ, 1)
  else some (σ, 0)))
  else some (σ, 0))
set_option maxRecDepth 100000 in
set_option maxHeartbeats 4000000 in
theorem bl_calls_345 {p : Program} {l : Launch} {e : Env} {s : State} {m : MethodId} {args : Array Value} {below : List Frame} {meth : Method} {c : Code} {D : va_G} {dA : Nat → ClassId} {A : Nat → Prop} {ar : Nat → Nat} {ob b Ls : Nat} {sc : Nat → Int32} {o : GS × Int32} (X : zc p l s m args meth c cL_calls RL D dA A) (Y : zY s A b Ls sc) (hml : c.maxLocals = 13) (hr : meth.sig.returnType = (some .boolean)) {cells slots : Nat} (hcs : cells + (0) ≤ 27 ∧ slots + (0) ≤ 13082) {σ : GS} {v11 : Int32} {s0 : Int32} {s1 : Int32} {s2 : Int32} (h : fl_calls_345 σ v11 s0 s1 s2 = some o) : zz p l e ({ frames := 16, cells := 27, slots := 13082, locals := 672 } : Room) s m args below meth c A (gw D dA A σ ob ar) cells slots (MQ below (va_Qi (fun r (_ : Unit) => r = o.2 ∧ True) (fun _ t => gw D dA A o.1 ob ar t.heap) A) args s (27) (13082) A) 345 [(0, .ref ob), (11, .int (v11))] [] [.int (s2), .int (s1), .int (s0)] := by
  obtain ⟨hcs1, hcs2⟩ := hcs
  unfold fl_calls_345 at h
  refine z_iadd X dL_calls_345 ?_
  refine z_icmp_ne (tgt := 372) X dL_calls_346 (by decide) (fun q => ?_) (fun q => ?_)
  · have h := zp q h
    refine z_aload_n X dL_calls_349 rfl rfl ?_
    refine z_iload X dL_calls_350 rfl ?_
    obtain ⟨o1, co1, h⟩ := zb2 h
    refine l_q (As := [.int (v11)]) (rest := []) (nA := 1) (mc := 0) (ms := 0) (rm := ({ frames := 10, cells := 0, slots := 0, locals := 420 } : Room)) (r0 := o1) X (fun _ h11 => cz_stateOf l X.2.2.2.2.2.2.2.2 X.2.2.2.2.2.2.1 h11 (fun _ z => nomatch z) (qo_eq co1)) n_775 n_776 n_777 n_1 n_778 nh_yX11_stateOf ⟨rfl, rfl, Nat.le_of_ble_eq_true rfl, Nat.le_of_ble_eq_true rfl⟩ rfl rfl (Nat.le_of_ble_eq_true rfl) dL_calls_352 ⟨by show _ ≤ 27; omega, by show _ ≤ 13082; omega⟩ ?_
    refine z_if_eq (tgt := 368) X dL_calls_355 (by decide) (fun q => ?_) (fun q => ?_)
    · have h := zp q h
      refine z_iconst (v := 1) X dL_calls_368 (by decide) ?_
      refine z_goto (tgt := 373) X dL_calls_369 (by decide) ?_
      obtain rfl := Option.some.inj h
      refine zz.widen (k := 27) (n := 13082) (by omega) (by omega) ?_
      exact z_iret X hr rfl (fun t hG hF _ => ⟨⟨_, (), rfl, ⟨rfl, trivial⟩, hG⟩, hF⟩) dL_calls_373
    · have h := zn q h
      refine z_aload_n X dL_calls_358 rfl rfl ?_
      refine z_iload X dL_calls_359 rfl ?_
      obtain ⟨o2, co2, h⟩ := zb2 h
      refine l_q (As := [.int (v11)]) (rest := []) (nA := 1) (mc := 0) (ms := 0) (rm := ({ frames := 10, cells := 0, slots := 0, locals := 420 } : Room)) (r0 := o2) X (fun _ h11 => cz_stateOf l X.2.2.2.2.2.2.2.2 X.2.2.2.2.2.2.1 h11 (fun _ z => nomatch z) (qo_eq co2)) n_775 n_776 n_777 n_1 n_778 nh_yX11_stateOf ⟨rfl, rfl, Nat.le_of_ble_eq_true rfl, Nat.le_of_ble_eq_true rfl⟩ rfl rfl (Nat.le_of_ble_eq_true rfl) dL_calls_361 ⟨by show _ ≤ 27; omega, by show _ ≤ 13082; omega⟩ ?_
      refine z_iconst (v := 2) X dL_calls_364 (by decide) ?_
      refine z_icmp_ne (tgt := 372) X dL_calls_365 (by decide) (fun q => ?_) (fun q => ?_)
      · have h := zp q h
        refine z_iconst (v := 1) X dL_calls_368 (by decide) ?_
        refine z_goto (tgt := 373) X dL_calls_369 (by decide) ?_
        obtain rfl := Option.some.inj h
        refine zz.widen (k := 27) (n := 13082) (by omega) (by omega) ?_
        exact z_iret X hr rfl (fun t hG hF _ => ⟨⟨_, (), rfl, ⟨rfl, trivial⟩, hG⟩, hF⟩) dL_calls_373
      · have h := zn q h
        refine z_iconst (v := 0) X dL_calls_372 (by decide) ?_
        obtain rfl := Option.some.inj h
        refine zz.widen (k := 27) (n := 13082) (by omega) (by omega) ?_
        exact z_iret X hr rfl (fun t hG hF _ => ⟨⟨_, (), rfl, ⟨rfl, trivial⟩, hG⟩, hF⟩) dL_calls_373
  · have h := zn q h
    refine z_iconst (v := 0) X dL_calls_372 (by decide) ?_
    obtain rfl := Option.some.inj h
    refine zz.widen (k := 27) (n := 13082) (by omega) (by omega) ?_
    exact z_iret X hr rfl (fun t hG hF _ => ⟨⟨_, (), rfl, ⟨rfl, trivial⟩, hG⟩, hF⟩) dL_calls_373
def fl_calls_241 (σ : GS) (v3 : Int32) (v7 : Int32) (v8 : Int32) (v9 : Int32) (s0 : Int32) : Option (GS × Int32) := (ak_join σ.1 (v7) (v8) (((v3 / 4) - (v3 / 4) / 2 * 2))).bind fun o1 => (some ((o1.1, σ.2) : GS)).bind fun σ2 => (some (o1.2)).bind fun x3 => (if 0 ≤ x3 then (aq_cellOf σ2.1 (v7)).bind fun o4 => (fl_joins σ2 (v7) (v8) (o4)).bind fun o5 => (if s0 = 0 then (if x3 = ((o5.2 2 (2 : Int32).toNatClampNeg) - 1) then (aq_parties o5.1 (v8)).bind fun o6 => (aq_stateOf o5.1 (x3)).bind fun o7 => (if o7 = 0 then fl_calls_345 o5 x3 o6 v9 1
  else fl_calls_345 o5 x3 o6 v9 0)
  else some (o5, 0))
  else some (o5, 0))
  else (if x3 = (-108) then (aq_parties σ2.1 (v8)).bind fun o8 => (if o8 = v9 then some (σ2, 1)
  else some (σ2, 0))
  else some (σ2, 0)))
set_option maxRecDepth 100000 in
set_option maxHeartbeats 4000000 in
theorem bl_calls_241 {p : Program} {l : Launch} {e : Env} {s : State} {m : MethodId} {args : Array Value} {below : List Frame} {meth : Method} {c : Code} {D : va_G} {dA : Nat → ClassId} {A : Nat → Prop} {ar : Nat → Nat} {ob b Ls : Nat} {sc : Nat → Int32} {o : GS × Int32} (X : zc p l s m args meth c cL_calls RL D dA A) (Y : zY s A b Ls sc) (hml : c.maxLocals = 13) (hr : meth.sig.returnType = (some .boolean)) {cells slots : Nat} (hcs : cells + (13) ≤ 27 ∧ slots + (5789) ≤ 13082) {σ : GS} {v3 : Int32} {v7 : Int32} {v8 : Int32} {v9 : Int32} {s0 : Int32} (h : fl_calls_241 σ v3 v7 v8 v9 s0 = some o) : zz p l e ({ frames := 16, cells := 27, slots := 13082, locals := 672 } : Room) s m args below meth c A (gw D dA A σ ob ar) cells slots (MQ below (va_Qi (fun r (_ : Unit) => r = o.2 ∧ True) (fun _ t => gw D dA A o.1 ob ar t.heap) A) args s (27) (13082) A) 241 [(0, .ref ob), (3, .int (v3)), (4, .ref (ar 0)), (5, .ref (ar 1)), (6, .ref (ar 2)), (7, .int (v7)), (8, .int (v8)), (9, .int (v9))] [] [.int (s0)] := by
  obtain ⟨hcs1, hcs2⟩ := hcs
  unfold fl_calls_241 at h
  refine z_istore (lo' := [(10, .int (s0)), (0, .ref ob), (3, .int (v3)), (4, .ref (ar 0)), (5, .ref (ar 1)), (6, .ref (ar 2)), (7, .int (v7)), (8, .int (v8)), (9, .int (v9))]) X dL_calls_241 (by rw [hml]; decide) rfl rfl ?_
  refine z_aload_n X dL_calls_243 rfl rfl ?_
  refine z_iconst (v := 1) X dL_calls_244 (by decide) ?_
  refine z_iload X dL_calls_245 rfl ?_
  refine z_iload X dL_calls_247 rfl ?_
  refine z_iload_n X dL_calls_249 rfl rfl ?_
  refine z_iconst (v := 4) X dL_calls_250 (by decide) ?_
  refine z_idiv X dL_calls_251 (by decide) ?_
  refine z_iconst (v := 2) X dL_calls_252 (by decide) ?_
  refine z_irem X dL_calls_253 (by decide) ?_
  obtain ⟨o1, co1, h⟩ := zb2 h
  obtain ⟨σ2, eσ2, h⟩ := zb h
  refine z_callWi (As := [.ref ob, .int (1), .int (v7), .int (v8), .int (((v3 / 4) - (v3 / 4) / 2 * 2))]) (rest := []) (nA := 5) (mc := 13) (ms := 5789) (rm := ({ frames := 15, cells := 13, slots := 5789, locals := 630 } : Room)) (S := Unit) (post := fun r _ => r = o1.2 ∧ True) (G1 := fun _ => gw D dA A (o1.1, σ.2) ob ar) X Y.1 (la_join l X.2.2.2.2.2.2.2.2 X.2.2.2.2.2.2.1 co1) n_390 n_391 n_0 n_392 nh_yL_asks ⟨rfl, rfl, Nat.le_of_ble_eq_true rfl, Nat.le_of_ble_eq_true rfl⟩ rfl rfl (Nat.le_of_ble_eq_true rfl) dL_calls_254 ⟨by show _ ≤ 27; omega, by show _ ≤ 13082; omega⟩ (fun r9 _ hr9 => ?_)
  obtain ⟨rfl, -⟩ := hr9
  rw [eσ2]
  obtain ⟨x3, ex3, h⟩ := zb h
  rw [ex3]
  refine z_istore (lo' := [(11, .int (x3)), (10, .int (s0)), (0, .ref ob), (3, .int (v3)), (4, .ref (ar 0)), (5, .ref (ar 1)), (6, .ref (ar 2)), (7, .int (v7)), (8, .int (v8)), (9, .int (v9))]) X dL_calls_257 (by rw [hml]; decide) rfl rfl ?_
  refine z_iload X dL_calls_259 rfl ?_
  refine z_if_ge (tgt := 288) X dL_calls_261 (by decide) (fun q => ?_) (fun q => ?_)
  · have h := zp q h
    refine z_aload X dL_calls_288 rfl ?_
    refine z_aload X dL_calls_290 rfl ?_
    refine z_aload X dL_calls_292 rfl ?_
    refine z_iload X dL_calls_294 rfl ?_
    refine z_iload X dL_calls_296 rfl ?_
    refine z_aload_n X dL_calls_298 rfl rfl ?_
    refine z_iload X dL_calls_299 rfl ?_
    obtain ⟨o4, co4, h⟩ := zb2 h
    refine l_q (As := [.int (v7)]) (rest := [.int (v8), .int (v7), .ref (ar 2), .ref (ar 1), .ref (ar 0)]) (nA := 1) (mc := 0) (ms := 0) (rm := ({ frames := 7, cells := 0, slots := 0, locals := 294 } : Room)) (r0 := o4) X (fun _ h11 => cz_cellOf l X.2.2.2.2.2.2.2.2 X.2.2.2.2.2.2.1 h11 (fun _ z => nomatch z) (qo_eq co4)) n_761 n_762 n_763 n_1 n_764 nh_yX11_cellOf ⟨rfl, rfl, Nat.le_of_ble_eq_true rfl, Nat.le_of_ble_eq_true rfl⟩ rfl rfl (Nat.le_of_ble_eq_true rfl) dL_calls_301 ⟨by show _ ≤ 27; omega, by show _ ≤ 13082; omega⟩ ?_
    obtain ⟨o5, co5, h⟩ := zb2 h
    refine z_lSv (As := [.ref (ar 0), .ref (ar 1), .ref (ar 2), .int (v7), .int (v8), .int (o4)]) (rest := []) (nA := 6) (mc := 0) (ms := 0) (pu := fun (_ : Unit) => True) (G1 := fun _ => gw D dA A o5 ob ar) X Y (ll_joins l X.2.2.2.2.2.2.2.2 X.2.2.2.2.2.2.1 Y.2.2.2 co5) n_765 n_766 n_0 n_767 nh_yL_joins ⟨rfl, rfl, Nat.le_of_ble_eq_true rfl, Nat.le_of_ble_eq_true rfl⟩ rfl rfl (Nat.le_of_ble_eq_true rfl) dL_calls_304 ⟨by show _ ≤ 27; omega, by show _ ≤ 13082; omega⟩ (fun _ _ => ?_)
    refine z_iload X dL_calls_307 rfl ?_
    refine z_if_ne (tgt := 372) X dL_calls_309 (by decide) (fun q => ?_) (fun q => ?_)
    · have h := zp q h
      refine z_iload X dL_calls_312 rfl ?_
      refine z_aload X dL_calls_314 rfl ?_
      refine z_iconst (v := 2) X dL_calls_316 (by decide) ?_
      refine l_ald X 2 rfl (by decide) dL_calls_317 ?_
      refine z_iconst (v := 1) X dL_calls_318 (by decide) ?_
      refine z_isub X dL_calls_319 ?_
      refine z_icmp_ne (tgt := 372) X dL_calls_320 (by decide) (fun q => ?_) (fun q => ?_)
      · have h := zp q h
        refine z_aload_n X dL_calls_323 rfl rfl ?_
        refine z_iload X dL_calls_324 rfl ?_
        obtain ⟨o6, co6, h⟩ := zb2 h
        refine l_q (As := [.int (v8)]) (rest := []) (nA := 1) (mc := 0) (ms := 0) (rm := ({ frames := 10, cells := 0, slots := 0, locals := 420 } : Room)) (r0 := o6) X (fun _ h11 => cz_parties l X.2.2.2.2.2.2.2.2 X.2.2.2.2.2.2.1 h11 (fun _ z => nomatch z) (qo_eq co6)) n_771 n_772 n_773 n_1 n_774 nh_yX11_parties ⟨rfl, rfl, Nat.le_of_ble_eq_true rfl, Nat.le_of_ble_eq_true rfl⟩ rfl rfl (Nat.le_of_ble_eq_true rfl) dL_calls_326 ⟨by show _ ≤ 27; omega, by show _ ≤ 13082; omega⟩ ?_
        refine z_iload X dL_calls_329 rfl ?_
        refine z_aload_n X dL_calls_331 rfl rfl ?_
        refine z_iload X dL_calls_332 rfl ?_
        obtain ⟨o7, co7, h⟩ := zb2 h
        refine l_q (As := [.int (x3)]) (rest := [.int (v9), .int (o6)]) (nA := 1) (mc := 0) (ms := 0) (rm := ({ frames := 10, cells := 0, slots := 0, locals := 420 } : Room)) (r0 := o7) X (fun _ h11 => cz_stateOf l X.2.2.2.2.2.2.2.2 X.2.2.2.2.2.2.1 h11 (fun _ z => nomatch z) (qo_eq co7)) n_775 n_776 n_777 n_1 n_778 nh_yX11_stateOf ⟨rfl, rfl, Nat.le_of_ble_eq_true rfl, Nat.le_of_ble_eq_true rfl⟩ rfl rfl (Nat.le_of_ble_eq_true rfl) dL_calls_334 ⟨by show _ ≤ 27; omega, by show _ ≤ 13082; omega⟩ ?_
        refine z_if_ne (tgt := 344) X dL_calls_337 (by decide) (fun q => ?_) (fun q => ?_)
        · have h := zp q h
          refine z_iconst (v := 1) X dL_calls_340 (by decide) ?_
          refine z_goto (tgt := 345) X dL_calls_341 (by decide) ?_
          refine zz.pick (lo' := [(0, .ref ob), (11, .int (x3))]) [0, 11] rfl ?_
          exact bl_calls_345 X Y hml hr ⟨by omega, by omega⟩ h
        · have h := zn q h
          refine z_iconst (v := 0) X dL_calls_344 (by decide) ?_
          refine zz.pick (lo' := [(0, .ref ob), (11, .int (x3))]) [0, 11] rfl ?_
          exact bl_calls_345 X Y hml hr ⟨by omega, by omega⟩ h
      · have h := zn q h
        refine z_iconst (v := 0) X dL_calls_372 (by decide) ?_
        obtain rfl := Option.some.inj h
        refine zz.widen (k := 27) (n := 13082) (by omega) (by omega) ?_
        exact z_iret X hr rfl (fun t hG hF _ => ⟨⟨_, (), rfl, ⟨rfl, trivial⟩, hG⟩, hF⟩) dL_calls_373
    · have h := zn q h
      refine z_iconst (v := 0) X dL_calls_372 (by decide) ?_
      obtain rfl := Option.some.inj h
      refine zz.widen (k := 27) (n := 13082) (by omega) (by omega) ?_
      exact z_iret X hr rfl (fun t hG hF _ => ⟨⟨_, (), rfl, ⟨rfl, trivial⟩, hG⟩, hF⟩) dL_calls_373
  · have h := zn q h
    refine z_iload X dL_calls_264 rfl ?_
    refine z_bipush (v := (-108)) X dL_calls_266 (by decide) ?_
    refine z_icmp_ne (tgt := 286) X dL_calls_268 (by decide) (fun q => ?_) (fun q => ?_)
    · have h := zp q h
      refine z_aload_n X dL_calls_271 rfl rfl ?_
      refine z_iload X dL_calls_272 rfl ?_
      obtain ⟨o8, co8, h⟩ := zb2 h
      refine l_q (As := [.int (v8)]) (rest := []) (nA := 1) (mc := 0) (ms := 0) (rm := ({ frames := 10, cells := 0, slots := 0, locals := 420 } : Room)) (r0 := o8) X (fun _ h11 => cz_parties l X.2.2.2.2.2.2.2.2 X.2.2.2.2.2.2.1 h11 (fun _ z => nomatch z) (qo_eq co8)) n_771 n_772 n_773 n_1 n_774 nh_yX11_parties ⟨rfl, rfl, Nat.le_of_ble_eq_true rfl, Nat.le_of_ble_eq_true rfl⟩ rfl rfl (Nat.le_of_ble_eq_true rfl) dL_calls_274 ⟨by show _ ≤ 27; omega, by show _ ≤ 13082; omega⟩ ?_
      refine z_iload X dL_calls_277 rfl ?_
      refine z_icmp_ne (tgt := 286) X dL_calls_279 (by decide) (fun q => ?_) (fun q => ?_)
      · have h := zp q h
        refine z_iconst (v := 1) X dL_calls_282 (by decide) ?_
        refine z_goto (tgt := 287) X dL_calls_283 (by decide) ?_
        obtain rfl := Option.some.inj h
        refine zz.widen (k := 27) (n := 13082) (by omega) (by omega) ?_
        exact z_iret X hr rfl (fun t hG hF _ => ⟨⟨_, (), rfl, ⟨rfl, trivial⟩, hG⟩, hF⟩) dL_calls_287
      · have h := zn q h
        refine z_iconst (v := 0) X dL_calls_286 (by decide) ?_
        obtain rfl := Option.some.inj h
        refine zz.widen (k := 27) (n := 13082) (by omega) (by omega) ?_
        exact z_iret X hr rfl (fun t hG hF _ => ⟨⟨_, (), rfl, ⟨rfl, trivial⟩, hG⟩, hF⟩) dL_calls_287
    · have h := zn q h
      refine z_iconst (v := 0) X dL_calls_286 (by decide) ?_
      obtain rfl := Option.some.inj h
      refine zz.widen (k := 27) (n := 13082) (by omega) (by omega) ?_
      exact z_iret X hr rfl (fun t hG hF _ => ⟨⟨_, (), rfl, ⟨rfl, trivial⟩, hG⟩, hF⟩) dL_calls_287
def fl_calls_236 (σ : GS) (v3 : Int32) (v7 : Int32) (v8 : Int32) (v9 : Int32) : Option (GS × Int32) := fl_calls_241 σ v3 v7 v8 v9 1
set_option maxRecDepth 100000 in
set_option maxHeartbeats 4000000 in
theorem bl_calls_236 {p : Program} {l : Launch} {e : Env} {s : State} {m : MethodId} {args : Array Value} {below : List Frame} {meth : Method} {c : Code} {D : va_G} {dA : Nat → ClassId} {A : Nat → Prop} {ar : Nat → Nat} {ob b Ls : Nat} {sc : Nat → Int32} {o : GS × Int32} (X : zc p l s m args meth c cL_calls RL D dA A) (Y : zY s A b Ls sc) (hml : c.maxLocals = 13) (hr : meth.sig.returnType = (some .boolean)) {cells slots : Nat} (hcs : cells + (13) ≤ 27 ∧ slots + (5789) ≤ 13082) {σ : GS} {v3 : Int32} {v7 : Int32} {v8 : Int32} {v9 : Int32} (h : fl_calls_236 σ v3 v7 v8 v9 = some o) : zz p l e ({ frames := 16, cells := 27, slots := 13082, locals := 672 } : Room) s m args below meth c A (gw D dA A σ ob ar) cells slots (MQ below (va_Qi (fun r (_ : Unit) => r = o.2 ∧ True) (fun _ t => gw D dA A o.1 ob ar t.heap) A) args s (27) (13082) A) 236 [(0, .ref ob), (3, .int (v3)), (4, .ref (ar 0)), (5, .ref (ar 1)), (6, .ref (ar 2)), (7, .int (v7)), (8, .int (v8)), (9, .int (v9))] [] [] := by
  obtain ⟨hcs1, hcs2⟩ := hcs
  unfold fl_calls_236 at h
  refine z_iconst (v := 1) X dL_calls_236 (by decide) ?_
  refine z_goto (tgt := 241) X dL_calls_237 (by decide) ?_
  refine zz.pick (lo' := [(0, .ref ob), (3, .int (v3)), (4, .ref (ar 0)), (5, .ref (ar 1)), (6, .ref (ar 2)), (7, .int (v7)), (8, .int (v8)), (9, .int (v9))]) [0, 3, 4, 5, 6, 7, 8, 9] rfl ?_
  exact bl_calls_241 X Y hml hr ⟨by omega, by omega⟩ h
def fl_calls_204 (σ : GS) (v3 : Int32) (v7 : Int32) (s0 : Int32) (s1 : Int32) (s2 : Int32) : Option (GS × Int32) := if s2 = 0 then none else (some ((s0 - (s1 - s1 / s2 * s2)))).bind fun x2 => (aq_parties σ.1 (x2)).bind fun o3 => (aq_legOf σ.1 (v7)).bind fun o4 => (if 0 ≤ o4 then fl_calls_236 σ v3 v7 x2 o3
  else (if o3 = 0 then fl_calls_236 σ v3 v7 x2 o3
  else (if o3 = 4 then fl_calls_236 σ v3 v7 x2 o3
  else fl_calls_241 σ v3 v7 x2 o3 0)))
set_option maxRecDepth 100000 in
set_option maxHeartbeats 4000000 in
theorem bl_calls_204 {p : Program} {l : Launch} {e : Env} {s : State} {m : MethodId} {args : Array Value} {below : List Frame} {meth : Method} {c : Code} {D : va_G} {dA : Nat → ClassId} {A : Nat → Prop} {ar : Nat → Nat} {ob b Ls : Nat} {sc : Nat → Int32} {o : GS × Int32} (X : zc p l s m args meth c cL_calls RL D dA A) (Y : zY s A b Ls sc) (hml : c.maxLocals = 13) (hr : meth.sig.returnType = (some .boolean)) {cells slots : Nat} (hcs : cells + (13) ≤ 27 ∧ slots + (5789) ≤ 13082) {σ : GS} {v3 : Int32} {v7 : Int32} {s0 : Int32} {s1 : Int32} {s2 : Int32} (h : fl_calls_204 σ v3 v7 s0 s1 s2 = some o) : zz p l e ({ frames := 16, cells := 27, slots := 13082, locals := 672 } : Room) s m args below meth c A (gw D dA A σ ob ar) cells slots (MQ below (va_Qi (fun r (_ : Unit) => r = o.2 ∧ True) (fun _ t => gw D dA A o.1 ob ar t.heap) A) args s (27) (13082) A) 204 [(0, .ref ob), (3, .int (v3)), (4, .ref (ar 0)), (5, .ref (ar 1)), (6, .ref (ar 2)), (7, .int (v7))] [] [.int (s2), .int (s1), .int (s0)] := by
  obtain ⟨hcs1, hcs2⟩ := hcs
  unfold fl_calls_204 at h
  obtain ⟨q1, h⟩ := zg h
  refine z_irem X dL_calls_204 q1 ?_
  refine z_isub X dL_calls_205 ?_
  obtain ⟨x2, ex2, h⟩ := zb h
  rw [ex2]
  refine z_istore (lo' := [(8, .int (x2)), (0, .ref ob), (3, .int (v3)), (4, .ref (ar 0)), (5, .ref (ar 1)), (6, .ref (ar 2)), (7, .int (v7))]) X dL_calls_206 (by rw [hml]; decide) rfl rfl ?_
  refine z_aload_n X dL_calls_208 rfl rfl ?_
  refine z_iload X dL_calls_209 rfl ?_
  obtain ⟨o3, co3, h⟩ := zb2 h
  refine l_q (As := [.int (x2)]) (rest := []) (nA := 1) (mc := 0) (ms := 0) (rm := ({ frames := 10, cells := 0, slots := 0, locals := 420 } : Room)) (r0 := o3) X (fun _ h11 => cz_parties l X.2.2.2.2.2.2.2.2 X.2.2.2.2.2.2.1 h11 (fun _ z => nomatch z) (qo_eq co3)) n_771 n_772 n_773 n_1 n_774 nh_yX11_parties ⟨rfl, rfl, Nat.le_of_ble_eq_true rfl, Nat.le_of_ble_eq_true rfl⟩ rfl rfl (Nat.le_of_ble_eq_true rfl) dL_calls_211 ⟨by show _ ≤ 27; omega, by show _ ≤ 13082; omega⟩ ?_
  refine z_istore (lo' := [(9, .int (o3)), (8, .int (x2)), (0, .ref ob), (3, .int (v3)), (4, .ref (ar 0)), (5, .ref (ar 1)), (6, .ref (ar 2)), (7, .int (v7))]) X dL_calls_214 (by rw [hml]; decide) rfl rfl ?_
  refine z_aload_n X dL_calls_216 rfl rfl ?_
  refine z_iload X dL_calls_217 rfl ?_
  obtain ⟨o4, co4, h⟩ := zb2 h
  refine l_q (As := [.int (v7)]) (rest := []) (nA := 1) (mc := 0) (ms := 0) (rm := ({ frames := 7, cells := 0, slots := 0, locals := 294 } : Room)) (r0 := o4) X (fun _ h11 => cz_legOf l X.2.2.2.2.2.2.2.2 X.2.2.2.2.2.2.1 h11 (fun _ z => nomatch z) (qo_eq co4)) n_313 n_314 n_315 n_1 n_316 nh_yX11_legOf ⟨rfl, rfl, Nat.le_of_ble_eq_true rfl, Nat.le_of_ble_eq_true rfl⟩ rfl rfl (Nat.le_of_ble_eq_true rfl) dL_calls_219 ⟨by show _ ≤ 27; omega, by show _ ≤ 13082; omega⟩ ?_
  refine z_if_ge (tgt := 236) X dL_calls_222 (by decide) (fun q => ?_) (fun q => ?_)
  · have h := zp q h
    refine zz.pick (lo' := [(0, .ref ob), (3, .int (v3)), (4, .ref (ar 0)), (5, .ref (ar 1)), (6, .ref (ar 2)), (7, .int (v7)), (8, .int (x2)), (9, .int (o3))]) [0, 3, 4, 5, 6, 7, 8, 9] rfl ?_
    exact bl_calls_236 X Y hml hr ⟨by omega, by omega⟩ h
  · have h := zn q h
    refine z_iload X dL_calls_225 rfl ?_
    refine z_if_eq (tgt := 236) X dL_calls_227 (by decide) (fun q => ?_) (fun q => ?_)
    · have h := zp q h
      refine zz.pick (lo' := [(0, .ref ob), (3, .int (v3)), (4, .ref (ar 0)), (5, .ref (ar 1)), (6, .ref (ar 2)), (7, .int (v7)), (8, .int (x2)), (9, .int (o3))]) [0, 3, 4, 5, 6, 7, 8, 9] rfl ?_
      exact bl_calls_236 X Y hml hr ⟨by omega, by omega⟩ h
    · have h := zn q h
      refine z_iload X dL_calls_230 rfl ?_
      refine z_iconst (v := 4) X dL_calls_232 (by decide) ?_
      refine z_icmp_ne (tgt := 240) X dL_calls_233 (by decide) (fun q => ?_) (fun q => ?_)
      · have h := zp q h
        refine zz.pick (lo' := [(0, .ref ob), (3, .int (v3)), (4, .ref (ar 0)), (5, .ref (ar 1)), (6, .ref (ar 2)), (7, .int (v7)), (8, .int (x2)), (9, .int (o3))]) [0, 3, 4, 5, 6, 7, 8, 9] rfl ?_
        exact bl_calls_236 X Y hml hr ⟨by omega, by omega⟩ h
      · have h := zn q h
        refine z_iconst (v := 0) X dL_calls_240 (by decide) ?_
        refine zz.pick (lo' := [(0, .ref ob), (3, .int (v3)), (4, .ref (ar 0)), (5, .ref (ar 1)), (6, .ref (ar 2)), (7, .int (v7)), (8, .int (x2)), (9, .int (o3))]) [0, 3, 4, 5, 6, 7, 8, 9] rfl ?_
        exact bl_calls_241 X Y hml hr ⟨by omega, by omega⟩ h
def fl_calls_473 (σ : GS) (v7 : Int32) (v8 : Int32) (s0 : Int32) (s1 : Int32) : Option (GS × Int32) := (if s0 = s1 then (aq_stateOf σ.1 (v8)).bind fun o1 => (if o1 = 1 then (aq_legOf σ.1 (v7)).bind fun o2 => (if o2 = (-1) then some (σ, 1)
  else some (σ, 0))
  else some (σ, 0))
  else some (σ, 0))
set_option maxRecDepth 100000 in
set_option maxHeartbeats 4000000 in
theorem bl_calls_473 {p : Program} {l : Launch} {e : Env} {s : State} {m : MethodId} {args : Array Value} {below : List Frame} {meth : Method} {c : Code} {D : va_G} {dA : Nat → ClassId} {A : Nat → Prop} {ar : Nat → Nat} {ob b Ls : Nat} {sc : Nat → Int32} {o : GS × Int32} (X : zc p l s m args meth c cL_calls RL D dA A) (Y : zY s A b Ls sc) (hml : c.maxLocals = 13) (hr : meth.sig.returnType = (some .boolean)) {cells slots : Nat} (hcs : cells + (0) ≤ 27 ∧ slots + (0) ≤ 13082) {σ : GS} {v7 : Int32} {v8 : Int32} {s0 : Int32} {s1 : Int32} (h : fl_calls_473 σ v7 v8 s0 s1 = some o) : zz p l e ({ frames := 16, cells := 27, slots := 13082, locals := 672 } : Room) s m args below meth c A (gw D dA A σ ob ar) cells slots (MQ below (va_Qi (fun r (_ : Unit) => r = o.2 ∧ True) (fun _ t => gw D dA A o.1 ob ar t.heap) A) args s (27) (13082) A) 473 [(0, .ref ob), (7, .int (v7)), (8, .int (v8))] [] [.int (s1), .int (s0)] := by
  obtain ⟨hcs1, hcs2⟩ := hcs
  unfold fl_calls_473 at h
  refine z_icmp_ne (tgt := 500) X dL_calls_473 (by decide) (fun q => ?_) (fun q => ?_)
  · have h := zp q h
    refine z_aload_n X dL_calls_476 rfl rfl ?_
    refine z_iload X dL_calls_477 rfl ?_
    obtain ⟨o1, co1, h⟩ := zb2 h
    refine l_q (As := [.int (v8)]) (rest := []) (nA := 1) (mc := 0) (ms := 0) (rm := ({ frames := 10, cells := 0, slots := 0, locals := 420 } : Room)) (r0 := o1) X (fun _ h11 => cz_stateOf l X.2.2.2.2.2.2.2.2 X.2.2.2.2.2.2.1 h11 (fun _ z => nomatch z) (qo_eq co1)) n_775 n_776 n_777 n_1 n_778 nh_yX11_stateOf ⟨rfl, rfl, Nat.le_of_ble_eq_true rfl, Nat.le_of_ble_eq_true rfl⟩ rfl rfl (Nat.le_of_ble_eq_true rfl) dL_calls_479 ⟨by show _ ≤ 27; omega, by show _ ≤ 13082; omega⟩ ?_
    refine z_iconst (v := 1) X dL_calls_482 (by decide) ?_
    refine z_icmp_ne (tgt := 500) X dL_calls_483 (by decide) (fun q => ?_) (fun q => ?_)
    · have h := zp q h
      refine z_aload_n X dL_calls_486 rfl rfl ?_
      refine z_iload X dL_calls_487 rfl ?_
      obtain ⟨o2, co2, h⟩ := zb2 h
      refine l_q (As := [.int (v7)]) (rest := []) (nA := 1) (mc := 0) (ms := 0) (rm := ({ frames := 7, cells := 0, slots := 0, locals := 294 } : Room)) (r0 := o2) X (fun _ h11 => cz_legOf l X.2.2.2.2.2.2.2.2 X.2.2.2.2.2.2.1 h11 (fun _ z => nomatch z) (qo_eq co2)) n_313 n_314 n_315 n_1 n_316 nh_yX11_legOf ⟨rfl, rfl, Nat.le_of_ble_eq_true rfl, Nat.le_of_ble_eq_true rfl⟩ rfl rfl (Nat.le_of_ble_eq_true rfl) dL_calls_489 ⟨by show _ ≤ 27; omega, by show _ ≤ 13082; omega⟩ ?_
      refine z_iconst (v := (-1)) X dL_calls_492 (by decide) ?_
      refine z_icmp_ne (tgt := 500) X dL_calls_493 (by decide) (fun q => ?_) (fun q => ?_)
      · have h := zp q h
        refine z_iconst (v := 1) X dL_calls_496 (by decide) ?_
        refine z_goto (tgt := 501) X dL_calls_497 (by decide) ?_
        obtain rfl := Option.some.inj h
        refine zz.widen (k := 27) (n := 13082) (by omega) (by omega) ?_
        exact z_iret X hr rfl (fun t hG hF _ => ⟨⟨_, (), rfl, ⟨rfl, trivial⟩, hG⟩, hF⟩) dL_calls_501
      · have h := zn q h
        refine z_iconst (v := 0) X dL_calls_500 (by decide) ?_
        obtain rfl := Option.some.inj h
        refine zz.widen (k := 27) (n := 13082) (by omega) (by omega) ?_
        exact z_iret X hr rfl (fun t hG hF _ => ⟨⟨_, (), rfl, ⟨rfl, trivial⟩, hG⟩, hF⟩) dL_calls_501
    · have h := zn q h
      refine z_iconst (v := 0) X dL_calls_500 (by decide) ?_
      obtain rfl := Option.some.inj h
      refine zz.widen (k := 27) (n := 13082) (by omega) (by omega) ?_
      exact z_iret X hr rfl (fun t hG hF _ => ⟨⟨_, (), rfl, ⟨rfl, trivial⟩, hG⟩, hF⟩) dL_calls_501
  · have h := zn q h
    refine z_iconst (v := 0) X dL_calls_500 (by decide) ?_
    obtain rfl := Option.some.inj h
    refine zz.widen (k := 27) (n := 13082) (by omega) (by omega) ?_
    exact z_iret X hr rfl (fun t hG hF _ => ⟨⟨_, (), rfl, ⟨rfl, trivial⟩, hG⟩, hF⟩) dL_calls_501
def fl_calls_424 (σ : GS) (v7 : Int32) (v8 : Int32) (s0 : Int32) : Option (GS × Int32) := (ak_leave σ.1 (v7) (0) (0)).bind fun o1 => (some ((o1.1, σ.2) : GS)).bind fun σ2 => (some (o1.2)).bind fun x3 => (if 0 ≤ v8 then (if s0 = 2 then fl_calls_473 σ2 v7 v8 x3 0
  else fl_calls_473 σ2 v7 v8 x3 (s0 - 1))
  else (if x3 = (-108) then some (σ2, 1)
  else some (σ2, 0)))
set_option maxRecDepth 100000 in
set_option maxHeartbeats 4000000 in
theorem bl_calls_424 {p : Program} {l : Launch} {e : Env} {s : State} {m : MethodId} {args : Array Value} {below : List Frame} {meth : Method} {c : Code} {D : va_G} {dA : Nat → ClassId} {A : Nat → Prop} {ar : Nat → Nat} {ob b Ls : Nat} {sc : Nat → Int32} {o : GS × Int32} (X : zc p l s m args meth c cL_calls RL D dA A) (Y : zY s A b Ls sc) (hml : c.maxLocals = 13) (hr : meth.sig.returnType = (some .boolean)) {cells slots : Nat} (hcs : cells + (5) ≤ 27 ∧ slots + (1832) ≤ 13082) {σ : GS} {v7 : Int32} {v8 : Int32} {s0 : Int32} (h : fl_calls_424 σ v7 v8 s0 = some o) : zz p l e ({ frames := 16, cells := 27, slots := 13082, locals := 672 } : Room) s m args below meth c A (gw D dA A σ ob ar) cells slots (MQ below (va_Qi (fun r (_ : Unit) => r = o.2 ∧ True) (fun _ t => gw D dA A o.1 ob ar t.heap) A) args s (27) (13082) A) 424 [(0, .ref ob), (7, .int (v7)), (8, .int (v8))] [] [.int (s0)] := by
  obtain ⟨hcs1, hcs2⟩ := hcs
  unfold fl_calls_424 at h
  refine z_istore (lo' := [(10, .int (s0)), (0, .ref ob), (7, .int (v7)), (8, .int (v8))]) X dL_calls_424 (by rw [hml]; decide) rfl rfl ?_
  refine z_aload_n X dL_calls_426 rfl rfl ?_
  refine z_iconst (v := 2) X dL_calls_427 (by decide) ?_
  refine z_iload X dL_calls_428 rfl ?_
  refine z_iconst (v := 0) X dL_calls_430 (by decide) ?_
  refine z_iconst (v := 0) X dL_calls_431 (by decide) ?_
  obtain ⟨o1, co1, h⟩ := zb2 h
  obtain ⟨σ2, eσ2, h⟩ := zb h
  refine z_callWi (As := [.ref ob, .int (2), .int (v7), .int (0), .int (0)]) (rest := []) (nA := 5) (mc := 5) (ms := 1832) (rm := ({ frames := 15, cells := 5, slots := 1832, locals := 630 } : Room)) (S := Unit) (post := fun r _ => r = o1.2 ∧ True) (G1 := fun _ => gw D dA A (o1.1, σ.2) ob ar) X Y.1 (la_leave l X.2.2.2.2.2.2.2.2 X.2.2.2.2.2.2.1 co1) n_390 n_391 n_0 n_392 nh_yL_asks ⟨rfl, rfl, Nat.le_of_ble_eq_true rfl, Nat.le_of_ble_eq_true rfl⟩ rfl rfl (Nat.le_of_ble_eq_true rfl) dL_calls_432 ⟨by show _ ≤ 27; omega, by show _ ≤ 13082; omega⟩ (fun r9 _ hr9 => ?_)
  obtain ⟨rfl, -⟩ := hr9
  rw [eσ2]
  obtain ⟨x3, ex3, h⟩ := zb h
  rw [ex3]
  refine z_istore (lo' := [(11, .int (x3)), (10, .int (s0)), (0, .ref ob), (7, .int (v7)), (8, .int (v8))]) X dL_calls_435 (by rw [hml]; decide) rfl rfl ?_
  refine z_iload X dL_calls_437 rfl ?_
  refine z_if_ge (tgt := 457) X dL_calls_439 (by decide) (fun q => ?_) (fun q => ?_)
  · have h := zp q h
    refine z_iload X dL_calls_457 rfl ?_
    refine z_iload X dL_calls_459 rfl ?_
    refine z_iconst (v := 2) X dL_calls_461 (by decide) ?_
    refine z_icmp_ne (tgt := 469) X dL_calls_462 (by decide) (fun q => ?_) (fun q => ?_)
    · have h := zp q h
      refine z_iconst (v := 0) X dL_calls_465 (by decide) ?_
      refine z_goto (tgt := 473) X dL_calls_466 (by decide) ?_
      refine zz.pick (lo' := [(0, .ref ob), (7, .int (v7)), (8, .int (v8))]) [0, 7, 8] rfl ?_
      exact bl_calls_473 X Y hml hr ⟨by omega, by omega⟩ h
    · have h := zn q h
      refine z_iload X dL_calls_469 rfl ?_
      refine z_iconst (v := 1) X dL_calls_471 (by decide) ?_
      refine z_isub X dL_calls_472 ?_
      refine zz.pick (lo' := [(0, .ref ob), (7, .int (v7)), (8, .int (v8))]) [0, 7, 8] rfl ?_
      exact bl_calls_473 X Y hml hr ⟨by omega, by omega⟩ h
  · have h := zn q h
    refine z_iload X dL_calls_442 rfl ?_
    refine z_bipush (v := (-108)) X dL_calls_444 (by decide) ?_
    refine z_icmp_ne (tgt := 453) X dL_calls_446 (by decide) (fun q => ?_) (fun q => ?_)
    · have h := zp q h
      refine z_iconst (v := 1) X dL_calls_449 (by decide) ?_
      refine z_goto (tgt := 501) X dL_calls_450 (by decide) ?_
      obtain rfl := Option.some.inj h
      refine zz.widen (k := 27) (n := 13082) (by omega) (by omega) ?_
      exact z_iret X hr rfl (fun t hG hF _ => ⟨⟨_, (), rfl, ⟨rfl, trivial⟩, hG⟩, hF⟩) dL_calls_501
    · have h := zn q h
      refine z_iconst (v := 0) X dL_calls_453 (by decide) ?_
      refine z_goto (tgt := 501) X dL_calls_454 (by decide) ?_
      obtain rfl := Option.some.inj h
      refine zz.widen (k := 27) (n := 13082) (by omega) (by omega) ?_
      exact z_iret X hr rfl (fun t hG hF _ => ⟨⟨_, (), rfl, ⟨rfl, trivial⟩, hG⟩, hF⟩) dL_calls_501
def fl_calls_407 (σ : GS) (v7 : Int32) (v8 : Int32) (s0 : Int32) : Option (GS × Int32) := (if 0 ≤ v8 then (aq_parties σ.1 (s0)).bind fun o1 => fl_calls_424 σ v7 v8 o1
  else fl_calls_424 σ v7 v8 0)
set_option maxRecDepth 100000 in
set_option maxHeartbeats 4000000 in
theorem bl_calls_407 {p : Program} {l : Launch} {e : Env} {s : State} {m : MethodId} {args : Array Value} {below : List Frame} {meth : Method} {c : Code} {D : va_G} {dA : Nat → ClassId} {A : Nat → Prop} {ar : Nat → Nat} {ob b Ls : Nat} {sc : Nat → Int32} {o : GS × Int32} (X : zc p l s m args meth c cL_calls RL D dA A) (Y : zY s A b Ls sc) (hml : c.maxLocals = 13) (hr : meth.sig.returnType = (some .boolean)) {cells slots : Nat} (hcs : cells + (5) ≤ 27 ∧ slots + (1832) ≤ 13082) {σ : GS} {v7 : Int32} {v8 : Int32} {s0 : Int32} (h : fl_calls_407 σ v7 v8 s0 = some o) : zz p l e ({ frames := 16, cells := 27, slots := 13082, locals := 672 } : Room) s m args below meth c A (gw D dA A σ ob ar) cells slots (MQ below (va_Qi (fun r (_ : Unit) => r = o.2 ∧ True) (fun _ t => gw D dA A o.1 ob ar t.heap) A) args s (27) (13082) A) 407 [(0, .ref ob), (7, .int (v7)), (8, .int (v8))] [] [.int (s0)] := by
  obtain ⟨hcs1, hcs2⟩ := hcs
  unfold fl_calls_407 at h
  refine z_istore (lo' := [(9, .int (s0)), (0, .ref ob), (7, .int (v7)), (8, .int (v8))]) X dL_calls_407 (by rw [hml]; decide) rfl rfl ?_
  refine z_iload X dL_calls_409 rfl ?_
  refine z_if_ge (tgt := 418) X dL_calls_411 (by decide) (fun q => ?_) (fun q => ?_)
  · have h := zp q h
    refine z_aload_n X dL_calls_418 rfl rfl ?_
    refine z_iload X dL_calls_419 rfl ?_
    obtain ⟨o1, co1, h⟩ := zb2 h
    refine l_q (As := [.int (s0)]) (rest := []) (nA := 1) (mc := 0) (ms := 0) (rm := ({ frames := 10, cells := 0, slots := 0, locals := 420 } : Room)) (r0 := o1) X (fun _ h11 => cz_parties l X.2.2.2.2.2.2.2.2 X.2.2.2.2.2.2.1 h11 (fun _ z => nomatch z) (qo_eq co1)) n_771 n_772 n_773 n_1 n_774 nh_yX11_parties ⟨rfl, rfl, Nat.le_of_ble_eq_true rfl, Nat.le_of_ble_eq_true rfl⟩ rfl rfl (Nat.le_of_ble_eq_true rfl) dL_calls_421 ⟨by show _ ≤ 27; omega, by show _ ≤ 13082; omega⟩ ?_
    refine zz.pick (lo' := [(0, .ref ob), (7, .int (v7)), (8, .int (v8))]) [0, 7, 8] rfl ?_
    exact bl_calls_424 X Y hml hr ⟨by omega, by omega⟩ h
  · have h := zn q h
    refine z_iconst (v := 0) X dL_calls_414 (by decide) ?_
    refine z_goto (tgt := 424) X dL_calls_415 (by decide) ?_
    refine zz.pick (lo' := [(0, .ref ob), (7, .int (v7)), (8, .int (v8))]) [0, 7, 8] rfl ?_
    exact bl_calls_424 X Y hml hr ⟨by omega, by omega⟩ h
def fl_calls_580 (σ : GS) (v7 : Int32) (v8 : Int32) (v10 : Int32) (s0 : Int32) (s1 : Int32) : Option (GS × Int32) := (if s0 = s1 then (aq_cellOf σ.1 (v7)).bind fun o1 => (if o1 = v10 then (aq_legOf σ.1 (v7)).bind fun o2 => (if o2 = v8 then some (σ, 1)
  else some (σ, 0))
  else some (σ, 0))
  else some (σ, 0))
set_option maxRecDepth 100000 in
set_option maxHeartbeats 4000000 in
theorem bl_calls_580 {p : Program} {l : Launch} {e : Env} {s : State} {m : MethodId} {args : Array Value} {below : List Frame} {meth : Method} {c : Code} {D : va_G} {dA : Nat → ClassId} {A : Nat → Prop} {ar : Nat → Nat} {ob b Ls : Nat} {sc : Nat → Int32} {o : GS × Int32} (X : zc p l s m args meth c cL_calls RL D dA A) (Y : zY s A b Ls sc) (hml : c.maxLocals = 13) (hr : meth.sig.returnType = (some .boolean)) {cells slots : Nat} (hcs : cells + (0) ≤ 27 ∧ slots + (0) ≤ 13082) {σ : GS} {v7 : Int32} {v8 : Int32} {v10 : Int32} {s0 : Int32} {s1 : Int32} (h : fl_calls_580 σ v7 v8 v10 s0 s1 = some o) : zz p l e ({ frames := 16, cells := 27, slots := 13082, locals := 672 } : Room) s m args below meth c A (gw D dA A σ ob ar) cells slots (MQ below (va_Qi (fun r (_ : Unit) => r = o.2 ∧ True) (fun _ t => gw D dA A o.1 ob ar t.heap) A) args s (27) (13082) A) 580 [(0, .ref ob), (7, .int (v7)), (8, .int (v8)), (10, .int (v10))] [] [.int (s1), .int (s0)] := by
  obtain ⟨hcs1, hcs2⟩ := hcs
  unfold fl_calls_580 at h
  refine z_icmp_ne (tgt := 609) X dL_calls_580 (by decide) (fun q => ?_) (fun q => ?_)
  · have h := zp q h
    refine z_aload_n X dL_calls_583 rfl rfl ?_
    refine z_iload X dL_calls_584 rfl ?_
    obtain ⟨o1, co1, h⟩ := zb2 h
    refine l_q (As := [.int (v7)]) (rest := []) (nA := 1) (mc := 0) (ms := 0) (rm := ({ frames := 7, cells := 0, slots := 0, locals := 294 } : Room)) (r0 := o1) X (fun _ h11 => cz_cellOf l X.2.2.2.2.2.2.2.2 X.2.2.2.2.2.2.1 h11 (fun _ z => nomatch z) (qo_eq co1)) n_761 n_762 n_763 n_1 n_764 nh_yX11_cellOf ⟨rfl, rfl, Nat.le_of_ble_eq_true rfl, Nat.le_of_ble_eq_true rfl⟩ rfl rfl (Nat.le_of_ble_eq_true rfl) dL_calls_586 ⟨by show _ ≤ 27; omega, by show _ ≤ 13082; omega⟩ ?_
    refine z_iload X dL_calls_589 rfl ?_
    refine z_icmp_ne (tgt := 609) X dL_calls_591 (by decide) (fun q => ?_) (fun q => ?_)
    · have h := zp q h
      refine z_aload_n X dL_calls_594 rfl rfl ?_
      refine z_iload X dL_calls_595 rfl ?_
      obtain ⟨o2, co2, h⟩ := zb2 h
      refine l_q (As := [.int (v7)]) (rest := []) (nA := 1) (mc := 0) (ms := 0) (rm := ({ frames := 7, cells := 0, slots := 0, locals := 294 } : Room)) (r0 := o2) X (fun _ h11 => cz_legOf l X.2.2.2.2.2.2.2.2 X.2.2.2.2.2.2.1 h11 (fun _ z => nomatch z) (qo_eq co2)) n_313 n_314 n_315 n_1 n_316 nh_yX11_legOf ⟨rfl, rfl, Nat.le_of_ble_eq_true rfl, Nat.le_of_ble_eq_true rfl⟩ rfl rfl (Nat.le_of_ble_eq_true rfl) dL_calls_597 ⟨by show _ ≤ 27; omega, by show _ ≤ 13082; omega⟩ ?_
      refine z_iload X dL_calls_600 rfl ?_
      refine z_icmp_ne (tgt := 609) X dL_calls_602 (by decide) (fun q => ?_) (fun q => ?_)
      · have h := zp q h
        refine z_iconst (v := 1) X dL_calls_605 (by decide) ?_
        refine z_goto (tgt := 610) X dL_calls_606 (by decide) ?_
        obtain rfl := Option.some.inj h
        refine zz.widen (k := 27) (n := 13082) (by omega) (by omega) ?_
        exact z_iret X hr rfl (fun t hG hF _ => ⟨⟨_, (), rfl, ⟨rfl, trivial⟩, hG⟩, hF⟩) dL_calls_610
      · have h := zn q h
        refine z_iconst (v := 0) X dL_calls_609 (by decide) ?_
        obtain rfl := Option.some.inj h
        refine zz.widen (k := 27) (n := 13082) (by omega) (by omega) ?_
        exact z_iret X hr rfl (fun t hG hF _ => ⟨⟨_, (), rfl, ⟨rfl, trivial⟩, hG⟩, hF⟩) dL_calls_610
    · have h := zn q h
      refine z_iconst (v := 0) X dL_calls_609 (by decide) ?_
      obtain rfl := Option.some.inj h
      refine zz.widen (k := 27) (n := 13082) (by omega) (by omega) ?_
      exact z_iret X hr rfl (fun t hG hF _ => ⟨⟨_, (), rfl, ⟨rfl, trivial⟩, hG⟩, hF⟩) dL_calls_610
  · have h := zn q h
    refine z_iconst (v := 0) X dL_calls_609 (by decide) ?_
    obtain rfl := Option.some.inj h
    refine zz.widen (k := 27) (n := 13082) (by omega) (by omega) ?_
    exact z_iret X hr rfl (fun t hG hF _ => ⟨⟨_, (), rfl, ⟨rfl, trivial⟩, hG⟩, hF⟩) dL_calls_610
def fl_calls_568 (σ : GS) (v7 : Int32) (v8 : Int32) (v10 : Int32) (v11 : Int32) : Option (GS × Int32) := (if v8 < 0 then fl_calls_580 σ v7 v8 v10 v11 0
  else fl_calls_580 σ v7 v8 v10 v11 1)
set_option maxRecDepth 100000 in
set_option maxHeartbeats 4000000 in
theorem bl_calls_568 {p : Program} {l : Launch} {e : Env} {s : State} {m : MethodId} {args : Array Value} {below : List Frame} {meth : Method} {c : Code} {D : va_G} {dA : Nat → ClassId} {A : Nat → Prop} {ar : Nat → Nat} {ob b Ls : Nat} {sc : Nat → Int32} {o : GS × Int32} (X : zc p l s m args meth c cL_calls RL D dA A) (Y : zY s A b Ls sc) (hml : c.maxLocals = 13) (hr : meth.sig.returnType = (some .boolean)) {cells slots : Nat} (hcs : cells + (0) ≤ 27 ∧ slots + (0) ≤ 13082) {σ : GS} {v7 : Int32} {v8 : Int32} {v10 : Int32} {v11 : Int32} (h : fl_calls_568 σ v7 v8 v10 v11 = some o) : zz p l e ({ frames := 16, cells := 27, slots := 13082, locals := 672 } : Room) s m args below meth c A (gw D dA A σ ob ar) cells slots (MQ below (va_Qi (fun r (_ : Unit) => r = o.2 ∧ True) (fun _ t => gw D dA A o.1 ob ar t.heap) A) args s (27) (13082) A) 568 [(0, .ref ob), (7, .int (v7)), (8, .int (v8)), (10, .int (v10)), (11, .int (v11))] [] [] := by
  obtain ⟨hcs1, hcs2⟩ := hcs
  unfold fl_calls_568 at h
  refine z_iload X dL_calls_568 rfl ?_
  refine z_iload X dL_calls_570 rfl ?_
  refine z_if_lt (tgt := 579) X dL_calls_572 (by decide) (fun q => ?_) (fun q => ?_)
  · have h := zp q h
    refine z_iconst (v := 0) X dL_calls_579 (by decide) ?_
    refine zz.pick (lo' := [(0, .ref ob), (7, .int (v7)), (8, .int (v8)), (10, .int (v10))]) [0, 7, 8, 10] rfl ?_
    exact bl_calls_580 X Y hml hr ⟨by omega, by omega⟩ h
  · have h := zn q h
    refine z_iconst (v := 1) X dL_calls_575 (by decide) ?_
    refine z_goto (tgt := 580) X dL_calls_576 (by decide) ?_
    refine zz.pick (lo' := [(0, .ref ob), (7, .int (v7)), (8, .int (v8)), (10, .int (v10))]) [0, 7, 8, 10] rfl ?_
    exact bl_calls_580 X Y hml hr ⟨by omega, by omega⟩ h
def fl_calls_724 (σ : GS) (v7 : Int32) (v8 : Int32) (v11 : Int32) (s0 : Int32) (s1 : Int32) : Option (GS × Int32) := (if s0 = s1 then (aq_legOf σ.1 (v7)).bind fun o1 => (if v11 = 0 then (if o1 = (-1) then some (σ, 1)
  else some (σ, 0))
  else (if o1 = v8 then some (σ, 1)
  else some (σ, 0)))
  else some (σ, 0))
set_option maxRecDepth 100000 in
set_option maxHeartbeats 4000000 in
theorem bl_calls_724 {p : Program} {l : Launch} {e : Env} {s : State} {m : MethodId} {args : Array Value} {below : List Frame} {meth : Method} {c : Code} {D : va_G} {dA : Nat → ClassId} {A : Nat → Prop} {ar : Nat → Nat} {ob b Ls : Nat} {sc : Nat → Int32} {o : GS × Int32} (X : zc p l s m args meth c cL_calls RL D dA A) (Y : zY s A b Ls sc) (hml : c.maxLocals = 13) (hr : meth.sig.returnType = (some .boolean)) {cells slots : Nat} (hcs : cells + (0) ≤ 27 ∧ slots + (0) ≤ 13082) {σ : GS} {v7 : Int32} {v8 : Int32} {v11 : Int32} {s0 : Int32} {s1 : Int32} (h : fl_calls_724 σ v7 v8 v11 s0 s1 = some o) : zz p l e ({ frames := 16, cells := 27, slots := 13082, locals := 672 } : Room) s m args below meth c A (gw D dA A σ ob ar) cells slots (MQ below (va_Qi (fun r (_ : Unit) => r = o.2 ∧ True) (fun _ t => gw D dA A o.1 ob ar t.heap) A) args s (27) (13082) A) 724 [(0, .ref ob), (7, .int (v7)), (8, .int (v8)), (11, .int (v11))] [] [.int (s1), .int (s0)] := by
  obtain ⟨hcs1, hcs2⟩ := hcs
  unfold fl_calls_724 at h
  refine z_icmp_ne (tgt := 751) X dL_calls_724 (by decide) (fun q => ?_) (fun q => ?_)
  · have h := zp q h
    refine z_aload_n X dL_calls_727 rfl rfl ?_
    refine z_iload X dL_calls_728 rfl ?_
    obtain ⟨o1, co1, h⟩ := zb2 h
    refine l_q (As := [.int (v7)]) (rest := []) (nA := 1) (mc := 0) (ms := 0) (rm := ({ frames := 7, cells := 0, slots := 0, locals := 294 } : Room)) (r0 := o1) X (fun _ h11 => cz_legOf l X.2.2.2.2.2.2.2.2 X.2.2.2.2.2.2.1 h11 (fun _ z => nomatch z) (qo_eq co1)) n_313 n_314 n_315 n_1 n_316 nh_yX11_legOf ⟨rfl, rfl, Nat.le_of_ble_eq_true rfl, Nat.le_of_ble_eq_true rfl⟩ rfl rfl (Nat.le_of_ble_eq_true rfl) dL_calls_730 ⟨by show _ ≤ 27; omega, by show _ ≤ 13082; omega⟩ ?_
    refine z_iload X dL_calls_733 rfl ?_
    refine z_if_eq (tgt := 743) X dL_calls_735 (by decide) (fun q => ?_) (fun q => ?_)
    · have h := zp q h
      refine z_iconst (v := (-1)) X dL_calls_743 (by decide) ?_
      refine z_icmp_ne (tgt := 751) X dL_calls_744 (by decide) (fun q => ?_) (fun q => ?_)
      · have h := zp q h
        refine z_iconst (v := 1) X dL_calls_747 (by decide) ?_
        refine z_goto (tgt := 752) X dL_calls_748 (by decide) ?_
        obtain rfl := Option.some.inj h
        refine zz.widen (k := 27) (n := 13082) (by omega) (by omega) ?_
        exact z_iret X hr rfl (fun t hG hF _ => ⟨⟨_, (), rfl, ⟨rfl, trivial⟩, hG⟩, hF⟩) dL_calls_752
      · have h := zn q h
        refine z_iconst (v := 0) X dL_calls_751 (by decide) ?_
        obtain rfl := Option.some.inj h
        refine zz.widen (k := 27) (n := 13082) (by omega) (by omega) ?_
        exact z_iret X hr rfl (fun t hG hF _ => ⟨⟨_, (), rfl, ⟨rfl, trivial⟩, hG⟩, hF⟩) dL_calls_752
    · have h := zn q h
      refine z_iload X dL_calls_738 rfl ?_
      refine z_goto (tgt := 744) X dL_calls_740 (by decide) ?_
      refine z_icmp_ne (tgt := 751) X dL_calls_744 (by decide) (fun q => ?_) (fun q => ?_)
      · have h := zp q h
        refine z_iconst (v := 1) X dL_calls_747 (by decide) ?_
        refine z_goto (tgt := 752) X dL_calls_748 (by decide) ?_
        obtain rfl := Option.some.inj h
        refine zz.widen (k := 27) (n := 13082) (by omega) (by omega) ?_
        exact z_iret X hr rfl (fun t hG hF _ => ⟨⟨_, (), rfl, ⟨rfl, trivial⟩, hG⟩, hF⟩) dL_calls_752
      · have h := zn q h
        refine z_iconst (v := 0) X dL_calls_751 (by decide) ?_
        obtain rfl := Option.some.inj h
        refine zz.widen (k := 27) (n := 13082) (by omega) (by omega) ?_
        exact z_iret X hr rfl (fun t hG hF _ => ⟨⟨_, (), rfl, ⟨rfl, trivial⟩, hG⟩, hF⟩) dL_calls_752
  · have h := zn q h
    refine z_iconst (v := 0) X dL_calls_751 (by decide) ?_
    obtain rfl := Option.some.inj h
    refine zz.widen (k := 27) (n := 13082) (by omega) (by omega) ?_
    exact z_iret X hr rfl (fun t hG hF _ => ⟨⟨_, (), rfl, ⟨rfl, trivial⟩, hG⟩, hF⟩) dL_calls_752
def fl_calls_697 (σ : GS) (v7 : Int32) (v8 : Int32) (v10 : Int32) (v11 : Int32) : Option (GS × Int32) := (aq_cellOf σ.1 (v7)).bind fun o1 => (if o1 = v10 then (aq_stateOf σ.1 (v8)).bind fun o2 => (if v11 = 0 then fl_calls_724 σ v7 v8 v11 o2 3
  else fl_calls_724 σ v7 v8 v11 o2 0)
  else some (σ, 0))
set_option maxRecDepth 100000 in
set_option maxHeartbeats 4000000 in
theorem bl_calls_697 {p : Program} {l : Launch} {e : Env} {s : State} {m : MethodId} {args : Array Value} {below : List Frame} {meth : Method} {c : Code} {D : va_G} {dA : Nat → ClassId} {A : Nat → Prop} {ar : Nat → Nat} {ob b Ls : Nat} {sc : Nat → Int32} {o : GS × Int32} (X : zc p l s m args meth c cL_calls RL D dA A) (Y : zY s A b Ls sc) (hml : c.maxLocals = 13) (hr : meth.sig.returnType = (some .boolean)) {cells slots : Nat} (hcs : cells + (0) ≤ 27 ∧ slots + (0) ≤ 13082) {σ : GS} {v7 : Int32} {v8 : Int32} {v10 : Int32} {v11 : Int32} (h : fl_calls_697 σ v7 v8 v10 v11 = some o) : zz p l e ({ frames := 16, cells := 27, slots := 13082, locals := 672 } : Room) s m args below meth c A (gw D dA A σ ob ar) cells slots (MQ below (va_Qi (fun r (_ : Unit) => r = o.2 ∧ True) (fun _ t => gw D dA A o.1 ob ar t.heap) A) args s (27) (13082) A) 697 [(0, .ref ob), (7, .int (v7)), (8, .int (v8)), (10, .int (v10)), (11, .int (v11))] [] [] := by
  obtain ⟨hcs1, hcs2⟩ := hcs
  unfold fl_calls_697 at h
  refine z_aload_n X dL_calls_697 rfl rfl ?_
  refine z_iload X dL_calls_698 rfl ?_
  obtain ⟨o1, co1, h⟩ := zb2 h
  refine l_q (As := [.int (v7)]) (rest := []) (nA := 1) (mc := 0) (ms := 0) (rm := ({ frames := 7, cells := 0, slots := 0, locals := 294 } : Room)) (r0 := o1) X (fun _ h11 => cz_cellOf l X.2.2.2.2.2.2.2.2 X.2.2.2.2.2.2.1 h11 (fun _ z => nomatch z) (qo_eq co1)) n_761 n_762 n_763 n_1 n_764 nh_yX11_cellOf ⟨rfl, rfl, Nat.le_of_ble_eq_true rfl, Nat.le_of_ble_eq_true rfl⟩ rfl rfl (Nat.le_of_ble_eq_true rfl) dL_calls_700 ⟨by show _ ≤ 27; omega, by show _ ≤ 13082; omega⟩ ?_
  refine z_iload X dL_calls_703 rfl ?_
  refine z_icmp_ne (tgt := 751) X dL_calls_705 (by decide) (fun q => ?_) (fun q => ?_)
  · have h := zp q h
    refine z_aload_n X dL_calls_708 rfl rfl ?_
    refine z_iload X dL_calls_709 rfl ?_
    obtain ⟨o2, co2, h⟩ := zb2 h
    refine l_q (As := [.int (v8)]) (rest := []) (nA := 1) (mc := 0) (ms := 0) (rm := ({ frames := 10, cells := 0, slots := 0, locals := 420 } : Room)) (r0 := o2) X (fun _ h11 => cz_stateOf l X.2.2.2.2.2.2.2.2 X.2.2.2.2.2.2.1 h11 (fun _ z => nomatch z) (qo_eq co2)) n_775 n_776 n_777 n_1 n_778 nh_yX11_stateOf ⟨rfl, rfl, Nat.le_of_ble_eq_true rfl, Nat.le_of_ble_eq_true rfl⟩ rfl rfl (Nat.le_of_ble_eq_true rfl) dL_calls_711 ⟨by show _ ≤ 27; omega, by show _ ≤ 13082; omega⟩ ?_
    refine z_iload X dL_calls_714 rfl ?_
    refine z_if_eq (tgt := 723) X dL_calls_716 (by decide) (fun q => ?_) (fun q => ?_)
    · have h := zp q h
      refine z_iconst (v := 3) X dL_calls_723 (by decide) ?_
      refine zz.pick (lo' := [(0, .ref ob), (7, .int (v7)), (8, .int (v8)), (11, .int (v11))]) [0, 7, 8, 11] rfl ?_
      exact bl_calls_724 X Y hml hr ⟨by omega, by omega⟩ h
    · have h := zn q h
      refine z_iconst (v := 0) X dL_calls_719 (by decide) ?_
      refine z_goto (tgt := 724) X dL_calls_720 (by decide) ?_
      refine zz.pick (lo' := [(0, .ref ob), (7, .int (v7)), (8, .int (v8)), (11, .int (v11))]) [0, 7, 8, 11] rfl ?_
      exact bl_calls_724 X Y hml hr ⟨by omega, by omega⟩ h
  · have h := zn q h
    refine z_iconst (v := 0) X dL_calls_751 (by decide) ?_
    obtain rfl := Option.some.inj h
    refine zz.widen (k := 27) (n := 13082) (by omega) (by omega) ?_
    exact z_iret X hr rfl (fun t hG hF _ => ⟨⟨_, (), rfl, ⟨rfl, trivial⟩, hG⟩, hF⟩) dL_calls_752
def fl_calls_687 (σ : GS) (v7 : Int32) (v8 : Int32) (v10 : Int32) (v11 : Int32) (v12 : Int32) : Option (GS × Int32) := (if v12 = 0 then (if v11 = 0 then fl_calls_697 σ v7 v8 v10 v11
  else some (σ, 0))
  else fl_calls_697 σ v7 v8 v10 v11)
set_option maxRecDepth 100000 in
set_option maxHeartbeats 4000000 in
theorem bl_calls_687 {p : Program} {l : Launch} {e : Env} {s : State} {m : MethodId} {args : Array Value} {below : List Frame} {meth : Method} {c : Code} {D : va_G} {dA : Nat → ClassId} {A : Nat → Prop} {ar : Nat → Nat} {ob b Ls : Nat} {sc : Nat → Int32} {o : GS × Int32} (X : zc p l s m args meth c cL_calls RL D dA A) (Y : zY s A b Ls sc) (hml : c.maxLocals = 13) (hr : meth.sig.returnType = (some .boolean)) {cells slots : Nat} (hcs : cells + (0) ≤ 27 ∧ slots + (0) ≤ 13082) {σ : GS} {v7 : Int32} {v8 : Int32} {v10 : Int32} {v11 : Int32} {v12 : Int32} (h : fl_calls_687 σ v7 v8 v10 v11 v12 = some o) : zz p l e ({ frames := 16, cells := 27, slots := 13082, locals := 672 } : Room) s m args below meth c A (gw D dA A σ ob ar) cells slots (MQ below (va_Qi (fun r (_ : Unit) => r = o.2 ∧ True) (fun _ t => gw D dA A o.1 ob ar t.heap) A) args s (27) (13082) A) 687 [(0, .ref ob), (7, .int (v7)), (8, .int (v8)), (10, .int (v10)), (11, .int (v11)), (12, .int (v12))] [] [] := by
  obtain ⟨hcs1, hcs2⟩ := hcs
  unfold fl_calls_687 at h
  refine z_iload X dL_calls_687 rfl ?_
  refine z_if_ne (tgt := 697) X dL_calls_689 (by decide) (fun q => ?_) (fun q => ?_)
  · have h := zp q h
    refine z_iload X dL_calls_692 rfl ?_
    refine z_if_ne (tgt := 751) X dL_calls_694 (by decide) (fun q => ?_) (fun q => ?_)
    · have h := zp q h
      refine zz.pick (lo' := [(0, .ref ob), (7, .int (v7)), (8, .int (v8)), (10, .int (v10)), (11, .int (v11))]) [0, 7, 8, 10, 11] rfl ?_
      exact bl_calls_697 X Y hml hr ⟨by omega, by omega⟩ h
    · have h := zn q h
      refine z_iconst (v := 0) X dL_calls_751 (by decide) ?_
      obtain rfl := Option.some.inj h
      refine zz.widen (k := 27) (n := 13082) (by omega) (by omega) ?_
      exact z_iret X hr rfl (fun t hG hF _ => ⟨⟨_, (), rfl, ⟨rfl, trivial⟩, hG⟩, hF⟩) dL_calls_752
  · have h := zn q h
    refine zz.pick (lo' := [(0, .ref ob), (7, .int (v7)), (8, .int (v8)), (10, .int (v10)), (11, .int (v11))]) [0, 7, 8, 10, 11] rfl ?_
    exact bl_calls_697 X Y hml hr ⟨by omega, by omega⟩ h
def fl_calls_640 (σ : GS) (v7 : Int32) (v8 : Int32) (v10 : Int32) (v11 : Int32) (s0 : Int32) : Option (GS × Int32) := (if v11 = 0 then fl_calls_687 σ v7 v8 v10 v11 s0
  else if v8 < 0 ∨ 64 ≤ (v8).toNatClampNeg then none else (fl_event σ ((σ.2 1 (v8).toNatClampNeg)) (1) ((σ.2 2 (0 : Int32).toNatClampNeg)) (v10)).bind fun o2 => if v8 < 0 ∨ 64 ≤ (v8).toNatClampNeg then none else (some ((σ.1, cs σ.2 1 (v8).toNatClampNeg (o2)) : GS)).bind fun σ3 => if v8 < 0 ∨ 64 ≤ (v8).toNatClampNeg then none else if v8 < 0 ∨ 64 ≤ (v8).toNatClampNeg then none else (some ((σ3.1, cs σ3.2 0 (v8).toNatClampNeg ((((σ3.2 0 (v8).toNatClampNeg) &&& (-7169)) ||| (v10 <<< ((10 : Int32) &&& 31) : Int32)))) : GS)).bind fun σ6 => fl_calls_687 σ6 v7 v8 v10 v11 s0)
set_option maxRecDepth 100000 in
set_option maxHeartbeats 4000000 in
theorem bl_calls_640 {p : Program} {l : Launch} {e : Env} {s : State} {m : MethodId} {args : Array Value} {below : List Frame} {meth : Method} {c : Code} {D : va_G} {dA : Nat → ClassId} {A : Nat → Prop} {ar : Nat → Nat} {ob b Ls : Nat} {sc : Nat → Int32} {o : GS × Int32} (X : zc p l s m args meth c cL_calls RL D dA A) (Y : zY s A b Ls sc) (hml : c.maxLocals = 13) (hr : meth.sig.returnType = (some .boolean)) {cells slots : Nat} (hcs : cells + (0) ≤ 27 ∧ slots + (0) ≤ 13082) {σ : GS} {v7 : Int32} {v8 : Int32} {v10 : Int32} {v11 : Int32} {s0 : Int32} (h : fl_calls_640 σ v7 v8 v10 v11 s0 = some o) : zz p l e ({ frames := 16, cells := 27, slots := 13082, locals := 672 } : Room) s m args below meth c A (gw D dA A σ ob ar) cells slots (MQ below (va_Qi (fun r (_ : Unit) => r = o.2 ∧ True) (fun _ t => gw D dA A o.1 ob ar t.heap) A) args s (27) (13082) A) 640 [(0, .ref ob), (4, .ref (ar 0)), (5, .ref (ar 1)), (6, .ref (ar 2)), (7, .int (v7)), (8, .int (v8)), (10, .int (v10)), (11, .int (v11))] [] [.int (s0)] := by
  obtain ⟨hcs1, hcs2⟩ := hcs
  unfold fl_calls_640 at h
  refine z_istore (lo' := [(12, .int (s0)), (0, .ref ob), (4, .ref (ar 0)), (5, .ref (ar 1)), (6, .ref (ar 2)), (7, .int (v7)), (8, .int (v8)), (10, .int (v10)), (11, .int (v11))]) X dL_calls_640 (by rw [hml]; decide) rfl rfl ?_
  refine z_iload X dL_calls_642 rfl ?_
  refine z_if_eq (tgt := 687) X dL_calls_644 (by decide) (fun q => ?_) (fun q => ?_)
  · have h := zp q h
    refine zz.pick (lo' := [(0, .ref ob), (7, .int (v7)), (8, .int (v8)), (10, .int (v10)), (11, .int (v11)), (12, .int (s0))]) [0, 7, 8, 10, 11, 12] rfl ?_
    exact bl_calls_687 X Y hml hr ⟨by omega, by omega⟩ h
  · have h := zn q h
    refine z_aload X dL_calls_647 rfl ?_
    refine z_iload X dL_calls_649 rfl ?_
    refine z_aload X dL_calls_651 rfl ?_
    refine z_iload X dL_calls_653 rfl ?_
    obtain ⟨q1, h⟩ := zg h
    refine l_ald X 1 rfl q1 dL_calls_655 ?_
    refine z_iconst (v := 1) X dL_calls_656 (by decide) ?_
    refine z_aload X dL_calls_657 rfl ?_
    refine z_iconst (v := 0) X dL_calls_659 (by decide) ?_
    refine l_ald X 2 rfl (by decide) dL_calls_660 ?_
    refine z_iload X dL_calls_661 rfl ?_
    obtain ⟨o2, co2, h⟩ := zb2 h
    refine z_lSi (As := [.int ((σ.2 1 (v8).toNatClampNeg)), .int (1), .int ((σ.2 2 (0 : Int32).toNatClampNeg)), .int (v10)]) (rest := [.int (v8), .ref (ar 1)]) (nA := 4) (mc := 0) (ms := 0) (r0 := o2) (pu := fun (_ : Unit) => True) (G1 := fun _ => gw D dA A σ ob ar) X Y (ll_event l X.2.2.2.2.2.2.2.2 X.2.2.2.2.2.2.1 Y.2.2.2 co2) n_768 n_769 n_0 n_770 nh_yL_event ⟨rfl, rfl, Nat.le_of_ble_eq_true rfl, Nat.le_of_ble_eq_true rfl⟩ rfl rfl (Nat.le_of_ble_eq_true rfl) dL_calls_663 ⟨by show _ ≤ 27; omega, by show _ ≤ 13082; omega⟩ (fun _ _ => ?_)
    obtain ⟨q4, h⟩ := zg h
    obtain ⟨σ3, eσ3, h⟩ := zb h
    refine l_ast X 1 rfl q4 eσ3 dL_calls_666 ?_
    refine z_aload X dL_calls_667 rfl ?_
    refine z_iload X dL_calls_669 rfl ?_
    refine z_aload X dL_calls_671 rfl ?_
    refine z_iload X dL_calls_673 rfl ?_
    obtain ⟨q5, h⟩ := zg h
    refine l_ald X 0 rfl q5 dL_calls_675 ?_
    refine z_sipush (v := (-7169)) X dL_calls_676 (by decide) ?_
    refine z_iand X dL_calls_679 ?_
    refine z_iload X dL_calls_680 rfl ?_
    refine z_bipush (v := 10) X dL_calls_682 (by decide) ?_
    refine z_ishl X dL_calls_684 ?_
    refine z_ior X dL_calls_685 ?_
    obtain ⟨q7, h⟩ := zg h
    obtain ⟨σ6, eσ6, h⟩ := zb h
    refine l_ast X 0 rfl q7 eσ6 dL_calls_686 ?_
    refine zz.pick (lo' := [(0, .ref ob), (7, .int (v7)), (8, .int (v8)), (10, .int (v10)), (11, .int (v11)), (12, .int (s0))]) [0, 7, 8, 10, 11, 12] rfl ?_
    exact bl_calls_687 X Y hml hr ⟨by omega, by omega⟩ h
def fl_calls_635 (σ : GS) (v7 : Int32) (v8 : Int32) (v10 : Int32) (v11 : Int32) : Option (GS × Int32) := fl_calls_640 σ v7 v8 v10 v11 1
set_option maxRecDepth 100000 in
set_option maxHeartbeats 4000000 in
theorem bl_calls_635 {p : Program} {l : Launch} {e : Env} {s : State} {m : MethodId} {args : Array Value} {below : List Frame} {meth : Method} {c : Code} {D : va_G} {dA : Nat → ClassId} {A : Nat → Prop} {ar : Nat → Nat} {ob b Ls : Nat} {sc : Nat → Int32} {o : GS × Int32} (X : zc p l s m args meth c cL_calls RL D dA A) (Y : zY s A b Ls sc) (hml : c.maxLocals = 13) (hr : meth.sig.returnType = (some .boolean)) {cells slots : Nat} (hcs : cells + (0) ≤ 27 ∧ slots + (0) ≤ 13082) {σ : GS} {v7 : Int32} {v8 : Int32} {v10 : Int32} {v11 : Int32} (h : fl_calls_635 σ v7 v8 v10 v11 = some o) : zz p l e ({ frames := 16, cells := 27, slots := 13082, locals := 672 } : Room) s m args below meth c A (gw D dA A σ ob ar) cells slots (MQ below (va_Qi (fun r (_ : Unit) => r = o.2 ∧ True) (fun _ t => gw D dA A o.1 ob ar t.heap) A) args s (27) (13082) A) 635 [(0, .ref ob), (4, .ref (ar 0)), (5, .ref (ar 1)), (6, .ref (ar 2)), (7, .int (v7)), (8, .int (v8)), (10, .int (v10)), (11, .int (v11))] [] [] := by
  obtain ⟨hcs1, hcs2⟩ := hcs
  unfold fl_calls_635 at h
  refine z_iconst (v := 1) X dL_calls_635 (by decide) ?_
  refine z_goto (tgt := 640) X dL_calls_636 (by decide) ?_
  refine zz.pick (lo' := [(0, .ref ob), (4, .ref (ar 0)), (5, .ref (ar 1)), (6, .ref (ar 2)), (7, .int (v7)), (8, .int (v8)), (10, .int (v10)), (11, .int (v11))]) [0, 4, 5, 6, 7, 8, 10, 11] rfl ?_
  exact bl_calls_640 X Y hml hr ⟨by omega, by omega⟩ h
def fl_calls_544 (σ : GS) (v7 : Int32) (v8 : Int32) (v9 : Int32) (s0 : Int32) : Option (GS × Int32) := (da_move σ.1 (v7) (s0)).bind fun o1 => (some ((o1.1, σ.2) : GS)).bind fun σ2 => (some (o1.2)).bind fun x3 => (if v8 < 0 then fl_calls_568 σ2 v7 v8 s0 x3
  else (if s0 = v9 then fl_calls_568 σ2 v7 v8 s0 x3
  else (if ((v9 + 1) - (v9 + 1) / 8 * 8) = s0 then fl_calls_635 σ2 v7 v8 s0 x3
  else (if ((s0 + 1) - (s0 + 1) / 8 * 8) = v9 then fl_calls_635 σ2 v7 v8 s0 x3
  else fl_calls_640 σ2 v7 v8 s0 x3 0))))
set_option maxRecDepth 100000 in
set_option maxHeartbeats 4000000 in
theorem bl_calls_544 {p : Program} {l : Launch} {e : Env} {s : State} {m : MethodId} {args : Array Value} {below : List Frame} {meth : Method} {c : Code} {D : va_G} {dA : Nat → ClassId} {A : Nat → Prop} {ar : Nat → Nat} {ob b Ls : Nat} {sc : Nat → Int32} {o : GS × Int32} (X : zc p l s m args meth c cL_calls RL D dA A) (Y : zY s A b Ls sc) (hml : c.maxLocals = 13) (hr : meth.sig.returnType = (some .boolean)) {cells slots : Nat} (hcs : cells + (6) ≤ 27 ∧ slots + (1838) ≤ 13082) {σ : GS} {v7 : Int32} {v8 : Int32} {v9 : Int32} {s0 : Int32} (h : fl_calls_544 σ v7 v8 v9 s0 = some o) : zz p l e ({ frames := 16, cells := 27, slots := 13082, locals := 672 } : Room) s m args below meth c A (gw D dA A σ ob ar) cells slots (MQ below (va_Qi (fun r (_ : Unit) => r = o.2 ∧ True) (fun _ t => gw D dA A o.1 ob ar t.heap) A) args s (27) (13082) A) 544 [(0, .ref ob), (4, .ref (ar 0)), (5, .ref (ar 1)), (6, .ref (ar 2)), (7, .int (v7)), (8, .int (v8)), (9, .int (v9))] [] [.int (s0)] := by
  obtain ⟨hcs1, hcs2⟩ := hcs
  unfold fl_calls_544 at h
  refine z_istore (lo' := [(10, .int (s0)), (0, .ref ob), (4, .ref (ar 0)), (5, .ref (ar 1)), (6, .ref (ar 2)), (7, .int (v7)), (8, .int (v8)), (9, .int (v9))]) X dL_calls_544 (by rw [hml]; decide) rfl rfl ?_
  refine z_aload_n X dL_calls_546 rfl rfl ?_
  refine z_iload X dL_calls_547 rfl ?_
  refine z_iload X dL_calls_549 rfl ?_
  obtain ⟨o1, co1, h⟩ := zb2 h
  obtain ⟨σ2, eσ2, h⟩ := zb h
  refine l_a (As := [.int (v7), .int (s0)]) (rest := []) (nA := 2) (mc := 6) (ms := 1838) (rm := ({ frames := 12, cells := 6, slots := 1838, locals := 504 } : Room)) (o := o1) X (fun _ h11 => cc_move l X.2.2.2.2.2.2.2.2 X.2.2.2.2.2.2.1 h11 (ao_eq co1)) n_787 n_788 n_789 n_1 n_790 nh_yX11_move ⟨rfl, rfl, Nat.le_of_ble_eq_true rfl, Nat.le_of_ble_eq_true rfl⟩ rfl rfl (Nat.le_of_ble_eq_true rfl) dL_calls_551 ⟨by show _ ≤ 27; omega, by show _ ≤ 13082; omega⟩ ?_
  rw [eσ2]
  obtain ⟨x3, ex3, h⟩ := zb h
  rw [ex3]
  refine z_istore (lo' := [(11, .int (x3)), (10, .int (s0)), (0, .ref ob), (4, .ref (ar 0)), (5, .ref (ar 1)), (6, .ref (ar 2)), (7, .int (v7)), (8, .int (v8)), (9, .int (v9))]) X dL_calls_554 (by rw [hml]; decide) rfl rfl ?_
  refine z_iload X dL_calls_556 rfl ?_
  refine z_if_lt (tgt := 568) X dL_calls_558 (by decide) (fun q => ?_) (fun q => ?_)
  · have h := zp q h
    refine zz.pick (lo' := [(0, .ref ob), (7, .int (v7)), (8, .int (v8)), (10, .int (s0)), (11, .int (x3))]) [0, 7, 8, 10, 11] rfl ?_
    exact bl_calls_568 X Y hml hr ⟨by omega, by omega⟩ h
  · have h := zn q h
    refine z_iload X dL_calls_561 rfl ?_
    refine z_iload X dL_calls_563 rfl ?_
    refine z_icmp_ne (tgt := 611) X dL_calls_565 (by decide) (fun q => ?_) (fun q => ?_)
    · have h := zp q h
      refine zz.pick (lo' := [(0, .ref ob), (7, .int (v7)), (8, .int (v8)), (10, .int (s0)), (11, .int (x3))]) [0, 7, 8, 10, 11] rfl ?_
      exact bl_calls_568 X Y hml hr ⟨by omega, by omega⟩ h
    · have h := zn q h
      refine z_iload X dL_calls_611 rfl ?_
      refine z_iconst (v := 1) X dL_calls_613 (by decide) ?_
      refine z_iadd X dL_calls_614 ?_
      refine z_bipush (v := 8) X dL_calls_615 (by decide) ?_
      refine z_irem X dL_calls_617 (by decide) ?_
      refine z_iload X dL_calls_618 rfl ?_
      refine z_icmp_eq (tgt := 635) X dL_calls_620 (by decide) (fun q => ?_) (fun q => ?_)
      · have h := zp q h
        refine zz.pick (lo' := [(0, .ref ob), (4, .ref (ar 0)), (5, .ref (ar 1)), (6, .ref (ar 2)), (7, .int (v7)), (8, .int (v8)), (10, .int (s0)), (11, .int (x3))]) [0, 4, 5, 6, 7, 8, 10, 11] rfl ?_
        exact bl_calls_635 X Y hml hr ⟨by omega, by omega⟩ h
      · have h := zn q h
        refine z_iload X dL_calls_623 rfl ?_
        refine z_iconst (v := 1) X dL_calls_625 (by decide) ?_
        refine z_iadd X dL_calls_626 ?_
        refine z_bipush (v := 8) X dL_calls_627 (by decide) ?_
        refine z_irem X dL_calls_629 (by decide) ?_
        refine z_iload X dL_calls_630 rfl ?_
        refine z_icmp_ne (tgt := 639) X dL_calls_632 (by decide) (fun q => ?_) (fun q => ?_)
        · have h := zp q h
          refine zz.pick (lo' := [(0, .ref ob), (4, .ref (ar 0)), (5, .ref (ar 1)), (6, .ref (ar 2)), (7, .int (v7)), (8, .int (v8)), (10, .int (s0)), (11, .int (x3))]) [0, 4, 5, 6, 7, 8, 10, 11] rfl ?_
          exact bl_calls_635 X Y hml hr ⟨by omega, by omega⟩ h
        · have h := zn q h
          refine z_iconst (v := 0) X dL_calls_639 (by decide) ?_
          refine zz.pick (lo' := [(0, .ref ob), (4, .ref (ar 0)), (5, .ref (ar 1)), (6, .ref (ar 2)), (7, .int (v7)), (8, .int (v8)), (10, .int (s0)), (11, .int (x3))]) [0, 4, 5, 6, 7, 8, 10, 11] rfl ?_
          exact bl_calls_640 X Y hml hr ⟨by omega, by omega⟩ h
def fl_calls_540 (σ : GS) (v7 : Int32) (v8 : Int32) (v9 : Int32) (s0 : Int32) (s1 : Int32) : Option (GS × Int32) := fl_calls_544 σ v7 v8 v9 ((s0 + s1) - (s0 + s1) / 8 * 8)
set_option maxRecDepth 100000 in
set_option maxHeartbeats 4000000 in
theorem bl_calls_540 {p : Program} {l : Launch} {e : Env} {s : State} {m : MethodId} {args : Array Value} {below : List Frame} {meth : Method} {c : Code} {D : va_G} {dA : Nat → ClassId} {A : Nat → Prop} {ar : Nat → Nat} {ob b Ls : Nat} {sc : Nat → Int32} {o : GS × Int32} (X : zc p l s m args meth c cL_calls RL D dA A) (Y : zY s A b Ls sc) (hml : c.maxLocals = 13) (hr : meth.sig.returnType = (some .boolean)) {cells slots : Nat} (hcs : cells + (6) ≤ 27 ∧ slots + (1838) ≤ 13082) {σ : GS} {v7 : Int32} {v8 : Int32} {v9 : Int32} {s0 : Int32} {s1 : Int32} (h : fl_calls_540 σ v7 v8 v9 s0 s1 = some o) : zz p l e ({ frames := 16, cells := 27, slots := 13082, locals := 672 } : Room) s m args below meth c A (gw D dA A σ ob ar) cells slots (MQ below (va_Qi (fun r (_ : Unit) => r = o.2 ∧ True) (fun _ t => gw D dA A o.1 ob ar t.heap) A) args s (27) (13082) A) 540 [(0, .ref ob), (4, .ref (ar 0)), (5, .ref (ar 1)), (6, .ref (ar 2)), (7, .int (v7)), (8, .int (v8)), (9, .int (v9))] [] [.int (s1), .int (s0)] := by
  obtain ⟨hcs1, hcs2⟩ := hcs
  unfold fl_calls_540 at h
  refine z_iadd X dL_calls_540 ?_
  refine z_bipush (v := 8) X dL_calls_541 (by decide) ?_
  refine z_irem X dL_calls_543 (by decide) ?_
  refine zz.pick (lo' := [(0, .ref ob), (4, .ref (ar 0)), (5, .ref (ar 1)), (6, .ref (ar 2)), (7, .int (v7)), (8, .int (v8)), (9, .int (v9))]) [0, 4, 5, 6, 7, 8, 9] rfl ?_
  exact bl_calls_544 X Y hml hr ⟨by omega, by omega⟩ h
def fl_calls (σ : GS) (a1 : Int32) (a2 : Int32) (a3 : Int32) : Option (GS × Int32) := (some ((a2 - a2 / 10 * 10))).bind fun x1 => (if a1 = 0 then (some ((a3 - a3 / 10 * 10))).bind fun x2 => (aq_legOf σ.1 (x1)).bind fun o3 => (if 0 ≤ o3 then fl_calls_34 σ a3 x1 x2
  else (aq_legOf σ.1 (x2)).bind fun o4 => (if o4 < 0 then fl_calls_39 σ a3 x1 x2 0
  else fl_calls_34 σ a3 x1 x2))
  else (if a1 = 1 then (if (σ.2 2 (1 : Int32).toNatClampNeg) = 0 then some (σ, 1)
  else (if 4 ≤ (σ.2 2 (1 : Int32).toNatClampNeg) then fl_calls_204 σ a3 x1 ((σ.2 2 (1 : Int32).toNatClampNeg) - 1) a3 4
  else fl_calls_204 σ a3 x1 ((σ.2 2 (1 : Int32).toNatClampNeg) - 1) a3 (σ.2 2 (1 : Int32).toNatClampNeg)))
  else (aq_legOf σ.1 (x1)).bind fun o5 => (if a1 = 2 then (if 0 ≤ o5 then if o5 < 0 ∨ 64 ≤ (o5).toNatClampNeg then none else (fl_part σ ((σ.2 0 (o5).toNatClampNeg)) (4) (6)).bind fun o7 => fl_calls_407 σ x1 o5 o7
  else fl_calls_407 σ x1 o5 (-1))
  else (aq_cellOf σ.1 (x1)).bind fun o8 => (if (a3 - a3 / 3 * 3) = 0 then fl_calls_544 σ x1 o5 o8 ((a3 / 3) - (a3 / 3) / 8 * 8)
  else (if (a3 - a3 / 3 * 3) = 1 then fl_calls_540 σ x1 o5 o8 o8 1
  else fl_calls_540 σ x1 o5 o8 o8 7)))))
set_option maxRecDepth 100000 in
set_option maxHeartbeats 4000000 in
theorem bl_calls {p : Program} {l : Launch} {e : Env} {s : State} {m : MethodId} {args : Array Value} {below : List Frame} {meth : Method} {c : Code} {D : va_G} {dA : Nat → ClassId} {A : Nat → Prop} {ar : Nat → Nat} {ob b Ls : Nat} {sc : Nat → Int32} {o : GS × Int32} (X : zc p l s m args meth c cL_calls RL D dA A) (Y : zY s A b Ls sc) (hml : c.maxLocals = 13) (hr : meth.sig.returnType = (some .boolean)) {cells slots : Nat} (hcs : cells + (27) ≤ 27 ∧ slots + (13082) ≤ 13082) {σ : GS} {a1 : Int32} {a2 : Int32} {a3 : Int32} (h : fl_calls σ a1 a2 a3 = some o) : zz p l e ({ frames := 16, cells := 27, slots := 13082, locals := 672 } : Room) s m args below meth c A (gw D dA A σ ob ar) cells slots (MQ below (va_Qi (fun r (_ : Unit) => r = o.2 ∧ True) (fun _ t => gw D dA A o.1 ob ar t.heap) A) args s (27) (13082) A) 0 [(0, .ref ob), (1, .int (a1)), (2, .int (a2)), (3, .int (a3)), (4, .ref (ar 0)), (5, .ref (ar 1)), (6, .ref (ar 2))] [] [] := by
  obtain ⟨hcs1, hcs2⟩ := hcs
  unfold fl_calls at h
  refine z_iload_n X dL_calls_0 rfl rfl ?_
  refine z_bipush (v := 10) X dL_calls_1 (by decide) ?_
  refine z_irem X dL_calls_3 (by decide) ?_
  obtain ⟨x1, ex1, h⟩ := zb h
  rw [ex1]
  refine z_istore (lo' := [(7, .int (x1)), (0, .ref ob), (1, .int (a1)), (2, .int (a2)), (3, .int (a3)), (4, .ref (ar 0)), (5, .ref (ar 1)), (6, .ref (ar 2))]) X dL_calls_4 (by rw [hml]; decide) rfl rfl ?_
  refine z_iload_n X dL_calls_6 rfl rfl ?_
  refine z_if_ne (tgt := 167) X dL_calls_7 (by decide) (fun q => ?_) (fun q => ?_)
  · have h := zp q h
    refine z_iload_n X dL_calls_10 rfl rfl ?_
    refine z_bipush (v := 10) X dL_calls_11 (by decide) ?_
    refine z_irem X dL_calls_13 (by decide) ?_
    obtain ⟨x2, ex2, h⟩ := zb h
    rw [ex2]
    refine z_istore (lo' := [(8, .int (x2)), (7, .int (x1)), (0, .ref ob), (1, .int (a1)), (2, .int (a2)), (3, .int (a3)), (4, .ref (ar 0)), (5, .ref (ar 1)), (6, .ref (ar 2))]) X dL_calls_14 (by rw [hml]; decide) rfl rfl ?_
    refine z_aload_n X dL_calls_16 rfl rfl ?_
    refine z_iload X dL_calls_17 rfl ?_
    obtain ⟨o3, co3, h⟩ := zb2 h
    refine l_q (As := [.int (x1)]) (rest := []) (nA := 1) (mc := 0) (ms := 0) (rm := ({ frames := 7, cells := 0, slots := 0, locals := 294 } : Room)) (r0 := o3) X (fun _ h11 => cz_legOf l X.2.2.2.2.2.2.2.2 X.2.2.2.2.2.2.1 h11 (fun _ z => nomatch z) (qo_eq co3)) n_313 n_314 n_315 n_1 n_316 nh_yX11_legOf ⟨rfl, rfl, Nat.le_of_ble_eq_true rfl, Nat.le_of_ble_eq_true rfl⟩ rfl rfl (Nat.le_of_ble_eq_true rfl) dL_calls_19 ⟨by show _ ≤ 27; omega, by show _ ≤ 13082; omega⟩ ?_
    refine z_if_ge (tgt := 34) X dL_calls_22 (by decide) (fun q => ?_) (fun q => ?_)
    · have h := zp q h
      refine zz.pick (lo' := [(0, .ref ob), (3, .int (a3)), (4, .ref (ar 0)), (5, .ref (ar 1)), (6, .ref (ar 2)), (7, .int (x1)), (8, .int (x2))]) [0, 3, 4, 5, 6, 7, 8] rfl ?_
      exact bl_calls_34 X Y hml hr ⟨by omega, by omega⟩ h
    · have h := zn q h
      refine z_aload_n X dL_calls_25 rfl rfl ?_
      refine z_iload X dL_calls_26 rfl ?_
      obtain ⟨o4, co4, h⟩ := zb2 h
      refine l_q (As := [.int (x2)]) (rest := []) (nA := 1) (mc := 0) (ms := 0) (rm := ({ frames := 7, cells := 0, slots := 0, locals := 294 } : Room)) (r0 := o4) X (fun _ h11 => cz_legOf l X.2.2.2.2.2.2.2.2 X.2.2.2.2.2.2.1 h11 (fun _ z => nomatch z) (qo_eq co4)) n_313 n_314 n_315 n_1 n_316 nh_yX11_legOf ⟨rfl, rfl, Nat.le_of_ble_eq_true rfl, Nat.le_of_ble_eq_true rfl⟩ rfl rfl (Nat.le_of_ble_eq_true rfl) dL_calls_28 ⟨by show _ ≤ 27; omega, by show _ ≤ 13082; omega⟩ ?_
      refine z_if_lt (tgt := 38) X dL_calls_31 (by decide) (fun q => ?_) (fun q => ?_)
      · have h := zp q h
        refine z_iconst (v := 0) X dL_calls_38 (by decide) ?_
        refine zz.pick (lo' := [(0, .ref ob), (3, .int (a3)), (4, .ref (ar 0)), (5, .ref (ar 1)), (6, .ref (ar 2)), (7, .int (x1)), (8, .int (x2))]) [0, 3, 4, 5, 6, 7, 8] rfl ?_
        exact bl_calls_39 X Y hml hr ⟨by omega, by omega⟩ h
      · have h := zn q h
        refine zz.pick (lo' := [(0, .ref ob), (3, .int (a3)), (4, .ref (ar 0)), (5, .ref (ar 1)), (6, .ref (ar 2)), (7, .int (x1)), (8, .int (x2))]) [0, 3, 4, 5, 6, 7, 8] rfl ?_
        exact bl_calls_34 X Y hml hr ⟨by omega, by omega⟩ h
  · have h := zn q h
    refine z_iload_n X dL_calls_167 rfl rfl ?_
    refine z_iconst (v := 1) X dL_calls_168 (by decide) ?_
    refine z_icmp_ne (tgt := 374) X dL_calls_169 (by decide) (fun q => ?_) (fun q => ?_)
    · have h := zp q h
      refine z_aload X dL_calls_172 rfl ?_
      refine z_iconst (v := 1) X dL_calls_174 (by decide) ?_
      refine l_ald X 2 rfl (by decide) dL_calls_175 ?_
      refine z_if_ne (tgt := 181) X dL_calls_176 (by decide) (fun q => ?_) (fun q => ?_)
      · have h := zp q h
        refine z_iconst (v := 1) X dL_calls_179 (by decide) ?_
        obtain rfl := Option.some.inj h
        refine zz.widen (k := 27) (n := 13082) (by omega) (by omega) ?_
        exact z_iret X hr rfl (fun t hG hF _ => ⟨⟨_, (), rfl, ⟨rfl, trivial⟩, hG⟩, hF⟩) dL_calls_180
      · have h := zn q h
        refine z_aload X dL_calls_181 rfl ?_
        refine z_iconst (v := 1) X dL_calls_183 (by decide) ?_
        refine l_ald X 2 rfl (by decide) dL_calls_184 ?_
        refine z_iconst (v := 1) X dL_calls_185 (by decide) ?_
        refine z_isub X dL_calls_186 ?_
        refine z_iload_n X dL_calls_187 rfl rfl ?_
        refine z_aload X dL_calls_188 rfl ?_
        refine z_iconst (v := 1) X dL_calls_190 (by decide) ?_
        refine l_ald X 2 rfl (by decide) dL_calls_191 ?_
        refine z_iconst (v := 4) X dL_calls_192 (by decide) ?_
        refine z_icmp_ge (tgt := 203) X dL_calls_193 (by decide) (fun q => ?_) (fun q => ?_)
        · have h := zp q h
          refine z_iconst (v := 4) X dL_calls_203 (by decide) ?_
          refine zz.pick (lo' := [(0, .ref ob), (3, .int (a3)), (4, .ref (ar 0)), (5, .ref (ar 1)), (6, .ref (ar 2)), (7, .int (x1))]) [0, 3, 4, 5, 6, 7] rfl ?_
          exact bl_calls_204 X Y hml hr ⟨by omega, by omega⟩ h
        · have h := zn q h
          refine z_aload X dL_calls_196 rfl ?_
          refine z_iconst (v := 1) X dL_calls_198 (by decide) ?_
          refine l_ald X 2 rfl (by decide) dL_calls_199 ?_
          refine z_goto (tgt := 204) X dL_calls_200 (by decide) ?_
          refine zz.pick (lo' := [(0, .ref ob), (3, .int (a3)), (4, .ref (ar 0)), (5, .ref (ar 1)), (6, .ref (ar 2)), (7, .int (x1))]) [0, 3, 4, 5, 6, 7] rfl ?_
          exact bl_calls_204 X Y hml hr ⟨by omega, by omega⟩ h
    · have h := zn q h
      refine z_aload_n X dL_calls_374 rfl rfl ?_
      refine z_iload X dL_calls_375 rfl ?_
      obtain ⟨o5, co5, h⟩ := zb2 h
      refine l_q (As := [.int (x1)]) (rest := []) (nA := 1) (mc := 0) (ms := 0) (rm := ({ frames := 7, cells := 0, slots := 0, locals := 294 } : Room)) (r0 := o5) X (fun _ h11 => cz_legOf l X.2.2.2.2.2.2.2.2 X.2.2.2.2.2.2.1 h11 (fun _ z => nomatch z) (qo_eq co5)) n_313 n_314 n_315 n_1 n_316 nh_yX11_legOf ⟨rfl, rfl, Nat.le_of_ble_eq_true rfl, Nat.le_of_ble_eq_true rfl⟩ rfl rfl (Nat.le_of_ble_eq_true rfl) dL_calls_377 ⟨by show _ ≤ 27; omega, by show _ ≤ 13082; omega⟩ ?_
      refine z_istore (lo' := [(8, .int (o5)), (7, .int (x1)), (0, .ref ob), (1, .int (a1)), (2, .int (a2)), (3, .int (a3)), (4, .ref (ar 0)), (5, .ref (ar 1)), (6, .ref (ar 2))]) X dL_calls_380 (by rw [hml]; decide) rfl rfl ?_
      refine z_iload_n X dL_calls_382 rfl rfl ?_
      refine z_iconst (v := 2) X dL_calls_383 (by decide) ?_
      refine z_icmp_ne (tgt := 502) X dL_calls_384 (by decide) (fun q => ?_) (fun q => ?_)
      · have h := zp q h
        refine z_iload X dL_calls_387 rfl ?_
        refine z_if_ge (tgt := 396) X dL_calls_389 (by decide) (fun q => ?_) (fun q => ?_)
        · have h := zp q h
          refine z_aload X dL_calls_396 rfl ?_
          refine z_iload X dL_calls_398 rfl ?_
          obtain ⟨q6, h⟩ := zg h
          refine l_ald X 0 rfl q6 dL_calls_400 ?_
          refine z_iconst (v := 4) X dL_calls_401 (by decide) ?_
          refine z_bipush (v := 6) X dL_calls_402 (by decide) ?_
          obtain ⟨o7, co7, h⟩ := zb2 h
          refine z_lSi (As := [.int ((σ.2 0 (o5).toNatClampNeg)), .int (4), .int (6)]) (rest := []) (nA := 3) (mc := 0) (ms := 0) (r0 := o7) (pu := fun (_ : Unit) => True) (G1 := fun _ => gw D dA A σ ob ar) X Y (ll_part l X.2.2.2.2.2.2.2.2 X.2.2.2.2.2.2.1 Y.2.2.2 co7) n_784 n_785 n_0 n_786 nh_yL_part ⟨rfl, rfl, Nat.le_of_ble_eq_true rfl, Nat.le_of_ble_eq_true rfl⟩ rfl rfl (Nat.le_of_ble_eq_true rfl) dL_calls_404 ⟨by show _ ≤ 27; omega, by show _ ≤ 13082; omega⟩ (fun _ _ => ?_)
          refine zz.pick (lo' := [(0, .ref ob), (7, .int (x1)), (8, .int (o5))]) [0, 7, 8] rfl ?_
          exact bl_calls_407 X Y hml hr ⟨by omega, by omega⟩ h
        · have h := zn q h
          refine z_iconst (v := (-1)) X dL_calls_392 (by decide) ?_
          refine z_goto (tgt := 407) X dL_calls_393 (by decide) ?_
          refine zz.pick (lo' := [(0, .ref ob), (7, .int (x1)), (8, .int (o5))]) [0, 7, 8] rfl ?_
          exact bl_calls_407 X Y hml hr ⟨by omega, by omega⟩ h
      · have h := zn q h
        refine z_aload_n X dL_calls_502 rfl rfl ?_
        refine z_iload X dL_calls_503 rfl ?_
        obtain ⟨o8, co8, h⟩ := zb2 h
        refine l_q (As := [.int (x1)]) (rest := []) (nA := 1) (mc := 0) (ms := 0) (rm := ({ frames := 7, cells := 0, slots := 0, locals := 294 } : Room)) (r0 := o8) X (fun _ h11 => cz_cellOf l X.2.2.2.2.2.2.2.2 X.2.2.2.2.2.2.1 h11 (fun _ z => nomatch z) (qo_eq co8)) n_761 n_762 n_763 n_1 n_764 nh_yX11_cellOf ⟨rfl, rfl, Nat.le_of_ble_eq_true rfl, Nat.le_of_ble_eq_true rfl⟩ rfl rfl (Nat.le_of_ble_eq_true rfl) dL_calls_505 ⟨by show _ ≤ 27; omega, by show _ ≤ 13082; omega⟩ ?_
        refine z_istore (lo' := [(9, .int (o8)), (8, .int (o5)), (7, .int (x1)), (0, .ref ob), (1, .int (a1)), (2, .int (a2)), (3, .int (a3)), (4, .ref (ar 0)), (5, .ref (ar 1)), (6, .ref (ar 2))]) X dL_calls_508 (by rw [hml]; decide) rfl rfl ?_
        refine z_iload_n X dL_calls_510 rfl rfl ?_
        refine z_iconst (v := 3) X dL_calls_511 (by decide) ?_
        refine z_irem X dL_calls_512 (by decide) ?_
        refine z_if_ne (tgt := 525) X dL_calls_513 (by decide) (fun q => ?_) (fun q => ?_)
        · have h := zp q h
          refine z_iload_n X dL_calls_516 rfl rfl ?_
          refine z_iconst (v := 3) X dL_calls_517 (by decide) ?_
          refine z_idiv X dL_calls_518 (by decide) ?_
          refine z_bipush (v := 8) X dL_calls_519 (by decide) ?_
          refine z_irem X dL_calls_521 (by decide) ?_
          refine z_goto (tgt := 544) X dL_calls_522 (by decide) ?_
          refine zz.pick (lo' := [(0, .ref ob), (4, .ref (ar 0)), (5, .ref (ar 1)), (6, .ref (ar 2)), (7, .int (x1)), (8, .int (o5)), (9, .int (o8))]) [0, 4, 5, 6, 7, 8, 9] rfl ?_
          exact bl_calls_544 X Y hml hr ⟨by omega, by omega⟩ h
        · have h := zn q h
          refine z_iload X dL_calls_525 rfl ?_
          refine z_iload_n X dL_calls_527 rfl rfl ?_
          refine z_iconst (v := 3) X dL_calls_528 (by decide) ?_
          refine z_irem X dL_calls_529 (by decide) ?_
          refine z_iconst (v := 1) X dL_calls_530 (by decide) ?_
          refine z_icmp_ne (tgt := 538) X dL_calls_531 (by decide) (fun q => ?_) (fun q => ?_)
          · have h := zp q h
            refine z_iconst (v := 1) X dL_calls_534 (by decide) ?_
            refine z_goto (tgt := 540) X dL_calls_535 (by decide) ?_
            refine zz.pick (lo' := [(0, .ref ob), (4, .ref (ar 0)), (5, .ref (ar 1)), (6, .ref (ar 2)), (7, .int (x1)), (8, .int (o5)), (9, .int (o8))]) [0, 4, 5, 6, 7, 8, 9] rfl ?_
            exact bl_calls_540 X Y hml hr ⟨by omega, by omega⟩ h
          · have h := zn q h
            refine z_bipush (v := 7) X dL_calls_538 (by decide) ?_
            refine zz.pick (lo' := [(0, .ref ob), (4, .ref (ar 0)), (5, .ref (ar 1)), (6, .ref (ar 2)), (7, .int (x1)), (8, .int (o5)), (9, .int (o8))]) [0, 4, 5, 6, 7, 8, 9] rfl ?_
            exact bl_calls_540 X Y hml hr ⟨by omega, by omega⟩ h
theorem ll_calls (l : Launch) {D : va_G} {dA : Nat → ClassId} {A : Nat → Prop} {n : Nat} {ar : Nat → Nat} {ob b Ls : Nat} {sc : Nat → Int32} (hst : l.stackTraces = false) (hA : ∀ q, n ≤ q → A q) (hbA : ¬ A b) {σ : GS} {a1 : Int32} {a2 : Int32} {a3 : Int32} {o : GS × Int32} (h : fl_calls σ a1 a2 a3 = some o) : Met l yL_calls (.code yL_calls cL_calls 13 (some .boolean) :: gT) ({ frames := 16, cells := 27, slots := 13082, locals := 672 } : Room) (va_Pc [.ref ob, .int (a1), .int (a2), .int (a3), .ref (ar 0), .ref (ar 1), .ref (ar 2)] (zBL D dA A n b Ls sc (gw D dA A σ ob ar))) (va_Qi (fun r (_ : Unit) => r = o.2 ∧ True) (fun _ t => gw D dA A o.1 ob ar t.heap) A) (27) (13082) A :=
  z_metL (by decide) hA hbA hst (Nat.le_of_ble_eq_true rfl) rfl rfl (fun p e s m below meth c X Y hml hr => bl_calls X Y hml hr ⟨by omega, by omega⟩ h)
