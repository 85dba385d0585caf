-- reads(LMeshBiller;III)I
def fl_reads_63 (k25 : GS → Int32 → Int32 → Int32 → Int32 → Option (Int32)) (σ : GS) (v1 : Int32) (v3 : Int32) (v4 : Int32) (s0 : Int32) : Option (Int32) := (some ((v4 / 10))).bind fun x1 => k25 σ v1 v3 x1 s0
set_option maxRecDepth 100000 in
set_option maxHeartbeats 4000000 in
theorem bl_reads_63 {p : Program} {l : Launch} {e : Env} {s : State} {m : MethodId} {args : Array Value} {below : List Frame} {meth : Method} {c : Code} {D : va_G} {dA : Nat → ClassId} {A : Nat → Prop} {ar : Nat → Nat} {ob b Ls : Nat} {sc : Nat → Int32} {σ : GS} {o : Int32} (X : zc p l s m args meth c cL_reads RL D dA A) (Y : zY s A b Ls sc) (hml : c.maxLocals = 6) (hr : meth.sig.returnType = (some .int)) {n : Nat} {k25 : GS → Int32 → Int32 → Int32 → Int32 → Option (Int32)} (hk25 : ∀ {cells slots : Nat} (hcs : cells + (14 * n + 0) ≤ 154 ∧ slots + (400 * n + 0) ≤ 4400) {v1 : Int32} {v3 : Int32} {v4 : Int32} {v5 : Int32}, k25 σ v1 v3 v4 v5 = some o → zz p l e ({ frames := 13, cells := 154, slots := 4400, locals := 546 } : Room) s m args below meth c A (gw D dA A σ ob ar) cells slots (MQ below (va_Qi (fun r (_ : Unit) => r = o ∧ True) (fun _ t => gw D dA A σ ob ar t.heap) A) args s (154) (4400) A) 25 [(0, .ref ob), (1, .int (v1)), (3, .int (v3)), (4, .int (v4)), (5, .int (v5))] [] []) {cells slots : Nat} (hcs : cells + (0 + 14 * n + 0) ≤ 154 ∧ slots + (0 + 400 * n + 0) ≤ 4400) {v1 : Int32} {v3 : Int32} {v4 : Int32} {s0 : Int32} (h : fl_reads_63 k25 σ v1 v3 v4 s0 = some o) : zz p l e ({ frames := 13, cells := 154, slots := 4400, locals := 546 } : Room) s m args below meth c A (gw D dA A σ ob ar) cells slots (MQ below (va_Qi (fun r (_ : Unit) => r = o ∧ True) (fun _ t => gw D dA A σ ob ar t.heap) A) args s (154) (4400) A) 63 [(0, .ref ob), (1, .int (v1)), (3, .int (v3)), (4, .int (v4))] [] [.int (s0)] := by
  obtain ⟨hcs1, hcs2⟩ := hcs
  unfold fl_reads_63 at h
  refine z_istore (lo' := [(5, .int (s0)), (0, .ref ob), (1, .int (v1)), (3, .int (v3)), (4, .int (v4))]) X dL_reads_63 (by rw [hml]; decide) rfl rfl ?_
  refine z_iload X dL_reads_65 rfl ?_
  refine z_bipush (v := 10) X dL_reads_67 (by decide) ?_
  refine z_idiv X dL_reads_69 (by decide) ?_
  obtain ⟨x1, ex1, h⟩ := zb h
  rw [ex1]
  refine z_istore (lo' := [(4, .int (x1)), (5, .int (s0)), (0, .ref ob), (1, .int (v1)), (3, .int (v3))]) X dL_reads_70 (by rw [hml]; decide) rfl rfl ?_
  refine z_goto (tgt := 25) X dL_reads_72 (by decide) ?_
  refine zz.pick (lo' := [(0, .ref ob), (1, .int (v1)), (3, .int (v3)), (4, .int (x1)), (5, .int (s0))]) [0, 1, 3, 4, 5] rfl ?_
  exact hk25 ⟨by omega, by omega⟩ h
def fl_reads_25 : Nat → GS → Int32 → Int32 → Int32 → Int32 → Option (Int32)
  | 0, _, _, _, _, _ => none
  | n + 1, σ, v1, v3, v4, v5 => (if v4 ≤ 0 then some (v5)
  else (if v5 < 0 then some (v5)
  else (aq_lineAt σ.1 (v1) (v5)).bind fun o1 => if v4 = 0 then none else (if o1 = (48 + ((v3 / v4) - (v3 / v4) / 10 * 10)) then fl_reads_63 (fl_reads_25 n) σ v1 v3 v4 (v5 + 1)
  else fl_reads_63 (fl_reads_25 n) σ v1 v3 v4 (-1))))
set_option maxRecDepth 100000 in
set_option maxHeartbeats 4000000 in
theorem bl_reads_25 {p : Program} {l : Launch} {e : Env} {s : State} {m : MethodId} {args : Array Value} {below : List Frame} {meth : Method} {c : Code} {D : va_G} {dA : Nat → ClassId} {A : Nat → Prop} {ar : Nat → Nat} {ob b Ls : Nat} {sc : Nat → Int32} {σ : GS} {o : Int32} (X : zc p l s m args meth c cL_reads RL D dA A) (Y : zY s A b Ls sc) (hml : c.maxLocals = 6) (hr : meth.sig.returnType = (some .int)) : ∀ (n : Nat) {cells slots : Nat} (hcs : cells + (14 * n + 0) ≤ 154 ∧ slots + (400 * n + 0) ≤ 4400) {v1 : Int32} {v3 : Int32} {v4 : Int32} {v5 : Int32}, fl_reads_25 n σ v1 v3 v4 v5 = some o → zz p l e ({ frames := 13, cells := 154, slots := 4400, locals := 546 } : Room) s m args below meth c A (gw D dA A σ ob ar) cells slots (MQ below (va_Qi (fun r (_ : Unit) => r = o ∧ True) (fun _ t => gw D dA A σ ob ar t.heap) A) args s (154) (4400) A) 25 [(0, .ref ob), (1, .int (v1)), (3, .int (v3)), (4, .int (v4)), (5, .int (v5))] [] [] := by
  intro n
  induction n with
  | zero => intro cells slots hcs v1 v3 v4 v5 h; exact (nomatch (show none = some o from h))
  | succ n ih =>
    intro cells slots hcs v1 v3 v4 v5 h
    obtain ⟨hcs1, hcs2⟩ := hcs
    rw [fl_reads_25] at h
    refine z_iload X dL_reads_25 rfl ?_
    refine z_if_le (tgt := 75) X dL_reads_27 (by decide) (fun q => ?_) (fun q => ?_)
    · have h := zp q h
      refine z_iload X dL_reads_75 rfl ?_
      obtain rfl := Option.some.inj h
      refine zz.widen (k := 154) (n := 4400) (by omega) (by omega) ?_
      exact z_iret X hr rfl (fun t hG hF _ => ⟨⟨_, (), rfl, ⟨rfl, trivial⟩, hG⟩, hF⟩) dL_reads_77
    · have h := zn q h
      refine z_iload X dL_reads_30 rfl ?_
      refine z_if_lt (tgt := 75) X dL_reads_32 (by decide) (fun q => ?_) (fun q => ?_)
      · have h := zp q h
        refine z_iload X dL_reads_75 rfl ?_
        obtain rfl := Option.some.inj h
        refine zz.widen (k := 154) (n := 4400) (by omega) (by omega) ?_
        exact z_iret X hr rfl (fun t hG hF _ => ⟨⟨_, (), rfl, ⟨rfl, trivial⟩, hG⟩, hF⟩) dL_reads_77
      · have h := zn q h
        refine z_aload_n X dL_reads_35 rfl rfl ?_
        refine z_iload_n X dL_reads_36 rfl rfl ?_
        refine z_iload X dL_reads_37 rfl ?_
        obtain ⟨o1, co1, h⟩ := zb2 h
        refine l_q (As := [.int (v1), .int (v5)]) (rest := []) (nA := 2) (mc := 14) (ms := 400) (rm := ({ frames := 12, cells := 14, slots := 400, locals := 504 } : Room)) (r0 := o1) X (fun _ h11 => cc_lineAt l X.2.2.2.2.2.2.2.2 X.2.2.2.2.2.2.1 h11 (qo_eq co1)) n_970 n_971 n_972 n_1 n_973 nh_yX11_lineAt ⟨rfl, rfl, Nat.le_of_ble_eq_true rfl, Nat.le_of_ble_eq_true rfl⟩ rfl rfl (Nat.le_of_ble_eq_true rfl) dL_reads_39 ⟨by show _ ≤ 154; omega, by show _ ≤ 4400; omega⟩ ?_
        refine z_bipush (v := 48) X dL_reads_42 (by decide) ?_
        refine z_iload_n X dL_reads_44 rfl rfl ?_
        refine z_iload X dL_reads_45 rfl ?_
        obtain ⟨q2, h⟩ := zg h
        refine z_idiv X dL_reads_47 q2 ?_
        refine z_bipush (v := 10) X dL_reads_48 (by decide) ?_
        refine z_irem X dL_reads_50 (by decide) ?_
        refine z_iadd X dL_reads_51 ?_
        refine z_icmp_ne (tgt := 62) X dL_reads_52 (by decide) (fun q => ?_) (fun q => ?_)
        · have h := zp q h
          refine z_iload X dL_reads_55 rfl ?_
          refine z_iconst (v := 1) X dL_reads_57 (by decide) ?_
          refine z_iadd X dL_reads_58 ?_
          refine z_goto (tgt := 63) X dL_reads_59 (by decide) ?_
          refine zz.pick (lo' := [(0, .ref ob), (1, .int (v1)), (3, .int (v3)), (4, .int (v4))]) [0, 1, 3, 4] rfl ?_
          exact bl_reads_63 X Y hml hr ih ⟨by omega, by omega⟩ h
        · have h := zn q h
          refine z_iconst (v := (-1)) X dL_reads_62 (by decide) ?_
          refine zz.pick (lo' := [(0, .ref ob), (1, .int (v1)), (3, .int (v3)), (4, .int (v4))]) [0, 1, 3, 4] rfl ?_
          exact bl_reads_63 X Y hml hr ih ⟨by omega, by omega⟩ h
def fl_reads_6 : Nat → GS → Int32 → Int32 → Int32 → Int32 → Option (Int32)
  | 0, _, _, _, _, _ => none
  | n + 1, σ, v1, v3, v4, v5 => if v4 = 0 then none else (if (v3 / v4) ≤ 9 then fl_reads_25 11 σ v1 v3 v4 v5
  else (some ((v4 * 10))).bind fun x2 => fl_reads_6 n σ v1 v3 x2 v5)
set_option maxRecDepth 100000 in
set_option maxHeartbeats 4000000 in
theorem bl_reads_6 {p : Program} {l : Launch} {e : Env} {s : State} {m : MethodId} {args : Array Value} {below : List Frame} {meth : Method} {c : Code} {D : va_G} {dA : Nat → ClassId} {A : Nat → Prop} {ar : Nat → Nat} {ob b Ls : Nat} {sc : Nat → Int32} {σ : GS} {o : Int32} (X : zc p l s m args meth c cL_reads RL D dA A) (Y : zY s A b Ls sc) (hml : c.maxLocals = 6) (hr : meth.sig.returnType = (some .int)) : ∀ (n : Nat) {cells slots : Nat} (hcs : cells + (154) ≤ 154 ∧ slots + (4400) ≤ 4400) {v1 : Int32} {v3 : Int32} {v4 : Int32} {v5 : Int32}, fl_reads_6 n σ v1 v3 v4 v5 = some o → zz p l e ({ frames := 13, cells := 154, slots := 4400, locals := 546 } : Room) s m args below meth c A (gw D dA A σ ob ar) cells slots (MQ below (va_Qi (fun r (_ : Unit) => r = o ∧ True) (fun _ t => gw D dA A σ ob ar t.heap) A) args s (154) (4400) A) 6 [(0, .ref ob), (1, .int (v1)), (3, .int (v3)), (4, .int (v4)), (5, .int (v5))] [] [] := by
  intro n
  induction n with
  | zero => intro cells slots hcs v1 v3 v4 v5 h; exact (nomatch (show none = some o from h))
  | succ n ih =>
    intro cells slots hcs v1 v3 v4 v5 h
    obtain ⟨hcs1, hcs2⟩ := hcs
    rw [fl_reads_6] at h
    refine z_iload_n X dL_reads_6 rfl rfl ?_
    refine z_iload X dL_reads_7 rfl ?_
    obtain ⟨q1, h⟩ := zg h
    refine z_idiv X dL_reads_9 q1 ?_
    refine z_bipush (v := 9) X dL_reads_10 (by decide) ?_
    refine z_icmp_le (tgt := 25) X dL_reads_12 (by decide) (fun q => ?_) (fun q => ?_)
    · have h := zp q h
      refine zz.pick (lo' := [(0, .ref ob), (1, .int (v1)), (3, .int (v3)), (4, .int (v4)), (5, .int (v5))]) [0, 1, 3, 4, 5] rfl ?_
      exact bl_reads_25 X Y hml hr 11 ⟨by omega, by omega⟩ h
    · have h := zn q h
      refine z_iload X dL_reads_15 rfl ?_
      refine z_bipush (v := 10) X dL_reads_17 (by decide) ?_
      refine z_imul X dL_reads_19 ?_
      obtain ⟨x2, ex2, h⟩ := zb h
      rw [ex2]
      refine z_istore (lo' := [(4, .int (x2)), (0, .ref ob), (1, .int (v1)), (3, .int (v3)), (5, .int (v5))]) X dL_reads_20 (by rw [hml]; decide) rfl rfl ?_
      refine z_goto (tgt := 6) X dL_reads_22 (by decide) ?_
      refine zz.pick (lo' := [(0, .ref ob), (1, .int (v1)), (3, .int (v3)), (4, .int (x2)), (5, .int (v5))]) [0, 1, 3, 4, 5] rfl ?_
      exact ih ⟨by omega, by omega⟩ h
def fl_reads (σ : GS) (a1 : Int32) (a2 : Int32) (a3 : Int32) : Option (Int32) := fl_reads_6 FU σ a1 a3 1 a2
set_option maxRecDepth 100000 in
set_option maxHeartbeats 4000000 in
theorem bl_reads {p : Program} {l : Launch} {e : Env} {s : State} {m : MethodId} {args : Array Value} {below : List Frame} {meth : Method} {c : Code} {D : va_G} {dA : Nat → ClassId} {A : Nat → Prop} {ar : Nat → Nat} {ob b Ls : Nat} {sc : Nat → Int32} {σ : GS} {o : Int32} (X : zc p l s m args meth c cL_reads RL D dA A) (Y : zY s A b Ls sc) (hml : c.maxLocals = 6) (hr : meth.sig.returnType = (some .int)) {cells slots : Nat} (hcs : cells + (154) ≤ 154 ∧ slots + (4400) ≤ 4400) {a1 : Int32} {a2 : Int32} {a3 : Int32} (h : fl_reads σ a1 a2 a3 = some o) : zz p l e ({ frames := 13, cells := 154, slots := 4400, locals := 546 } : Room) s m args below meth c A (gw D dA A σ ob ar) cells slots (MQ below (va_Qi (fun r (_ : Unit) => r = o ∧ True) (fun _ t => gw D dA A σ ob ar t.heap) A) args s (154) (4400) A) 0 [(0, .ref ob), (1, .int (a1)), (2, .int (a2)), (3, .int (a3))] [] [] := by
  obtain ⟨hcs1, hcs2⟩ := hcs
  unfold fl_reads at h
  refine z_iconst (v := 1) X dL_reads_0 (by decide) ?_
  refine z_istore (lo' := [(4, .int (1)), (0, .ref ob), (1, .int (a1)), (2, .int (a2)), (3, .int (a3))]) X dL_reads_1 (by rw [hml]; decide) rfl rfl ?_
  refine z_iload_n X dL_reads_3 rfl rfl ?_
  refine z_istore (lo' := [(5, .int (a2)), (4, .int (1)), (0, .ref ob), (1, .int (a1)), (2, .int (a2)), (3, .int (a3))]) X dL_reads_4 (by rw [hml]; decide) rfl rfl ?_
  refine zz.pick (lo' := [(0, .ref ob), (1, .int (a1)), (3, .int (a3)), (4, .int (1)), (5, .int (a2))]) [0, 1, 3, 4, 5] rfl ?_
  exact bl_reads_6 X Y hml hr FU ⟨by omega, by omega⟩ h
theorem ll_reads (l : Launch) {D : va_G} {dA : Nat → ClassId} {A : Nat → Prop} {n : Nat} {ar : Nat → Nat} {ob b Ls : Nat} {sc : Nat → Int32} (hst : l.stackTraces = false) (hA : ∀ q, n ≤ q → A q) (hbA : ¬ A b) {σ : GS} {a1 : Int32} {a2 : Int32} {a3 : Int32} {o : Int32} (h : fl_reads σ a1 a2 a3 = some o) : Met l yL_reads (.code yL_reads cL_reads 6 (some .int) :: gT) ({ frames := 13, cells := 154, slots := 4400, locals := 546 } : Room) (va_Pc [.ref ob, .int (a1), .int (a2), .int (a3)] (zBL D dA A n b Ls sc (gw D dA A σ ob ar))) (va_Qi (fun r (_ : Unit) => r = o ∧ True) (fun _ t => gw D dA A σ ob ar t.heap) A) (154) (4400) A :=
  z_metL (by decide) hA hbA hst (Nat.le_of_ble_eq_true rfl) rfl rfl (fun p e s m below meth c X Y hml hr => bl_reads X Y hml hr ⟨by omega, by omega⟩ h)
-- isLine(LMeshBiller;I[I)Z
def fl_isLine_225 (σ : GS) (v1 : Int32) (v3 : Int32) : Option (Int32) := (if v3 ≤ 0 then some (0)
  else (aq_lineAt σ.1 (v1) (v3)).bind fun o1 => (if o1 = (-1) then some (1)
  else some (0)))
set_option maxRecDepth 100000 in
set_option maxHeartbeats 4000000 in
theorem bl_isLine_225 {p : Program} {l : Launch} {e : Env} {s : State} {m : MethodId} {args : Array Value} {below : List Frame} {meth : Method} {c : Code} {D : va_G} {dA : Nat → ClassId} {A : Nat → Prop} {ar : Nat → Nat} {ob b Ls : Nat} {sc : Nat → Int32} {σ : GS} {o : Int32} (X : zc p l s m args meth c cL_isLine RL D dA A) (Y : zY s A b Ls sc) (hml : c.maxLocals = 7) (hr : meth.sig.returnType = (some .boolean)) {cells slots : Nat} (hcs : cells + (14) ≤ 1036 ∧ slots + (400) ≤ 29600) {v1 : Int32} {v3 : Int32} (h : fl_isLine_225 σ v1 v3 = some o) : zz p l e ({ frames := 14, cells := 1036, slots := 29600, locals := 588 } : Room) s m args below meth c A (gw D dA A σ ob ar) cells slots (MQ below (va_Qi (fun r (_ : Unit) => r = o ∧ True) (fun _ t => gw D dA A σ ob ar t.heap) A) args s (1036) (29600) A) 225 [(0, .ref ob), (1, .int (v1)), (3, .int (v3))] [] [] := by
  obtain ⟨hcs1, hcs2⟩ := hcs
  unfold fl_isLine_225 at h
  refine z_iload_n X dL_isLine_225 rfl rfl ?_
  refine z_if_le (tgt := 243) X dL_isLine_226 (by decide) (fun q => ?_) (fun q => ?_)
  · have h := zp q h
    refine z_iconst (v := 0) X dL_isLine_243 (by decide) ?_
    obtain rfl := Option.some.inj h
    refine zz.widen (k := 1036) (n := 29600) (by omega) (by omega) ?_
    exact z_iret X hr rfl (fun t hG hF _ => ⟨⟨_, (), rfl, ⟨rfl, trivial⟩, hG⟩, hF⟩) dL_isLine_244
  · have h := zn q h
    refine z_aload_n X dL_isLine_229 rfl rfl ?_
    refine z_iload_n X dL_isLine_230 rfl rfl ?_
    refine z_iload_n X dL_isLine_231 rfl rfl ?_
    obtain ⟨o1, co1, h⟩ := zb2 h
    refine l_q (As := [.int (v1), .int (v3)]) (rest := []) (nA := 2) (mc := 14) (ms := 400) (rm := ({ frames := 12, cells := 14, slots := 400, locals := 504 } : Room)) (r0 := o1) X (fun _ h11 => cc_lineAt l X.2.2.2.2.2.2.2.2 X.2.2.2.2.2.2.1 h11 (qo_eq co1)) n_970 n_971 n_972 n_1 n_973 nh_yX11_lineAt ⟨rfl, rfl, Nat.le_of_ble_eq_true rfl, Nat.le_of_ble_eq_true rfl⟩ rfl rfl (Nat.le_of_ble_eq_true rfl) dL_isLine_232 ⟨by show _ ≤ 1036; omega, by show _ ≤ 29600; omega⟩ ?_
    refine z_iconst (v := (-1)) X dL_isLine_235 (by decide) ?_
    refine z_icmp_ne (tgt := 243) X dL_isLine_236 (by decide) (fun q => ?_) (fun q => ?_)
    · have h := zp q h
      refine z_iconst (v := 1) X dL_isLine_239 (by decide) ?_
      refine z_goto (tgt := 244) X dL_isLine_240 (by decide) ?_
      obtain rfl := Option.some.inj h
      refine zz.widen (k := 1036) (n := 29600) (by omega) (by omega) ?_
      exact z_iret X hr rfl (fun t hG hF _ => ⟨⟨_, (), rfl, ⟨rfl, trivial⟩, hG⟩, hF⟩) dL_isLine_244
    · have h := zn q h
      refine z_iconst (v := 0) X dL_isLine_243 (by decide) ?_
      obtain rfl := Option.some.inj h
      refine zz.widen (k := 1036) (n := 29600) (by omega) (by omega) ?_
      exact z_iret X hr rfl (fun t hG hF _ => ⟨⟨_, (), rfl, ⟨rfl, trivial⟩, hG⟩, hF⟩) dL_isLine_244
def fl_isLine_218 (k20 : GS → Int32 → Int32 → Int32 → Option (Int32)) (σ : GS) (v1 : Int32) (v4 : Int32) (s0 : Int32) : Option (Int32) := (some (v4 + 1)).bind fun x1 => k20 σ v1 s0 x1
set_option maxRecDepth 100000 in
set_option maxHeartbeats 4000000 in
theorem bl_isLine_218 {p : Program} {l : Launch} {e : Env} {s : State} {m : MethodId} {args : Array Value} {below : List Frame} {meth : Method} {c : Code} {D : va_G} {dA : Nat → ClassId} {A : Nat → Prop} {ar : Nat → Nat} {ob b Ls : Nat} {sc : Nat → Int32} {σ : GS} {o : Int32} (X : zc p l s m args meth c cL_isLine RL D dA A) (Y : zY s A b Ls sc) (hml : c.maxLocals = 7) (hr : meth.sig.returnType = (some .boolean)) {n : Nat} {k20 : GS → Int32 → Int32 → Int32 → Option (Int32)} (hk20 : ∀ {cells slots : Nat} (hcs : cells + (168 * n + 14) ≤ 1036 ∧ slots + (4800 * n + 400) ≤ 29600) {v1 : Int32} {v3 : Int32} {v4 : Int32}, k20 σ v1 v3 v4 = some o → zz p l e ({ frames := 14, cells := 1036, slots := 29600, locals := 588 } : Room) s m args below meth c A (gw D dA A σ ob ar) cells slots (MQ below (va_Qi (fun r (_ : Unit) => r = o ∧ True) (fun _ t => gw D dA A σ ob ar t.heap) A) args s (1036) (29600) A) 20 [(0, .ref ob), (1, .int (v1)), (2, .ref (ar 0)), (3, .int (v3)), (4, .int (v4))] [] []) {cells slots : Nat} (hcs : cells + (0 + 168 * n + 14) ≤ 1036 ∧ slots + (0 + 4800 * n + 400) ≤ 29600) {v1 : Int32} {v4 : Int32} {s0 : Int32} (h : fl_isLine_218 k20 σ v1 v4 s0 = some o) : zz p l e ({ frames := 14, cells := 1036, slots := 29600, locals := 588 } : Room) s m args below meth c A (gw D dA A σ ob ar) cells slots (MQ below (va_Qi (fun r (_ : Unit) => r = o ∧ True) (fun _ t => gw D dA A σ ob ar t.heap) A) args s (1036) (29600) A) 218 [(0, .ref ob), (1, .int (v1)), (2, .ref (ar 0)), (4, .int (v4))] [] [.int (s0)] := by
  obtain ⟨hcs1, hcs2⟩ := hcs
  unfold fl_isLine_218 at h
  refine z_istore_n (lo' := [(3, .int (s0)), (0, .ref ob), (1, .int (v1)), (2, .ref (ar 0)), (4, .int (v4))]) X dL_isLine_218 rfl (by rw [hml]; decide) rfl rfl ?_
  obtain ⟨x1, ex1, h⟩ := zb h
  refine z_iinc (v := x1) (lo' := [(4, .int (x1)), (3, .int (s0)), (0, .ref ob), (1, .int (v1)), (2, .ref (ar 0))]) X dL_isLine_219 rfl ex1 (by rw [hml]; decide) rfl rfl ?_
  refine z_goto (tgt := 20) X dL_isLine_222 (by decide) ?_
  refine zz.pick (lo' := [(0, .ref ob), (1, .int (v1)), (2, .ref (ar 0)), (3, .int (s0)), (4, .int (x1))]) [0, 1, 2, 3, 4] rfl ?_
  exact hk20 ⟨by omega, by omega⟩ h
def fl_isLine_217 (k20 : GS → Int32 → Int32 → Int32 → Option (Int32)) (σ : GS) (v1 : Int32) (v4 : Int32) : Option (Int32) := fl_isLine_218 k20 σ v1 v4 (-1)
set_option maxRecDepth 100000 in
set_option maxHeartbeats 4000000 in
theorem bl_isLine_217 {p : Program} {l : Launch} {e : Env} {s : State} {m : MethodId} {args : Array Value} {below : List Frame} {meth : Method} {c : Code} {D : va_G} {dA : Nat → ClassId} {A : Nat → Prop} {ar : Nat → Nat} {ob b Ls : Nat} {sc : Nat → Int32} {σ : GS} {o : Int32} (X : zc p l s m args meth c cL_isLine RL D dA A) (Y : zY s A b Ls sc) (hml : c.maxLocals = 7) (hr : meth.sig.returnType = (some .boolean)) {n : Nat} {k20 : GS → Int32 → Int32 → Int32 → Option (Int32)} (hk20 : ∀ {cells slots : Nat} (hcs : cells + (168 * n + 14) ≤ 1036 ∧ slots + (4800 * n + 400) ≤ 29600) {v1 : Int32} {v3 : Int32} {v4 : Int32}, k20 σ v1 v3 v4 = some o → zz p l e ({ frames := 14, cells := 1036, slots := 29600, locals := 588 } : Room) s m args below meth c A (gw D dA A σ ob ar) cells slots (MQ below (va_Qi (fun r (_ : Unit) => r = o ∧ True) (fun _ t => gw D dA A σ ob ar t.heap) A) args s (1036) (29600) A) 20 [(0, .ref ob), (1, .int (v1)), (2, .ref (ar 0)), (3, .int (v3)), (4, .int (v4))] [] []) {cells slots : Nat} (hcs : cells + (0 + 168 * n + 14) ≤ 1036 ∧ slots + (0 + 4800 * n + 400) ≤ 29600) {v1 : Int32} {v4 : Int32} (h : fl_isLine_217 k20 σ v1 v4 = some o) : zz p l e ({ frames := 14, cells := 1036, slots := 29600, locals := 588 } : Room) s m args below meth c A (gw D dA A σ ob ar) cells slots (MQ below (va_Qi (fun r (_ : Unit) => r = o ∧ True) (fun _ t => gw D dA A σ ob ar t.heap) A) args s (1036) (29600) A) 217 [(0, .ref ob), (1, .int (v1)), (2, .ref (ar 0)), (4, .int (v4))] [] [] := by
  obtain ⟨hcs1, hcs2⟩ := hcs
  unfold fl_isLine_217 at h
  refine z_iconst (v := (-1)) X dL_isLine_217 (by decide) ?_
  refine zz.pick (lo' := [(0, .ref ob), (1, .int (v1)), (2, .ref (ar 0)), (4, .int (v4))]) [0, 1, 2, 4] rfl ?_
  exact bl_isLine_218 X Y hml hr hk20 ⟨by omega, by omega⟩ h
def fl_isLine_185 (k20 : GS → Int32 → Int32 → Int32 → Option (Int32)) (σ : GS) (v1 : Int32) (v3 : Int32) (v4 : Int32) (v5 : Int32) (s0 : Int32) : Option (Int32) := (fl_reads σ (v1) (v3) (v5)).bind fun o1 => (if o1 ≤ 0 then fl_isLine_217 k20 σ v1 v4
  else (aq_lineAt σ.1 (v1) (o1)).bind fun o2 => (if o2 = s0 then fl_isLine_218 k20 σ v1 v4 (o1 + 1)
  else fl_isLine_217 k20 σ v1 v4))
set_option maxRecDepth 100000 in
set_option maxHeartbeats 4000000 in
theorem bl_isLine_185 {p : Program} {l : Launch} {e : Env} {s : State} {m : MethodId} {args : Array Value} {below : List Frame} {meth : Method} {c : Code} {D : va_G} {dA : Nat → ClassId} {A : Nat → Prop} {ar : Nat → Nat} {ob b Ls : Nat} {sc : Nat → Int32} {σ : GS} {o : Int32} (X : zc p l s m args meth c cL_isLine RL D dA A) (Y : zY s A b Ls sc) (hml : c.maxLocals = 7) (hr : meth.sig.returnType = (some .boolean)) {n : Nat} {k20 : GS → Int32 → Int32 → Int32 → Option (Int32)} (hk20 : ∀ {cells slots : Nat} (hcs : cells + (168 * n + 14) ≤ 1036 ∧ slots + (4800 * n + 400) ≤ 29600) {v1 : Int32} {v3 : Int32} {v4 : Int32}, k20 σ v1 v3 v4 = some o → zz p l e ({ frames := 14, cells := 1036, slots := 29600, locals := 588 } : Room) s m args below meth c A (gw D dA A σ ob ar) cells slots (MQ below (va_Qi (fun r (_ : Unit) => r = o ∧ True) (fun _ t => gw D dA A σ ob ar t.heap) A) args s (1036) (29600) A) 20 [(0, .ref ob), (1, .int (v1)), (2, .ref (ar 0)), (3, .int (v3)), (4, .int (v4))] [] []) {cells slots : Nat} (hcs : cells + (168 + 168 * n + 14) ≤ 1036 ∧ slots + (4800 + 4800 * n + 400) ≤ 29600) {v1 : Int32} {v3 : Int32} {v4 : Int32} {v5 : Int32} {s0 : Int32} (h : fl_isLine_185 k20 σ v1 v3 v4 v5 s0 = some o) : zz p l e ({ frames := 14, cells := 1036, slots := 29600, locals := 588 } : Room) s m args below meth c A (gw D dA A σ ob ar) cells slots (MQ below (va_Qi (fun r (_ : Unit) => r = o ∧ True) (fun _ t => gw D dA A σ ob ar t.heap) A) args s (1036) (29600) A) 185 [(0, .ref ob), (1, .int (v1)), (2, .ref (ar 0)), (3, .int (v3)), (4, .int (v4)), (5, .int (v5))] [] [.int (s0)] := by
  obtain ⟨hcs1, hcs2⟩ := hcs
  unfold fl_isLine_185 at h
  refine z_istore (lo' := [(6, .int (s0)), (0, .ref ob), (1, .int (v1)), (2, .ref (ar 0)), (3, .int (v3)), (4, .int (v4)), (5, .int (v5))]) X dL_isLine_185 (by rw [hml]; decide) rfl rfl ?_
  refine z_aload_n X dL_isLine_187 rfl rfl ?_
  refine z_iload_n X dL_isLine_188 rfl rfl ?_
  refine z_iload_n X dL_isLine_189 rfl rfl ?_
  refine z_iload X dL_isLine_190 rfl ?_
  obtain ⟨o1, co1, h⟩ := zb2 h
  refine z_lSi (As := [.ref ob, .int (v1), .int (v3), .int (v5)]) (rest := []) (nA := 4) (mc := 154) (ms := 4400) (r0 := o1) (pu := fun (_ : Unit) => True) (G1 := fun _ => gw D dA A σ ob ar) X Y (ll_reads l X.2.2.2.2.2.2.2.2 X.2.2.2.2.2.2.1 Y.2.2.2 co1) n_1139 n_1140 n_0 n_1141 nh_yL_reads ⟨rfl, rfl, Nat.le_of_ble_eq_true rfl, Nat.le_of_ble_eq_true rfl⟩ rfl rfl (Nat.le_of_ble_eq_true rfl) dL_isLine_192 ⟨by show _ ≤ 1036; omega, by show _ ≤ 29600; omega⟩ (fun _ _ => ?_)
  refine z_istore_n (lo' := [(3, .int (o1)), (6, .int (s0)), (0, .ref ob), (1, .int (v1)), (2, .ref (ar 0)), (4, .int (v4)), (5, .int (v5))]) X dL_isLine_195 rfl (by rw [hml]; decide) rfl rfl ?_
  refine z_iload_n X dL_isLine_196 rfl rfl ?_
  refine z_if_le (tgt := 217) X dL_isLine_197 (by decide) (fun q => ?_) (fun q => ?_)
  · have h := zp q h
    refine zz.pick (lo' := [(0, .ref ob), (1, .int (v1)), (2, .ref (ar 0)), (4, .int (v4))]) [0, 1, 2, 4] rfl ?_
    exact bl_isLine_217 X Y hml hr hk20 ⟨by omega, by omega⟩ h
  · have h := zn q h
    refine z_aload_n X dL_isLine_200 rfl rfl ?_
    refine z_iload_n X dL_isLine_201 rfl rfl ?_
    refine z_iload_n X dL_isLine_202 rfl rfl ?_
    obtain ⟨o2, co2, h⟩ := zb2 h
    refine l_q (As := [.int (v1), .int (o1)]) (rest := []) (nA := 2) (mc := 14) (ms := 400) (rm := ({ frames := 12, cells := 14, slots := 400, locals := 504 } : Room)) (r0 := o2) X (fun _ h11 => cc_lineAt l X.2.2.2.2.2.2.2.2 X.2.2.2.2.2.2.1 h11 (qo_eq co2)) n_970 n_971 n_972 n_1 n_973 nh_yX11_lineAt ⟨rfl, rfl, Nat.le_of_ble_eq_true rfl, Nat.le_of_ble_eq_true rfl⟩ rfl rfl (Nat.le_of_ble_eq_true rfl) dL_isLine_203 ⟨by show _ ≤ 1036; omega, by show _ ≤ 29600; omega⟩ ?_
    refine z_iload X dL_isLine_206 rfl ?_
    refine z_icmp_ne (tgt := 217) X dL_isLine_208 (by decide) (fun q => ?_) (fun q => ?_)
    · have h := zp q h
      refine z_iload_n X dL_isLine_211 rfl rfl ?_
      refine z_iconst (v := 1) X dL_isLine_212 (by decide) ?_
      refine z_iadd X dL_isLine_213 ?_
      refine z_goto (tgt := 218) X dL_isLine_214 (by decide) ?_
      refine zz.pick (lo' := [(0, .ref ob), (1, .int (v1)), (2, .ref (ar 0)), (4, .int (v4))]) [0, 1, 2, 4] rfl ?_
      exact bl_isLine_218 X Y hml hr hk20 ⟨by omega, by omega⟩ h
    · have h := zn q h
      refine zz.pick (lo' := [(0, .ref ob), (1, .int (v1)), (2, .ref (ar 0)), (4, .int (v4))]) [0, 1, 2, 4] rfl ?_
      exact bl_isLine_217 X Y hml hr hk20 ⟨by omega, by omega⟩ h
def fl_isLine_97 (k20 : GS → Int32 → Int32 → Int32 → Option (Int32)) (σ : GS) (v1 : Int32) (v3 : Int32) (v4 : Int32) (s0 : Int32) : Option (Int32) := (if v4 = 0 then fl_isLine_185 k20 σ v1 v3 v4 s0 67
  else (if v4 = 1 then fl_isLine_185 k20 σ v1 v3 v4 s0 58
  else (if v4 = 2 then fl_isLine_185 k20 σ v1 v3 v4 s0 61
  else (if v4 = 3 then fl_isLine_185 k20 σ v1 v3 v4 s0 43
  else (aq_stateOf σ.1 (v1)).bind fun o1 => (if o1 = 0 then fl_isLine_185 k20 σ v1 v3 v4 s0 126
  else (aq_stateOf σ.1 (v1)).bind fun o2 => (if o2 = 1 then fl_isLine_185 k20 σ v1 v3 v4 s0 46
  else (aq_stateOf σ.1 (v1)).bind fun o3 => (if o3 = 2 then fl_isLine_185 k20 σ v1 v3 v4 s0 33
  else fl_isLine_185 k20 σ v1 v3 v4 s0 63)))))))
set_option maxRecDepth 100000 in
set_option maxHeartbeats 4000000 in
theorem bl_isLine_97 {p : Program} {l : Launch} {e : Env} {s : State} {m : MethodId} {args : Array Value} {below : List Frame} {meth : Method} {c : Code} {D : va_G} {dA : Nat → ClassId} {A : Nat → Prop} {ar : Nat → Nat} {ob b Ls : Nat} {sc : Nat → Int32} {σ : GS} {o : Int32} (X : zc p l s m args meth c cL_isLine RL D dA A) (Y : zY s A b Ls sc) (hml : c.maxLocals = 7) (hr : meth.sig.returnType = (some .boolean)) {n : Nat} {k20 : GS → Int32 → Int32 → Int32 → Option (Int32)} (hk20 : ∀ {cells slots : Nat} (hcs : cells + (168 * n + 14) ≤ 1036 ∧ slots + (4800 * n + 400) ≤ 29600) {v1 : Int32} {v3 : Int32} {v4 : Int32}, k20 σ v1 v3 v4 = some o → zz p l e ({ frames := 14, cells := 1036, slots := 29600, locals := 588 } : Room) s m args below meth c A (gw D dA A σ ob ar) cells slots (MQ below (va_Qi (fun r (_ : Unit) => r = o ∧ True) (fun _ t => gw D dA A σ ob ar t.heap) A) args s (1036) (29600) A) 20 [(0, .ref ob), (1, .int (v1)), (2, .ref (ar 0)), (3, .int (v3)), (4, .int (v4))] [] []) {cells slots : Nat} (hcs : cells + (168 + 168 * n + 14) ≤ 1036 ∧ slots + (4800 + 4800 * n + 400) ≤ 29600) {v1 : Int32} {v3 : Int32} {v4 : Int32} {s0 : Int32} (h : fl_isLine_97 k20 σ v1 v3 v4 s0 = some o) : zz p l e ({ frames := 14, cells := 1036, slots := 29600, locals := 588 } : Room) s m args below meth c A (gw D dA A σ ob ar) cells slots (MQ below (va_Qi (fun r (_ : Unit) => r = o ∧ True) (fun _ t => gw D dA A σ ob ar t.heap) A) args s (1036) (29600) A) 97 [(0, .ref ob), (1, .int (v1)), (2, .ref (ar 0)), (3, .int (v3)), (4, .int (v4))] [] [.int (s0)] := by
  obtain ⟨hcs1, hcs2⟩ := hcs
  unfold fl_isLine_97 at h
  refine z_istore (lo' := [(5, .int (s0)), (0, .ref ob), (1, .int (v1)), (2, .ref (ar 0)), (3, .int (v3)), (4, .int (v4))]) X dL_isLine_97 (by rw [hml]; decide) rfl rfl ?_
  refine z_iload X dL_isLine_99 rfl ?_
  refine z_if_ne (tgt := 109) X dL_isLine_101 (by decide) (fun q => ?_) (fun q => ?_)
  · have h := zp q h
    refine z_bipush (v := 67) X dL_isLine_104 (by decide) ?_
    refine z_goto (tgt := 185) X dL_isLine_106 (by decide) ?_
    refine zz.pick (lo' := [(0, .ref ob), (1, .int (v1)), (2, .ref (ar 0)), (3, .int (v3)), (4, .int (v4)), (5, .int (s0))]) [0, 1, 2, 3, 4, 5] rfl ?_
    exact bl_isLine_185 X Y hml hr hk20 ⟨by omega, by omega⟩ h
  · have h := zn q h
    refine z_iload X dL_isLine_109 rfl ?_
    refine z_iconst (v := 1) X dL_isLine_111 (by decide) ?_
    refine z_icmp_ne (tgt := 120) X dL_isLine_112 (by decide) (fun q => ?_) (fun q => ?_)
    · have h := zp q h
      refine z_bipush (v := 58) X dL_isLine_115 (by decide) ?_
      refine z_goto (tgt := 185) X dL_isLine_117 (by decide) ?_
      refine zz.pick (lo' := [(0, .ref ob), (1, .int (v1)), (2, .ref (ar 0)), (3, .int (v3)), (4, .int (v4)), (5, .int (s0))]) [0, 1, 2, 3, 4, 5] rfl ?_
      exact bl_isLine_185 X Y hml hr hk20 ⟨by omega, by omega⟩ h
    · have h := zn q h
      refine z_iload X dL_isLine_120 rfl ?_
      refine z_iconst (v := 2) X dL_isLine_122 (by decide) ?_
      refine z_icmp_ne (tgt := 131) X dL_isLine_123 (by decide) (fun q => ?_) (fun q => ?_)
      · have h := zp q h
        refine z_bipush (v := 61) X dL_isLine_126 (by decide) ?_
        refine z_goto (tgt := 185) X dL_isLine_128 (by decide) ?_
        refine zz.pick (lo' := [(0, .ref ob), (1, .int (v1)), (2, .ref (ar 0)), (3, .int (v3)), (4, .int (v4)), (5, .int (s0))]) [0, 1, 2, 3, 4, 5] rfl ?_
        exact bl_isLine_185 X Y hml hr hk20 ⟨by omega, by omega⟩ h
      · have h := zn q h
        refine z_iload X dL_isLine_131 rfl ?_
        refine z_iconst (v := 3) X dL_isLine_133 (by decide) ?_
        refine z_icmp_ne (tgt := 142) X dL_isLine_134 (by decide) (fun q => ?_) (fun q => ?_)
        · have h := zp q h
          refine z_bipush (v := 43) X dL_isLine_137 (by decide) ?_
          refine z_goto (tgt := 185) X dL_isLine_139 (by decide) ?_
          refine zz.pick (lo' := [(0, .ref ob), (1, .int (v1)), (2, .ref (ar 0)), (3, .int (v3)), (4, .int (v4)), (5, .int (s0))]) [0, 1, 2, 3, 4, 5] rfl ?_
          exact bl_isLine_185 X Y hml hr hk20 ⟨by omega, by omega⟩ h
        · have h := zn q h
          refine z_aload_n X dL_isLine_142 rfl rfl ?_
          refine z_iload_n X dL_isLine_143 rfl rfl ?_
          obtain ⟨o1, co1, h⟩ := zb2 h
          refine l_q (As := [.int (v1)]) (rest := []) (nA := 1) (mc := 0) (ms := 0) (rm := ({ frames := 10, cells := 0, slots := 0, locals := 420 } : Room)) (r0 := o1) X (fun _ h11 => cz_stateOf l X.2.2.2.2.2.2.2.2 X.2.2.2.2.2.2.1 h11 (fun _ z => nomatch z) (qo_eq co1)) n_775 n_776 n_777 n_1 n_778 nh_yX11_stateOf ⟨rfl, rfl, Nat.le_of_ble_eq_true rfl, Nat.le_of_ble_eq_true rfl⟩ rfl rfl (Nat.le_of_ble_eq_true rfl) dL_isLine_144 ⟨by show _ ≤ 1036; omega, by show _ ≤ 29600; omega⟩ ?_
          refine z_if_ne (tgt := 155) X dL_isLine_147 (by decide) (fun q => ?_) (fun q => ?_)
          · have h := zp q h
            refine z_bipush (v := 126) X dL_isLine_150 (by decide) ?_
            refine z_goto (tgt := 185) X dL_isLine_152 (by decide) ?_
            refine zz.pick (lo' := [(0, .ref ob), (1, .int (v1)), (2, .ref (ar 0)), (3, .int (v3)), (4, .int (v4)), (5, .int (s0))]) [0, 1, 2, 3, 4, 5] rfl ?_
            exact bl_isLine_185 X Y hml hr hk20 ⟨by omega, by omega⟩ h
          · have h := zn q h
            refine z_aload_n X dL_isLine_155 rfl rfl ?_
            refine z_iload_n X dL_isLine_156 rfl rfl ?_
            obtain ⟨o2, co2, h⟩ := zb2 h
            refine l_q (As := [.int (v1)]) (rest := []) (nA := 1) (mc := 0) (ms := 0) (rm := ({ frames := 10, cells := 0, slots := 0, locals := 420 } : Room)) (r0 := o2) X (fun _ h11 => cz_stateOf l X.2.2.2.2.2.2.2.2 X.2.2.2.2.2.2.1 h11 (fun _ z => nomatch z) (qo_eq co2)) n_775 n_776 n_777 n_1 n_778 nh_yX11_stateOf ⟨rfl, rfl, Nat.le_of_ble_eq_true rfl, Nat.le_of_ble_eq_true rfl⟩ rfl rfl (Nat.le_of_ble_eq_true rfl) dL_isLine_157 ⟨by show _ ≤ 1036; omega, by show _ ≤ 29600; omega⟩ ?_
            refine z_iconst (v := 1) X dL_isLine_160 (by decide) ?_
            refine z_icmp_ne (tgt := 169) X dL_isLine_161 (by decide) (fun q => ?_) (fun q => ?_)
            · have h := zp q h
              refine z_bipush (v := 46) X dL_isLine_164 (by decide) ?_
              refine z_goto (tgt := 185) X dL_isLine_166 (by decide) ?_
              refine zz.pick (lo' := [(0, .ref ob), (1, .int (v1)), (2, .ref (ar 0)), (3, .int (v3)), (4, .int (v4)), (5, .int (s0))]) [0, 1, 2, 3, 4, 5] rfl ?_
              exact bl_isLine_185 X Y hml hr hk20 ⟨by omega, by omega⟩ h
            · have h := zn q h
              refine z_aload_n X dL_isLine_169 rfl rfl ?_
              refine z_iload_n X dL_isLine_170 rfl rfl ?_
              obtain ⟨o3, co3, h⟩ := zb2 h
              refine l_q (As := [.int (v1)]) (rest := []) (nA := 1) (mc := 0) (ms := 0) (rm := ({ frames := 10, cells := 0, slots := 0, locals := 420 } : Room)) (r0 := o3) X (fun _ h11 => cz_stateOf l X.2.2.2.2.2.2.2.2 X.2.2.2.2.2.2.1 h11 (fun _ z => nomatch z) (qo_eq co3)) n_775 n_776 n_777 n_1 n_778 nh_yX11_stateOf ⟨rfl, rfl, Nat.le_of_ble_eq_true rfl, Nat.le_of_ble_eq_true rfl⟩ rfl rfl (Nat.le_of_ble_eq_true rfl) dL_isLine_171 ⟨by show _ ≤ 1036; omega, by show _ ≤ 29600; omega⟩ ?_
              refine z_iconst (v := 2) X dL_isLine_174 (by decide) ?_
              refine z_icmp_ne (tgt := 183) X dL_isLine_175 (by decide) (fun q => ?_) (fun q => ?_)
              · have h := zp q h
                refine z_bipush (v := 33) X dL_isLine_178 (by decide) ?_
                refine z_goto (tgt := 185) X dL_isLine_180 (by decide) ?_
                refine zz.pick (lo' := [(0, .ref ob), (1, .int (v1)), (2, .ref (ar 0)), (3, .int (v3)), (4, .int (v4)), (5, .int (s0))]) [0, 1, 2, 3, 4, 5] rfl ?_
                exact bl_isLine_185 X Y hml hr hk20 ⟨by omega, by omega⟩ h
              · have h := zn q h
                refine z_bipush (v := 63) X dL_isLine_183 (by decide) ?_
                refine zz.pick (lo' := [(0, .ref ob), (1, .int (v1)), (2, .ref (ar 0)), (3, .int (v3)), (4, .int (v4)), (5, .int (s0))]) [0, 1, 2, 3, 4, 5] rfl ?_
                exact bl_isLine_185 X Y hml hr hk20 ⟨by omega, by omega⟩ h
def fl_isLine_20 : Nat → GS → Int32 → Int32 → Int32 → Option (Int32)
  | 0, _, _, _, _ => none
  | n + 1, σ, v1, v3, v4 => (if 5 ≤ v4 then fl_isLine_225 σ v1 v3
  else (if v3 ≤ 0 then fl_isLine_225 σ v1 v3
  else (if v4 = 0 then if v1 < 0 ∨ 64 ≤ (v1).toNatClampNeg then none else (fl_part σ ((σ.2 0 (v1).toNatClampNeg)) (0) (4)).bind fun o2 => fl_isLine_97 (fl_isLine_20 n) σ v1 v3 v4 o2
  else (if v4 = 1 then if v1 < 0 ∨ 64 ≤ (v1).toNatClampNeg then none else (fl_part σ ((σ.2 0 (v1).toNatClampNeg)) (4) (6)).bind fun o4 => fl_isLine_97 (fl_isLine_20 n) σ v1 v3 v4 o4
  else (if v4 = 2 then (aq_seconds σ.1 (v1)).bind fun o5 => fl_isLine_97 (fl_isLine_20 n) σ v1 v3 v4 o5
  else (if v4 = 3 then (aq_charged σ.1 (v1)).bind fun o6 => fl_isLine_97 (fl_isLine_20 n) σ v1 v3 v4 o6
  else (aq_covered σ.1 (v1)).bind fun o7 => fl_isLine_97 (fl_isLine_20 n) σ v1 v3 v4 o7))))))
set_option maxRecDepth 100000 in
set_option maxHeartbeats 4000000 in
theorem bl_isLine_20 {p : Program} {l : Launch} {e : Env} {s : State} {m : MethodId} {args : Array Value} {below : List Frame} {meth : Method} {c : Code} {D : va_G} {dA : Nat → ClassId} {A : Nat → Prop} {ar : Nat → Nat} {ob b Ls : Nat} {sc : Nat → Int32} {σ : GS} {o : Int32} (X : zc p l s m args meth c cL_isLine RL D dA A) (Y : zY s A b Ls sc) (hml : c.maxLocals = 7) (hr : meth.sig.returnType = (some .boolean)) : ∀ (n : Nat) {cells slots : Nat} (hcs : cells + (168 * n + 14) ≤ 1036 ∧ slots + (4800 * n + 400) ≤ 29600) {v1 : Int32} {v3 : Int32} {v4 : Int32}, fl_isLine_20 n σ v1 v3 v4 = some o → zz p l e ({ frames := 14, cells := 1036, slots := 29600, locals := 588 } : Room) s m args below meth c A (gw D dA A σ ob ar) cells slots (MQ below (va_Qi (fun r (_ : Unit) => r = o ∧ True) (fun _ t => gw D dA A σ ob ar t.heap) A) args s (1036) (29600) A) 20 [(0, .ref ob), (1, .int (v1)), (2, .ref (ar 0)), (3, .int (v3)), (4, .int (v4))] [] [] := by
  intro n
  induction n with
  | zero => intro cells slots hcs v1 v3 v4 h; exact (nomatch (show none = some o from h))
  | succ n ih =>
    intro cells slots hcs v1 v3 v4 h
    obtain ⟨hcs1, hcs2⟩ := hcs
    rw [fl_isLine_20] at h
    refine z_iload X dL_isLine_20 rfl ?_
    refine z_iconst (v := 5) X dL_isLine_22 (by decide) ?_
    refine z_icmp_ge (tgt := 225) X dL_isLine_23 (by decide) (fun q => ?_) (fun q => ?_)
    · have h := zp q h
      refine zz.pick (lo' := [(0, .ref ob), (1, .int (v1)), (3, .int (v3))]) [0, 1, 3] rfl ?_
      exact bl_isLine_225 X Y hml hr ⟨by omega, by omega⟩ h
    · have h := zn q h
      refine z_iload_n X dL_isLine_26 rfl rfl ?_
      refine z_if_le (tgt := 225) X dL_isLine_27 (by decide) (fun q => ?_) (fun q => ?_)
      · have h := zp q h
        refine zz.pick (lo' := [(0, .ref ob), (1, .int (v1)), (3, .int (v3))]) [0, 1, 3] rfl ?_
        exact bl_isLine_225 X Y hml hr ⟨by omega, by omega⟩ h
      · have h := zn q h
        refine z_iload X dL_isLine_30 rfl ?_
        refine z_if_ne (tgt := 46) X dL_isLine_32 (by decide) (fun q => ?_) (fun q => ?_)
        · have h := zp q h
          refine z_aload_n X dL_isLine_35 rfl rfl ?_
          refine z_iload_n X dL_isLine_36 rfl rfl ?_
          obtain ⟨q1, h⟩ := zg h
          refine l_ald X 0 rfl q1 dL_isLine_37 ?_
          refine z_iconst (v := 0) X dL_isLine_38 (by decide) ?_
          refine z_iconst (v := 4) X dL_isLine_39 (by decide) ?_
          obtain ⟨o2, co2, h⟩ := zb2 h
          refine z_lSi (As := [.int ((σ.2 0 (v1).toNatClampNeg)), .int (0), .int (4)]) (rest := []) (nA := 3) (mc := 0) (ms := 0) (r0 := o2) (pu := fun (_ : Unit) => True) (G1 := fun _ => gw D dA A σ ob ar) X Y (ll_part l X.2.2.2.2.2.2.2.2 X.2.2.2.2.2.2.1 Y.2.2.2 co2) n_784 n_785 n_0 n_786 nh_yL_part ⟨rfl, rfl, Nat.le_of_ble_eq_true rfl, Nat.le_of_ble_eq_true rfl⟩ rfl rfl (Nat.le_of_ble_eq_true rfl) dL_isLine_40 ⟨by show _ ≤ 1036; omega, by show _ ≤ 29600; omega⟩ (fun _ _ => ?_)
          refine z_goto (tgt := 97) X dL_isLine_43 (by decide) ?_
          refine zz.pick (lo' := [(0, .ref ob), (1, .int (v1)), (2, .ref (ar 0)), (3, .int (v3)), (4, .int (v4))]) [0, 1, 2, 3, 4] rfl ?_
          exact bl_isLine_97 X Y hml hr ih ⟨by omega, by omega⟩ h
        · have h := zn q h
          refine z_iload X dL_isLine_46 rfl ?_
          refine z_iconst (v := 1) X dL_isLine_48 (by decide) ?_
          refine z_icmp_ne (tgt := 64) X dL_isLine_49 (by decide) (fun q => ?_) (fun q => ?_)
          · have h := zp q h
            refine z_aload_n X dL_isLine_52 rfl rfl ?_
            refine z_iload_n X dL_isLine_53 rfl rfl ?_
            obtain ⟨q3, h⟩ := zg h
            refine l_ald X 0 rfl q3 dL_isLine_54 ?_
            refine z_iconst (v := 4) X dL_isLine_55 (by decide) ?_
            refine z_bipush (v := 6) X dL_isLine_56 (by decide) ?_
            obtain ⟨o4, co4, h⟩ := zb2 h
            refine z_lSi (As := [.int ((σ.2 0 (v1).toNatClampNeg)), .int (4), .int (6)]) (rest := []) (nA := 3) (mc := 0) (ms := 0) (r0 := o4) (pu := fun (_ : Unit) => True) (G1 := fun _ => gw D dA A σ ob ar) X Y (ll_part l X.2.2.2.2.2.2.2.2 X.2.2.2.2.2.2.1 Y.2.2.2 co4) n_784 n_785 n_0 n_786 nh_yL_part ⟨rfl, rfl, Nat.le_of_ble_eq_true rfl, Nat.le_of_ble_eq_true rfl⟩ rfl rfl (Nat.le_of_ble_eq_true rfl) dL_isLine_58 ⟨by show _ ≤ 1036; omega, by show _ ≤ 29600; omega⟩ (fun _ _ => ?_)
            refine z_goto (tgt := 97) X dL_isLine_61 (by decide) ?_
            refine zz.pick (lo' := [(0, .ref ob), (1, .int (v1)), (2, .ref (ar 0)), (3, .int (v3)), (4, .int (v4))]) [0, 1, 2, 3, 4] rfl ?_
            exact bl_isLine_97 X Y hml hr ih ⟨by omega, by omega⟩ h
          · have h := zn q h
            refine z_iload X dL_isLine_64 rfl ?_
            refine z_iconst (v := 2) X dL_isLine_66 (by decide) ?_
            refine z_icmp_ne (tgt := 78) X dL_isLine_67 (by decide) (fun q => ?_) (fun q => ?_)
            · have h := zp q h
              refine z_aload_n X dL_isLine_70 rfl rfl ?_
              refine z_iload_n X dL_isLine_71 rfl rfl ?_
              obtain ⟨o5, co5, h⟩ := zb2 h
              refine l_q (As := [.int (v1)]) (rest := []) (nA := 1) (mc := 0) (ms := 0) (rm := ({ frames := 10, cells := 0, slots := 0, locals := 420 } : Room)) (r0 := o5) X (fun _ h11 => cz_seconds l X.2.2.2.2.2.2.2.2 X.2.2.2.2.2.2.1 h11 (fun _ z => nomatch z) (qo_eq co5)) n_904 n_905 n_906 n_1 n_907 nh_yX11_seconds ⟨rfl, rfl, Nat.le_of_ble_eq_true rfl, Nat.le_of_ble_eq_true rfl⟩ rfl rfl (Nat.le_of_ble_eq_true rfl) dL_isLine_72 ⟨by show _ ≤ 1036; omega, by show _ ≤ 29600; omega⟩ ?_
              refine z_goto (tgt := 97) X dL_isLine_75 (by decide) ?_
              refine zz.pick (lo' := [(0, .ref ob), (1, .int (v1)), (2, .ref (ar 0)), (3, .int (v3)), (4, .int (v4))]) [0, 1, 2, 3, 4] rfl ?_
              exact bl_isLine_97 X Y hml hr ih ⟨by omega, by omega⟩ h
            · have h := zn q h
              refine z_iload X dL_isLine_78 rfl ?_
              refine z_iconst (v := 3) X dL_isLine_80 (by decide) ?_
              refine z_icmp_ne (tgt := 92) X dL_isLine_81 (by decide) (fun q => ?_) (fun q => ?_)
              · have h := zp q h
                refine z_aload_n X dL_isLine_84 rfl rfl ?_
                refine z_iload_n X dL_isLine_85 rfl rfl ?_
                obtain ⟨o6, co6, h⟩ := zb2 h
                refine l_q (As := [.int (v1)]) (rest := []) (nA := 1) (mc := 0) (ms := 0) (rm := ({ frames := 10, cells := 0, slots := 0, locals := 420 } : Room)) (r0 := o6) X (fun _ h11 => cz_charged l X.2.2.2.2.2.2.2.2 X.2.2.2.2.2.2.1 h11 (fun _ z => nomatch z) (qo_eq co6)) n_952 n_953 n_954 n_1 n_955 nh_yX11_charged ⟨rfl, rfl, Nat.le_of_ble_eq_true rfl, Nat.le_of_ble_eq_true rfl⟩ rfl rfl (Nat.le_of_ble_eq_true rfl) dL_isLine_86 ⟨by show _ ≤ 1036; omega, by show _ ≤ 29600; omega⟩ ?_
                refine z_goto (tgt := 97) X dL_isLine_89 (by decide) ?_
                refine zz.pick (lo' := [(0, .ref ob), (1, .int (v1)), (2, .ref (ar 0)), (3, .int (v3)), (4, .int (v4))]) [0, 1, 2, 3, 4] rfl ?_
                exact bl_isLine_97 X Y hml hr ih ⟨by omega, by omega⟩ h
              · have h := zn q h
                refine z_aload_n X dL_isLine_92 rfl rfl ?_
                refine z_iload_n X dL_isLine_93 rfl rfl ?_
                obtain ⟨o7, co7, h⟩ := zb2 h
                refine l_q (As := [.int (v1)]) (rest := []) (nA := 1) (mc := 0) (ms := 0) (rm := ({ frames := 10, cells := 0, slots := 0, locals := 420 } : Room)) (r0 := o7) X (fun _ h11 => cz_covered l X.2.2.2.2.2.2.2.2 X.2.2.2.2.2.2.1 h11 (fun _ z => nomatch z) (qo_eq co7)) n_956 n_957 n_958 n_1 n_959 nh_yX11_covered ⟨rfl, rfl, Nat.le_of_ble_eq_true rfl, Nat.le_of_ble_eq_true rfl⟩ rfl rfl (Nat.le_of_ble_eq_true rfl) dL_isLine_94 ⟨by show _ ≤ 1036; omega, by show _ ≤ 29600; omega⟩ ?_
                refine zz.pick (lo' := [(0, .ref ob), (1, .int (v1)), (2, .ref (ar 0)), (3, .int (v3)), (4, .int (v4))]) [0, 1, 2, 3, 4] rfl ?_
                exact bl_isLine_97 X Y hml hr ih ⟨by omega, by omega⟩ h
def fl_isLine_16 (σ : GS) (v1 : Int32) (s0 : Int32) : Option (Int32) := fl_isLine_20 6 σ v1 s0 0
set_option maxRecDepth 100000 in
set_option maxHeartbeats 4000000 in
theorem bl_isLine_16 {p : Program} {l : Launch} {e : Env} {s : State} {m : MethodId} {args : Array Value} {below : List Frame} {meth : Method} {c : Code} {D : va_G} {dA : Nat → ClassId} {A : Nat → Prop} {ar : Nat → Nat} {ob b Ls : Nat} {sc : Nat → Int32} {σ : GS} {o : Int32} (X : zc p l s m args meth c cL_isLine RL D dA A) (Y : zY s A b Ls sc) (hml : c.maxLocals = 7) (hr : meth.sig.returnType = (some .boolean)) {cells slots : Nat} (hcs : cells + (1022) ≤ 1036 ∧ slots + (29200) ≤ 29600) {v1 : Int32} {s0 : Int32} (h : fl_isLine_16 σ v1 s0 = some o) : zz p l e ({ frames := 14, cells := 1036, slots := 29600, locals := 588 } : Room) s m args below meth c A (gw D dA A σ ob ar) cells slots (MQ below (va_Qi (fun r (_ : Unit) => r = o ∧ True) (fun _ t => gw D dA A σ ob ar t.heap) A) args s (1036) (29600) A) 16 [(0, .ref ob), (1, .int (v1)), (2, .ref (ar 0))] [] [.int (s0)] := by
  obtain ⟨hcs1, hcs2⟩ := hcs
  unfold fl_isLine_16 at h
  refine z_istore_n (lo' := [(3, .int (s0)), (0, .ref ob), (1, .int (v1)), (2, .ref (ar 0))]) X dL_isLine_16 rfl (by rw [hml]; decide) rfl rfl ?_
  refine z_iconst (v := 0) X dL_isLine_17 (by decide) ?_
  refine z_istore (lo' := [(4, .int (0)), (3, .int (s0)), (0, .ref ob), (1, .int (v1)), (2, .ref (ar 0))]) X dL_isLine_18 (by rw [hml]; decide) rfl rfl ?_
  refine zz.pick (lo' := [(0, .ref ob), (1, .int (v1)), (2, .ref (ar 0)), (3, .int (s0)), (4, .int (0))]) [0, 1, 2, 3, 4] rfl ?_
  exact bl_isLine_20 X Y hml hr 6 ⟨by omega, by omega⟩ h
def fl_isLine (σ : GS) (a1 : Int32) : Option (Int32) := (aq_lineAt σ.1 (a1) (0)).bind fun o1 => (if o1 = 80 then fl_isLine_16 σ a1 1
  else fl_isLine_16 σ a1 (-1))
set_option maxRecDepth 100000 in
set_option maxHeartbeats 4000000 in
theorem bl_isLine {p : Program} {l : Launch} {e : Env} {s : State} {m : MethodId} {args : Array Value} {below : List Frame} {meth : Method} {c : Code} {D : va_G} {dA : Nat → ClassId} {A : Nat → Prop} {ar : Nat → Nat} {ob b Ls : Nat} {sc : Nat → Int32} {σ : GS} {o : Int32} (X : zc p l s m args meth c cL_isLine RL D dA A) (Y : zY s A b Ls sc) (hml : c.maxLocals = 7) (hr : meth.sig.returnType = (some .boolean)) {cells slots : Nat} (hcs : cells + (1036) ≤ 1036 ∧ slots + (29600) ≤ 29600) {a1 : Int32} (h : fl_isLine σ a1 = some o) : zz p l e ({ frames := 14, cells := 1036, slots := 29600, locals := 588 } : Room) s m args below meth c A (gw D dA A σ ob ar) cells slots (MQ below (va_Qi (fun r (_ : Unit) => r = o ∧ True) (fun _ t => gw D dA A σ ob ar t.heap) A) args s (1036) (29600) A) 0 [(0, .ref ob), (1, .int (a1)), (2, .ref (ar 0))] [] [] := by
  obtain ⟨hcs1, hcs2⟩ := hcs
  unfold fl_isLine at h
  refine z_aload_n X dL_isLine_0 rfl rfl ?_
  refine z_iload_n X dL_isLine_1 rfl rfl ?_
  refine z_iconst (v := 0) X dL_isLine_2 (by decide) ?_
  obtain ⟨o1, co1, h⟩ := zb2 h
  refine l_q (As := [.int (a1), .int (0)]) (rest := []) (nA := 2) (mc := 14) (ms := 400) (rm := ({ frames := 12, cells := 14, slots := 400, locals := 504 } : Room)) (r0 := o1) X (fun _ h11 => cc_lineAt l X.2.2.2.2.2.2.2.2 X.2.2.2.2.2.2.1 h11 (qo_eq co1)) n_970 n_971 n_972 n_1 n_973 nh_yX11_lineAt ⟨rfl, rfl, Nat.le_of_ble_eq_true rfl, Nat.le_of_ble_eq_true rfl⟩ rfl rfl (Nat.le_of_ble_eq_true rfl) dL_isLine_3 ⟨by show _ ≤ 1036; omega, by show _ ≤ 29600; omega⟩ ?_
  refine z_bipush (v := 80) X dL_isLine_6 (by decide) ?_
  refine z_icmp_ne (tgt := 15) X dL_isLine_8 (by decide) (fun q => ?_) (fun q => ?_)
  · have h := zp q h
    refine z_iconst (v := 1) X dL_isLine_11 (by decide) ?_
    refine z_goto (tgt := 16) X dL_isLine_12 (by decide) ?_
    refine zz.pick (lo' := [(0, .ref ob), (1, .int (a1)), (2, .ref (ar 0))]) [0, 1, 2] rfl ?_
    exact bl_isLine_16 X Y hml hr ⟨by omega, by omega⟩ h
  · have h := zn q h
    refine z_iconst (v := (-1)) X dL_isLine_15 (by decide) ?_
    refine zz.pick (lo' := [(0, .ref ob), (1, .int (a1)), (2, .ref (ar 0))]) [0, 1, 2] rfl ?_
    exact bl_isLine_16 X Y hml hr ⟨by omega, by omega⟩ h
theorem ll_isLine (l : Launch) {D : va_G} {dA : Nat → ClassId} {A : Nat → Prop} {n : Nat} {ar : Nat → Nat} {ob b Ls : Nat} {sc : Nat → Int32} (hst : l.stackTraces = false) (hA : ∀ q, n ≤ q → A q) (hbA : ¬ A b) {σ : GS} {a1 : Int32} {o : Int32} (h : fl_isLine σ a1 = some o) : Met l yL_isLine (.code yL_isLine cL_isLine 7 (some .boolean) :: gT) ({ frames := 14, cells := 1036, slots := 29600, locals := 588 } : Room) (va_Pc [.ref ob, .int (a1), .ref (ar 0)] (zBL D dA A n b Ls sc (gw D dA A σ ob ar))) (va_Qi (fun r (_ : Unit) => r = o ∧ True) (fun _ t => gw D dA A σ ob ar t.heap) A) (1036) (29600) A :=
  z_metL (by decide) hA hbA hst (Nat.le_of_ble_eq_true rfl) rfl rfl (fun p e s m below meth c X Y hml hr => bl_isLine X Y hml hr ⟨by omega, by omega⟩ h)
-- joins([I[I[IIII)V
def fl_joins (σ : GS) (a1 : Int32) (a2 : Int32) (a3 : Int32) : Option (GS) := if (σ.2 2 (2 : Int32).toNatClampNeg) < 0 ∨ 64 ≤ ((σ.2 2 (2 : Int32).toNatClampNeg)).toNatClampNeg then none else (some ((σ.1, cs σ.2 0 ((σ.2 2 (2 : Int32).toNatClampNeg)).toNatClampNeg ((((a1 ||| (a2 <<< ((4 : Int32) &&& 31) : Int32)) ||| (a3 <<< ((10 : Int32) &&& 31) : Int32)) ||| ((σ.2 2 (0 : Int32).toNatClampNeg) <<< ((14 : Int32) &&& 31) : Int32)))) : GS)).bind fun σ1 => (fl_event σ1 (a1) (0) ((σ1.2 2 (0 : Int32).toNatClampNeg)) (a3)).bind fun o3 => if (σ1.2 2 (2 : Int32).toNatClampNeg) < 0 ∨ 64 ≤ ((σ1.2 2 (2 : Int32).toNatClampNeg)).toNatClampNeg then none else (some ((σ1.1, cs σ1.2 1 ((σ1.2 2 (2 : Int32).toNatClampNeg)).toNatClampNeg (o3)) : GS)).bind fun σ4 => if (2 : Int32) < 0 ∨ 5 ≤ ((2 : Int32)).toNatClampNeg then none else (some ((σ4.1, cs σ4.2 2 ((2 : Int32)).toNatClampNeg (((σ4.2 2 (2 : Int32).toNatClampNeg) + 1))) : GS)).bind fun σ6 => some σ6
set_option maxRecDepth 100000 in
set_option maxHeartbeats 4000000 in
theorem bl_joins {p : Program} {l : Launch} {e : Env} {s : State} {m : MethodId} {args : Array Value} {below : List Frame} {meth : Method} {c : Code} {D : va_G} {dA : Nat → ClassId} {A : Nat → Prop} {ar : Nat → Nat} {ob b Ls : Nat} {sc : Nat → Int32} {o : GS} (X : zc p l s m args meth c cL_joins RL D dA A) (Y : zY s A b Ls sc) (hml : c.maxLocals = 6) (hr : meth.sig.returnType = none) {σ : GS} {a1 : Int32} {a2 : Int32} {a3 : Int32} (h : fl_joins σ a1 a2 a3 = some o) : zz p l e ({ frames := 2, cells := 0, slots := 0, locals := 84 } : Room) s m args below meth c A (gw D dA A σ ob ar) 0 0 (MQ below (va_Qv (fun (_ : Unit) => True) (fun _ t => gw D dA A o ob ar t.heap) A) args s (0) (0) A) 0 [(0, .ref (ar 0)), (1, .ref (ar 1)), (2, .ref (ar 2)), (3, .int (a1)), (4, .int (a2)), (5, .int (a3))] [] [] := by
  unfold fl_joins at h
  refine z_aload_n X dL_joins_0 rfl rfl ?_
  refine z_aload_n X dL_joins_1 rfl rfl ?_
  refine z_iconst (v := 2) X dL_joins_2 (by decide) ?_
  refine l_ald X 2 rfl (by decide) dL_joins_3 ?_
  refine z_iload_n X dL_joins_4 rfl rfl ?_
  refine z_iload X dL_joins_5 rfl ?_
  refine z_iconst (v := 4) X dL_joins_7 (by decide) ?_
  refine z_ishl X dL_joins_8 ?_
  refine z_ior X dL_joins_9 ?_
  refine z_iload X dL_joins_10 rfl ?_
  refine z_bipush (v := 10) X dL_joins_12 (by decide) ?_
  refine z_ishl X dL_joins_14 ?_
  refine z_ior X dL_joins_15 ?_
  refine z_aload_n X dL_joins_16 rfl rfl ?_
  refine z_iconst (v := 0) X dL_joins_17 (by decide) ?_
  refine l_ald X 2 rfl (by decide) dL_joins_18 ?_
  refine z_bipush (v := 14) X dL_joins_19 (by decide) ?_
  refine z_ishl X dL_joins_21 ?_
  refine z_ior X dL_joins_22 ?_
  obtain ⟨q2, h⟩ := zg h
  obtain ⟨σ1, eσ1, h⟩ := zb h
  refine l_ast X 0 rfl q2 eσ1 dL_joins_23 ?_
  refine z_aload_n X dL_joins_24 rfl rfl ?_
  refine z_aload_n X dL_joins_25 rfl rfl ?_
  refine z_iconst (v := 2) X dL_joins_26 (by decide) ?_
  refine l_ald X 2 rfl (by decide) dL_joins_27 ?_
  refine z_iload_n X dL_joins_28 rfl rfl ?_
  refine z_iconst (v := 0) X dL_joins_29 (by decide) ?_
  refine z_aload_n X dL_joins_30 rfl rfl ?_
  refine z_iconst (v := 0) X dL_joins_31 (by decide) ?_
  refine l_ald X 2 rfl (by decide) dL_joins_32 ?_
  refine z_iload X dL_joins_33 rfl ?_
  obtain ⟨o3, co3, h⟩ := zb2 h
  refine z_lSi (As := [.int (a1), .int (0), .int ((σ1.2 2 (0 : Int32).toNatClampNeg)), .int (a3)]) (rest := [.int ((σ1.2 2 (2 : Int32).toNatClampNeg)), .ref (ar 1)]) (nA := 4) (mc := 0) (ms := 0) (r0 := o3) (pu := fun (_ : Unit) => True) (G1 := fun _ => gw D dA A σ1 ob ar) X Y (ll_event l X.2.2.2.2.2.2.2.2 X.2.2.2.2.2.2.1 Y.2.2.2 co3) n_768 n_769 n_0 n_770 nh_yL_event ⟨rfl, rfl, Nat.le_of_ble_eq_true rfl, Nat.le_of_ble_eq_true rfl⟩ rfl rfl (Nat.le_of_ble_eq_true rfl) dL_joins_35 ⟨by show _ ≤ 0; omega, by show _ ≤ 0; omega⟩ (fun _ _ => ?_)
  obtain ⟨q5, h⟩ := zg h
  obtain ⟨σ4, eσ4, h⟩ := zb h
  refine l_ast X 1 rfl q5 eσ4 dL_joins_38 ?_
  refine z_aload_n X dL_joins_39 rfl rfl ?_
  refine z_iconst (v := 2) X dL_joins_40 (by decide) ?_
  refine z_dup2 X dL_joins_41 rfl rfl ?_
  refine l_ald X 2 rfl (by decide) dL_joins_42 ?_
  refine z_iconst (v := 1) X dL_joins_43 (by decide) ?_
  refine z_iadd X dL_joins_44 ?_
  obtain ⟨q7, h⟩ := zg h
  obtain ⟨σ6, eσ6, h⟩ := zb h
  refine l_ast X 2 rfl q7 eσ6 dL_joins_45 ?_
  obtain rfl := Option.some.inj h
  exact z_vret X hr (fun t hG hF _ => ⟨⟨(), rfl, trivial, hG⟩, hF⟩) dL_joins_46
theorem ll_joins (l : Launch) {D : va_G} {dA : Nat → ClassId} {A : Nat → Prop} {n : Nat} {ar : Nat → Nat} {ob b Ls : Nat} {sc : Nat → Int32} (hst : l.stackTraces = false) (hA : ∀ q, n ≤ q → A q) (hbA : ¬ A b) {σ : GS} {a1 : Int32} {a2 : Int32} {a3 : Int32} {o : GS} (h : fl_joins σ a1 a2 a3 = some o) : Met l yL_joins (.code yL_joins cL_joins 6 none :: gT) ({ frames := 2, cells := 0, slots := 0, locals := 84 } : Room) (va_Pc [.ref (ar 0), .ref (ar 1), .ref (ar 2), .int (a1), .int (a2), .int (a3)] (zBL D dA A n b Ls sc (gw D dA A σ ob ar))) (va_Qv (fun (_ : Unit) => True) (fun _ t => gw D dA A o ob ar t.heap) A) (0) (0) A :=
  z_metL (by decide) hA hbA hst (Nat.le_of_ble_eq_true rfl) rfl rfl (fun p e s m below meth c X Y hml hr => bl_joins X Y hml hr h)
