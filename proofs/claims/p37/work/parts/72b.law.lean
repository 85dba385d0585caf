-- isWhole(LMeshBiller;[I)Z
def fl_isWhole_223 (k184 : GS → Int32 → Int32 → Int64 → Int64 → Option (Int32)) (σ : GS) (v7 : Int32) (u2 : Int64) (u4 : Int64) (s0 : Int32) : Option (Int32) := (some (v7 + 1)).bind fun x1 => k184 σ s0 x1 (u2) (u4)
set_option maxRecDepth 100000 in
set_option maxHeartbeats 4000000 in
theorem bl_isWhole_223 {p : Program} {l : Launch} {e : Env} {s : State} {m : MethodId} {args : Array Value} {below : List Frame} {meth : Method} {c : Code} {D : va_G} {dA : Nat → ClassId} {A : Nat → Prop} {ar : Nat → Nat} {ob b Ls : Nat} {sc : Nat → Int32} {σ : GS} {o : Int32} (X : zc p l s m args meth c cL_isWhole RL D dA A) (Y : zY s A b Ls sc) (hml : c.maxLocals = 8) (hr : meth.sig.returnType = (some .boolean)) {k184 : GS → Int32 → Int32 → Int64 → Int64 → Option (Int32)} (hk184 : ∀ {v6 : Int32} {v7 : Int32} {u2 : Int64} {u4 : Int64}, k184 σ v6 v7 u2 u4 = some o → zz p l e ({ frames := 12, cells := 0, slots := 0, locals := 504 } : Room) s m args below meth c A (gw D dA A σ ob ar) 0 0 (MQ below (va_Qi (fun r (_ : Unit) => r = o ∧ True) (fun _ t => gw D dA A σ ob ar t.heap) A) args s (0) (0) A) 184 [(0, .ref ob), (1, .ref (ar 2)), (6, .int (v6)), (7, .int (v7))] [(2, u2), (4, u4)] []) {v7 : Int32} {u2 : Int64} {u4 : Int64} {s0 : Int32} (h : fl_isWhole_223 k184 σ v7 u2 u4 s0 = some o) : zz p l e ({ frames := 12, cells := 0, slots := 0, locals := 504 } : Room) s m args below meth c A (gw D dA A σ ob ar) 0 0 (MQ below (va_Qi (fun r (_ : Unit) => r = o ∧ True) (fun _ t => gw D dA A σ ob ar t.heap) A) args s (0) (0) A) 223 [(0, .ref ob), (1, .ref (ar 2)), (7, .int (v7))] [(2, u2), (4, u4)] [.int (s0)] := by
  unfold fl_isWhole_223 at h
  refine z_istore (lo' := [(6, .int (s0)), (0, .ref ob), (1, .ref (ar 2)), (7, .int (v7))]) X dL_isWhole_223 (by rw [hml]; decide) rfl rfl ?_
  obtain ⟨x1, ex1, h⟩ := zb h
  refine z_iinc (v := x1) (lo' := [(7, .int (x1)), (6, .int (s0)), (0, .ref ob), (1, .ref (ar 2))]) X dL_isWhole_225 rfl ex1 (by rw [hml]; decide) rfl rfl ?_
  refine z_goto (tgt := 184) X dL_isWhole_228 (by decide) ?_
  refine zz.pick (lo' := [(0, .ref ob), (1, .ref (ar 2)), (6, .int (s0)), (7, .int (x1))]) [0, 1, 6, 7] rfl ?_
  exact hk184  h
def fl_isWhole_222 (k184 : GS → Int32 → Int32 → Int64 → Int64 → Option (Int32)) (σ : GS) (v7 : Int32) (u2 : Int64) (u4 : Int64) : Option (Int32) := fl_isWhole_223 k184 σ v7 (u2) (u4) 0
set_option maxRecDepth 100000 in
set_option maxHeartbeats 4000000 in
theorem bl_isWhole_222 {p : Program} {l : Launch} {e : Env} {s : State} {m : MethodId} {args : Array Value} {below : List Frame} {meth : Method} {c : Code} {D : va_G} {dA : Nat → ClassId} {A : Nat → Prop} {ar : Nat → Nat} {ob b Ls : Nat} {sc : Nat → Int32} {σ : GS} {o : Int32} (X : zc p l s m args meth c cL_isWhole RL D dA A) (Y : zY s A b Ls sc) (hml : c.maxLocals = 8) (hr : meth.sig.returnType = (some .boolean)) {k184 : GS → Int32 → Int32 → Int64 → Int64 → Option (Int32)} (hk184 : ∀ {v6 : Int32} {v7 : Int32} {u2 : Int64} {u4 : Int64}, k184 σ v6 v7 u2 u4 = some o → zz p l e ({ frames := 12, cells := 0, slots := 0, locals := 504 } : Room) s m args below meth c A (gw D dA A σ ob ar) 0 0 (MQ below (va_Qi (fun r (_ : Unit) => r = o ∧ True) (fun _ t => gw D dA A σ ob ar t.heap) A) args s (0) (0) A) 184 [(0, .ref ob), (1, .ref (ar 2)), (6, .int (v6)), (7, .int (v7))] [(2, u2), (4, u4)] []) {v7 : Int32} {u2 : Int64} {u4 : Int64} (h : fl_isWhole_222 k184 σ v7 u2 u4 = some o) : zz p l e ({ frames := 12, cells := 0, slots := 0, locals := 504 } : Room) s m args below meth c A (gw D dA A σ ob ar) 0 0 (MQ below (va_Qi (fun r (_ : Unit) => r = o ∧ True) (fun _ t => gw D dA A σ ob ar t.heap) A) args s (0) (0) A) 222 [(0, .ref ob), (1, .ref (ar 2)), (7, .int (v7))] [(2, u2), (4, u4)] [] := by
  unfold fl_isWhole_222 at h
  refine z_iconst (v := 0) X dL_isWhole_222 (by decide) ?_
  refine zz.pick (lo' := [(0, .ref ob), (1, .ref (ar 2)), (7, .int (v7))]) [0, 1, 7] rfl ?_
  exact bl_isWhole_223 X Y hml hr hk184 h
def fl_isWhole_184 : Nat → GS → Int32 → Int32 → Int64 → Int64 → Option (Int32)
  | 0, _, _, _, _, _ => none
  | n + 1, σ, v6, v7, u2, u4 => (if (σ.2 2 (3 : Int32).toNatClampNeg) ≤ v7 then (if v6 = 0 then some (0)
  else (if (lg_cmp u2 ((σ.2 2 (4 : Int32).toNatClampNeg) : Int32).toInt64) = 0 then (if (lg_cmp u4 0) = 0 then some (1)
  else some (0))
  else some (0)))
  else (if v6 = 0 then fl_isWhole_222 (fl_isWhole_184 n) σ v7 (u2) (u4)
  else (aq_left σ.1 (v7)).bind fun o1 => (if o1 < 0 then fl_isWhole_222 (fl_isWhole_184 n) σ v7 (u2) (u4)
  else (aq_left σ.1 (v7)).bind fun o2 => (if 5000 < o2 then fl_isWhole_222 (fl_isWhole_184 n) σ v7 (u2) (u4)
  else fl_isWhole_223 (fl_isWhole_184 n) σ v7 (u2) (u4) 1))))
set_option maxRecDepth 100000 in
set_option maxHeartbeats 4000000 in
theorem bl_isWhole_184 {p : Program} {l : Launch} {e : Env} {s : State} {m : MethodId} {args : Array Value} {below : List Frame} {meth : Method} {c : Code} {D : va_G} {dA : Nat → ClassId} {A : Nat → Prop} {ar : Nat → Nat} {ob b Ls : Nat} {sc : Nat → Int32} {σ : GS} {o : Int32} (X : zc p l s m args meth c cL_isWhole RL D dA A) (Y : zY s A b Ls sc) (hml : c.maxLocals = 8) (hr : meth.sig.returnType = (some .boolean)) : ∀ (n : Nat) {v6 : Int32} {v7 : Int32} {u2 : Int64} {u4 : Int64}, fl_isWhole_184 n σ v6 v7 u2 u4 = some o → zz p l e ({ frames := 12, cells := 0, slots := 0, locals := 504 } : Room) s m args below meth c A (gw D dA A σ ob ar) 0 0 (MQ below (va_Qi (fun r (_ : Unit) => r = o ∧ True) (fun _ t => gw D dA A σ ob ar t.heap) A) args s (0) (0) A) 184 [(0, .ref ob), (1, .ref (ar 2)), (6, .int (v6)), (7, .int (v7))] [(2, u2), (4, u4)] [] := by
  intro n
  induction n with
  | zero => intro v6 v7 u2 u4 h; exact (nomatch (show none = some o from h))
  | succ n ih =>
    intro v6 v7 u2 u4 h
    rw [fl_isWhole_184] at h
    refine z_iload X dL_isWhole_184 rfl ?_
    refine z_aload_n X dL_isWhole_186 rfl rfl ?_
    refine z_iconst (v := 3) X dL_isWhole_187 (by decide) ?_
    refine l_ald X 2 rfl (by decide) dL_isWhole_188 ?_
    refine z_icmp_ge (tgt := 231) X dL_isWhole_189 (by decide) (fun q => ?_) (fun q => ?_)
    · have h := zp q h
      refine z_iload X dL_isWhole_231 rfl ?_
      refine z_if_eq (tgt := 256) X dL_isWhole_233 (by decide) (fun q => ?_) (fun q => ?_)
      · have h := zp q h
        refine z_iconst (v := 0) X dL_isWhole_256 (by decide) ?_
        obtain rfl := Option.some.inj h
        exact z_iret X hr rfl (fun t hG hF _ => ⟨⟨_, (), rfl, ⟨rfl, trivial⟩, hG⟩, hF⟩) dL_isWhole_257
      · have h := zn q h
        refine z_lload_n X dL_isWhole_236 rfl rfl ?_
        refine z_aload_n X dL_isWhole_237 rfl rfl ?_
        refine z_iconst (v := 4) X dL_isWhole_238 (by decide) ?_
        refine l_ald X 2 rfl (by decide) dL_isWhole_239 ?_
        refine z_i2l X dL_isWhole_240 ?_
        refine z_lcmp X dL_isWhole_241 ?_
        refine z_if_ne (tgt := 256) X dL_isWhole_242 (by decide) (fun q => ?_) (fun q => ?_)
        · have h := zp q h
          refine z_lload X dL_isWhole_245 rfl ?_
          refine z_lconst (v := 0) X dL_isWhole_247 (by decide) ?_
          refine z_lcmp X dL_isWhole_248 ?_
          refine z_if_ne (tgt := 256) X dL_isWhole_249 (by decide) (fun q => ?_) (fun q => ?_)
          · have h := zp q h
            refine z_iconst (v := 1) X dL_isWhole_252 (by decide) ?_
            refine z_goto (tgt := 257) X dL_isWhole_253 (by decide) ?_
            obtain rfl := Option.some.inj h
            exact z_iret X hr rfl (fun t hG hF _ => ⟨⟨_, (), rfl, ⟨rfl, trivial⟩, hG⟩, hF⟩) dL_isWhole_257
          · have h := zn q h
            refine z_iconst (v := 0) X dL_isWhole_256 (by decide) ?_
            obtain rfl := Option.some.inj h
            exact z_iret X hr rfl (fun t hG hF _ => ⟨⟨_, (), rfl, ⟨rfl, trivial⟩, hG⟩, hF⟩) dL_isWhole_257
        · have h := zn q h
          refine z_iconst (v := 0) X dL_isWhole_256 (by decide) ?_
          obtain rfl := Option.some.inj h
          exact z_iret X hr rfl (fun t hG hF _ => ⟨⟨_, (), rfl, ⟨rfl, trivial⟩, hG⟩, hF⟩) dL_isWhole_257
    · have h := zn q h
      refine z_iload X dL_isWhole_192 rfl ?_
      refine z_if_eq (tgt := 222) X dL_isWhole_194 (by decide) (fun q => ?_) (fun q => ?_)
      · have h := zp q h
        refine zz.pick (lo' := [(0, .ref ob), (1, .ref (ar 2)), (7, .int (v7))]) [0, 1, 7] rfl ?_
        exact bl_isWhole_222 X Y hml hr ih h
      · have h := zn q h
        refine z_aload_n X dL_isWhole_197 rfl rfl ?_
        refine z_iload X dL_isWhole_198 rfl ?_
        obtain ⟨o1, co1, h⟩ := zb2 h
        refine l_q (As := [.int (v7)]) (rest := []) (nA := 1) (mc := 0) (ms := 0) (rm := ({ frames := 9, cells := 0, slots := 0, locals := 378 } : Room)) (r0 := o1) X (fun _ h11 => cz_left l X.2.2.2.2.2.2.2.2 X.2.2.2.2.2.2.1 h11 (fun _ z => nomatch z) (qo_eq co1)) n_858 n_859 n_860 n_1 n_861 nh_yX11_left ⟨rfl, rfl, Nat.le_of_ble_eq_true rfl, Nat.le_of_ble_eq_true rfl⟩ rfl rfl (Nat.le_of_ble_eq_true rfl) dL_isWhole_200 ⟨by show _ ≤ 0; omega, by show _ ≤ 0; omega⟩ ?_
        refine z_if_lt (tgt := 222) X dL_isWhole_203 (by decide) (fun q => ?_) (fun q => ?_)
        · have h := zp q h
          refine zz.pick (lo' := [(0, .ref ob), (1, .ref (ar 2)), (7, .int (v7))]) [0, 1, 7] rfl ?_
          exact bl_isWhole_222 X Y hml hr ih h
        · have h := zn q h
          refine z_aload_n X dL_isWhole_206 rfl rfl ?_
          refine z_iload X dL_isWhole_207 rfl ?_
          obtain ⟨o2, co2, h⟩ := zb2 h
          refine l_q (As := [.int (v7)]) (rest := []) (nA := 1) (mc := 0) (ms := 0) (rm := ({ frames := 9, cells := 0, slots := 0, locals := 378 } : Room)) (r0 := o2) X (fun _ h11 => cz_left l X.2.2.2.2.2.2.2.2 X.2.2.2.2.2.2.1 h11 (fun _ z => nomatch z) (qo_eq co2)) n_858 n_859 n_860 n_1 n_861 nh_yX11_left ⟨rfl, rfl, Nat.le_of_ble_eq_true rfl, Nat.le_of_ble_eq_true rfl⟩ rfl rfl (Nat.le_of_ble_eq_true rfl) dL_isWhole_209 ⟨by show _ ≤ 0; omega, by show _ ≤ 0; omega⟩ ?_
          refine z_sipush (v := 5000) X dL_isWhole_212 (by decide) ?_
          refine z_icmp_gt (tgt := 222) X dL_isWhole_215 (by decide) (fun q => ?_) (fun q => ?_)
          · have h := zp q h
            refine zz.pick (lo' := [(0, .ref ob), (1, .ref (ar 2)), (7, .int (v7))]) [0, 1, 7] rfl ?_
            exact bl_isWhole_222 X Y hml hr ih h
          · have h := zn q h
            refine z_iconst (v := 1) X dL_isWhole_218 (by decide) ?_
            refine z_goto (tgt := 223) X dL_isWhole_219 (by decide) ?_
            refine zz.pick (lo' := [(0, .ref ob), (1, .ref (ar 2)), (7, .int (v7))]) [0, 1, 7] rfl ?_
            exact bl_isWhole_223 X Y hml hr ih h
def fl_isWhole_173 (k103 : GS → Int32 → Int32 → Int64 → Int64 → Option (Int32)) (σ : GS) (v7 : Int32) (u2 : Int64) (u4 : Int64) (s0 : Int32) : Option (Int32) := (some (v7 + 1)).bind fun x1 => k103 σ s0 x1 (u2) (u4)
set_option maxRecDepth 100000 in
set_option maxHeartbeats 4000000 in
theorem bl_isWhole_173 {p : Program} {l : Launch} {e : Env} {s : State} {m : MethodId} {args : Array Value} {below : List Frame} {meth : Method} {c : Code} {D : va_G} {dA : Nat → ClassId} {A : Nat → Prop} {ar : Nat → Nat} {ob b Ls : Nat} {sc : Nat → Int32} {σ : GS} {o : Int32} (X : zc p l s m args meth c cL_isWhole RL D dA A) (Y : zY s A b Ls sc) (hml : c.maxLocals = 8) (hr : meth.sig.returnType = (some .boolean)) {k103 : GS → Int32 → Int32 → Int64 → Int64 → Option (Int32)} (hk103 : ∀ {v6 : Int32} {v7 : Int32} {u2 : Int64} {u4 : Int64}, k103 σ v6 v7 u2 u4 = some o → zz p l e ({ frames := 12, cells := 0, slots := 0, locals := 504 } : Room) s m args below meth c A (gw D dA A σ ob ar) 0 0 (MQ below (va_Qi (fun r (_ : Unit) => r = o ∧ True) (fun _ t => gw D dA A σ ob ar t.heap) A) args s (0) (0) A) 103 [(0, .ref ob), (1, .ref (ar 2)), (6, .int (v6)), (7, .int (v7))] [(2, u2), (4, u4)] []) {v7 : Int32} {u2 : Int64} {u4 : Int64} {s0 : Int32} (h : fl_isWhole_173 k103 σ v7 u2 u4 s0 = some o) : zz p l e ({ frames := 12, cells := 0, slots := 0, locals := 504 } : Room) s m args below meth c A (gw D dA A σ ob ar) 0 0 (MQ below (va_Qi (fun r (_ : Unit) => r = o ∧ True) (fun _ t => gw D dA A σ ob ar t.heap) A) args s (0) (0) A) 173 [(0, .ref ob), (1, .ref (ar 2)), (7, .int (v7))] [(2, u2), (4, u4)] [.int (s0)] := by
  unfold fl_isWhole_173 at h
  refine z_istore (lo' := [(6, .int (s0)), (0, .ref ob), (1, .ref (ar 2)), (7, .int (v7))]) X dL_isWhole_173 (by rw [hml]; decide) rfl rfl ?_
  obtain ⟨x1, ex1, h⟩ := zb h
  refine z_iinc (v := x1) (lo' := [(7, .int (x1)), (6, .int (s0)), (0, .ref ob), (1, .ref (ar 2))]) X dL_isWhole_175 rfl ex1 (by rw [hml]; decide) rfl rfl ?_
  refine z_goto (tgt := 103) X dL_isWhole_178 (by decide) ?_
  refine zz.pick (lo' := [(0, .ref ob), (1, .ref (ar 2)), (6, .int (s0)), (7, .int (x1))]) [0, 1, 6, 7] rfl ?_
  exact hk103  h
def fl_isWhole_172 (k103 : GS → Int32 → Int32 → Int64 → Int64 → Option (Int32)) (σ : GS) (v7 : Int32) (u2 : Int64) (u4 : Int64) : Option (Int32) := fl_isWhole_173 k103 σ v7 (u2) (u4) 0
set_option maxRecDepth 100000 in
set_option maxHeartbeats 4000000 in
theorem bl_isWhole_172 {p : Program} {l : Launch} {e : Env} {s : State} {m : MethodId} {args : Array Value} {below : List Frame} {meth : Method} {c : Code} {D : va_G} {dA : Nat → ClassId} {A : Nat → Prop} {ar : Nat → Nat} {ob b Ls : Nat} {sc : Nat → Int32} {σ : GS} {o : Int32} (X : zc p l s m args meth c cL_isWhole RL D dA A) (Y : zY s A b Ls sc) (hml : c.maxLocals = 8) (hr : meth.sig.returnType = (some .boolean)) {k103 : GS → Int32 → Int32 → Int64 → Int64 → Option (Int32)} (hk103 : ∀ {v6 : Int32} {v7 : Int32} {u2 : Int64} {u4 : Int64}, k103 σ v6 v7 u2 u4 = some o → zz p l e ({ frames := 12, cells := 0, slots := 0, locals := 504 } : Room) s m args below meth c A (gw D dA A σ ob ar) 0 0 (MQ below (va_Qi (fun r (_ : Unit) => r = o ∧ True) (fun _ t => gw D dA A σ ob ar t.heap) A) args s (0) (0) A) 103 [(0, .ref ob), (1, .ref (ar 2)), (6, .int (v6)), (7, .int (v7))] [(2, u2), (4, u4)] []) {v7 : Int32} {u2 : Int64} {u4 : Int64} (h : fl_isWhole_172 k103 σ v7 u2 u4 = some o) : zz p l e ({ frames := 12, cells := 0, slots := 0, locals := 504 } : Room) s m args below meth c A (gw D dA A σ ob ar) 0 0 (MQ below (va_Qi (fun r (_ : Unit) => r = o ∧ True) (fun _ t => gw D dA A σ ob ar t.heap) A) args s (0) (0) A) 172 [(0, .ref ob), (1, .ref (ar 2)), (7, .int (v7))] [(2, u2), (4, u4)] [] := by
  unfold fl_isWhole_172 at h
  refine z_iconst (v := 0) X dL_isWhole_172 (by decide) ?_
  refine zz.pick (lo' := [(0, .ref ob), (1, .ref (ar 2)), (7, .int (v7))]) [0, 1, 7] rfl ?_
  exact bl_isWhole_173 X Y hml hr hk103 h
def fl_isWhole_103 : Nat → GS → Int32 → Int32 → Int64 → Int64 → Option (Int32)
  | 0, _, _, _, _, _ => none
  | n + 1, σ, v6, v7, u2, u4 => (if (σ.2 2 (2 : Int32).toNatClampNeg) ≤ v7 then fl_isWhole_184 FU σ v6 0 (u2) (u4)
  else (aq_charged σ.1 (v7)).bind fun o1 => (some ((u4 - (o1 : Int32).toInt64))).bind fun x2 => (if v6 = 0 then fl_isWhole_172 (fl_isWhole_103 n) σ v7 (u2) (x2)
  else (aq_charged σ.1 (v7)).bind fun o3 => (if o3 < 0 then fl_isWhole_172 (fl_isWhole_103 n) σ v7 (u2) (x2)
  else (aq_covered σ.1 (v7)).bind fun o4 => (if o4 < 0 then fl_isWhole_172 (fl_isWhole_103 n) σ v7 (u2) (x2)
  else (aq_ratedByEvents σ.1 (v7)).bind fun o5 => (aq_charged σ.1 (v7)).bind fun o6 => (aq_covered σ.1 (v7)).bind fun o7 => (if o5 = (o6 + o7) then fl_isWhole_173 (fl_isWhole_103 n) σ v7 (u2) (x2) 1
  else fl_isWhole_172 (fl_isWhole_103 n) σ v7 (u2) (x2))))))
set_option maxRecDepth 100000 in
set_option maxHeartbeats 4000000 in
theorem bl_isWhole_103 {p : Program} {l : Launch} {e : Env} {s : State} {m : MethodId} {args : Array Value} {below : List Frame} {meth : Method} {c : Code} {D : va_G} {dA : Nat → ClassId} {A : Nat → Prop} {ar : Nat → Nat} {ob b Ls : Nat} {sc : Nat → Int32} {σ : GS} {o : Int32} (X : zc p l s m args meth c cL_isWhole RL D dA A) (Y : zY s A b Ls sc) (hml : c.maxLocals = 8) (hr : meth.sig.returnType = (some .boolean)) : ∀ (n : Nat) {v6 : Int32} {v7 : Int32} {u2 : Int64} {u4 : Int64}, fl_isWhole_103 n σ v6 v7 u2 u4 = some o → zz p l e ({ frames := 12, cells := 0, slots := 0, locals := 504 } : Room) s m args below meth c A (gw D dA A σ ob ar) 0 0 (MQ below (va_Qi (fun r (_ : Unit) => r = o ∧ True) (fun _ t => gw D dA A σ ob ar t.heap) A) args s (0) (0) A) 103 [(0, .ref ob), (1, .ref (ar 2)), (6, .int (v6)), (7, .int (v7))] [(2, u2), (4, u4)] [] := by
  intro n
  induction n with
  | zero => intro v6 v7 u2 u4 h; exact (nomatch (show none = some o from h))
  | succ n ih =>
    intro v6 v7 u2 u4 h
    rw [fl_isWhole_103] at h
    refine z_iload X dL_isWhole_103 rfl ?_
    refine z_aload_n X dL_isWhole_105 rfl rfl ?_
    refine z_iconst (v := 2) X dL_isWhole_106 (by decide) ?_
    refine l_ald X 2 rfl (by decide) dL_isWhole_107 ?_
    refine z_icmp_ge (tgt := 181) X dL_isWhole_108 (by decide) (fun q => ?_) (fun q => ?_)
    · have h := zp q h
      refine z_iconst (v := 0) X dL_isWhole_181 (by decide) ?_
      refine z_istore (lo' := [(7, .int (0)), (0, .ref ob), (1, .ref (ar 2)), (6, .int (v6))]) X dL_isWhole_182 (by rw [hml]; decide) rfl rfl ?_
      refine zz.pick (lo' := [(0, .ref ob), (1, .ref (ar 2)), (6, .int (v6)), (7, .int (0))]) [0, 1, 6, 7] rfl ?_
      exact bl_isWhole_184 X Y hml hr FU h
    · have h := zn q h
      refine z_lload X dL_isWhole_111 rfl ?_
      refine z_aload_n X dL_isWhole_113 rfl rfl ?_
      refine z_iload X dL_isWhole_114 rfl ?_
      obtain ⟨o1, co1, h⟩ := zb2 h
      refine l_q (As := [.int (v7)]) (rest := [.long (u4)]) (nA := 1) (mc := 0) (ms := 0) (rm := ({ frames := 10, cells := 0, slots := 0, locals := 420 } : Room)) (r0 := o1) X (fun _ h11 => cz_charged l X.2.2.2.2.2.2.2.2 X.2.2.2.2.2.2.1 h11 (fun _ z => nomatch z) (qo_eq co1)) n_952 n_953 n_954 n_1 n_955 nh_yX11_charged ⟨rfl, rfl, Nat.le_of_ble_eq_true rfl, Nat.le_of_ble_eq_true rfl⟩ rfl rfl (Nat.le_of_ble_eq_true rfl) dL_isWhole_116 ⟨by show _ ≤ 0; omega, by show _ ≤ 0; omega⟩ ?_
      refine z_i2l X dL_isWhole_119 ?_
      refine z_lsub X dL_isWhole_120 ?_
      obtain ⟨x2, ex2, h⟩ := zb h
      rw [ex2]
      refine z_lstore X dL_isWhole_121 (by rw [hml]; decide) (lo' := [(0, .ref ob), (1, .ref (ar 2)), (6, .int (v6)), (7, .int (v7))]) (ll' := [(4, x2), (2, u2)]) rfl rfl ?_
      refine z_iload X dL_isWhole_123 rfl ?_
      refine z_if_eq (tgt := 172) X dL_isWhole_125 (by decide) (fun q => ?_) (fun q => ?_)
      · have h := zp q h
        refine zz.pick (lo' := [(0, .ref ob), (1, .ref (ar 2)), (7, .int (v7))]) [0, 1, 7] rfl ?_
        refine zz.pickl (ll' := [(2, u2), (4, x2)]) [2, 4] rfl ?_
        exact bl_isWhole_172 X Y hml hr ih h
      · have h := zn q h
        refine z_aload_n X dL_isWhole_128 rfl rfl ?_
        refine z_iload X dL_isWhole_129 rfl ?_
        obtain ⟨o3, co3, h⟩ := zb2 h
        refine l_q (As := [.int (v7)]) (rest := []) (nA := 1) (mc := 0) (ms := 0) (rm := ({ frames := 10, cells := 0, slots := 0, locals := 420 } : Room)) (r0 := o3) X (fun _ h11 => cz_charged l X.2.2.2.2.2.2.2.2 X.2.2.2.2.2.2.1 h11 (fun _ z => nomatch z) (qo_eq co3)) n_952 n_953 n_954 n_1 n_955 nh_yX11_charged ⟨rfl, rfl, Nat.le_of_ble_eq_true rfl, Nat.le_of_ble_eq_true rfl⟩ rfl rfl (Nat.le_of_ble_eq_true rfl) dL_isWhole_131 ⟨by show _ ≤ 0; omega, by show _ ≤ 0; omega⟩ ?_
        refine z_if_lt (tgt := 172) X dL_isWhole_134 (by decide) (fun q => ?_) (fun q => ?_)
        · have h := zp q h
          refine zz.pick (lo' := [(0, .ref ob), (1, .ref (ar 2)), (7, .int (v7))]) [0, 1, 7] rfl ?_
          refine zz.pickl (ll' := [(2, u2), (4, x2)]) [2, 4] rfl ?_
          exact bl_isWhole_172 X Y hml hr ih h
        · have h := zn q h
          refine z_aload_n X dL_isWhole_137 rfl rfl ?_
          refine z_iload X dL_isWhole_138 rfl ?_
          obtain ⟨o4, co4, h⟩ := zb2 h
          refine l_q (As := [.int (v7)]) (rest := []) (nA := 1) (mc := 0) (ms := 0) (rm := ({ frames := 10, cells := 0, slots := 0, locals := 420 } : Room)) (r0 := o4) X (fun _ h11 => cz_covered l X.2.2.2.2.2.2.2.2 X.2.2.2.2.2.2.1 h11 (fun _ z => nomatch z) (qo_eq co4)) n_956 n_957 n_958 n_1 n_959 nh_yX11_covered ⟨rfl, rfl, Nat.le_of_ble_eq_true rfl, Nat.le_of_ble_eq_true rfl⟩ rfl rfl (Nat.le_of_ble_eq_true rfl) dL_isWhole_140 ⟨by show _ ≤ 0; omega, by show _ ≤ 0; omega⟩ ?_
          refine z_if_lt (tgt := 172) X dL_isWhole_143 (by decide) (fun q => ?_) (fun q => ?_)
          · have h := zp q h
            refine zz.pick (lo' := [(0, .ref ob), (1, .ref (ar 2)), (7, .int (v7))]) [0, 1, 7] rfl ?_
            refine zz.pickl (ll' := [(2, u2), (4, x2)]) [2, 4] rfl ?_
            exact bl_isWhole_172 X Y hml hr ih h
          · have h := zn q h
            refine z_aload_n X dL_isWhole_146 rfl rfl ?_
            refine z_iload X dL_isWhole_147 rfl ?_
            obtain ⟨o5, co5, h⟩ := zb2 h
            refine l_q (As := [.int (v7)]) (rest := []) (nA := 1) (mc := 0) (ms := 0) (rm := ({ frames := 11, cells := 0, slots := 0, locals := 462 } : Room)) (r0 := o5) X (fun _ h11 => cz_ratedByEvents l X.2.2.2.2.2.2.2.2 X.2.2.2.2.2.2.1 h11 (fun _ z => nomatch z) (qo_eq co5)) n_921 n_922 n_923 n_1 n_924 nh_yX11_ratedByEvents ⟨rfl, rfl, Nat.le_of_ble_eq_true rfl, Nat.le_of_ble_eq_true rfl⟩ rfl rfl (Nat.le_of_ble_eq_true rfl) dL_isWhole_149 ⟨by show _ ≤ 0; omega, by show _ ≤ 0; omega⟩ ?_
            refine z_aload_n X dL_isWhole_152 rfl rfl ?_
            refine z_iload X dL_isWhole_153 rfl ?_
            obtain ⟨o6, co6, h⟩ := zb2 h
            refine l_q (As := [.int (v7)]) (rest := [.int (o5)]) (nA := 1) (mc := 0) (ms := 0) (rm := ({ frames := 10, cells := 0, slots := 0, locals := 420 } : Room)) (r0 := o6) X (fun _ h11 => cz_charged l X.2.2.2.2.2.2.2.2 X.2.2.2.2.2.2.1 h11 (fun _ z => nomatch z) (qo_eq co6)) n_952 n_953 n_954 n_1 n_955 nh_yX11_charged ⟨rfl, rfl, Nat.le_of_ble_eq_true rfl, Nat.le_of_ble_eq_true rfl⟩ rfl rfl (Nat.le_of_ble_eq_true rfl) dL_isWhole_155 ⟨by show _ ≤ 0; omega, by show _ ≤ 0; omega⟩ ?_
            refine z_aload_n X dL_isWhole_158 rfl rfl ?_
            refine z_iload X dL_isWhole_159 rfl ?_
            obtain ⟨o7, co7, h⟩ := zb2 h
            refine l_q (As := [.int (v7)]) (rest := [.int (o6), .int (o5)]) (nA := 1) (mc := 0) (ms := 0) (rm := ({ frames := 10, cells := 0, slots := 0, locals := 420 } : Room)) (r0 := o7) X (fun _ h11 => cz_covered l X.2.2.2.2.2.2.2.2 X.2.2.2.2.2.2.1 h11 (fun _ z => nomatch z) (qo_eq co7)) n_956 n_957 n_958 n_1 n_959 nh_yX11_covered ⟨rfl, rfl, Nat.le_of_ble_eq_true rfl, Nat.le_of_ble_eq_true rfl⟩ rfl rfl (Nat.le_of_ble_eq_true rfl) dL_isWhole_161 ⟨by show _ ≤ 0; omega, by show _ ≤ 0; omega⟩ ?_
            refine z_iadd X dL_isWhole_164 ?_
            refine z_icmp_ne (tgt := 172) X dL_isWhole_165 (by decide) (fun q => ?_) (fun q => ?_)
            · have h := zp q h
              refine z_iconst (v := 1) X dL_isWhole_168 (by decide) ?_
              refine z_goto (tgt := 173) X dL_isWhole_169 (by decide) ?_
              refine zz.pick (lo' := [(0, .ref ob), (1, .ref (ar 2)), (7, .int (v7))]) [0, 1, 7] rfl ?_
              refine zz.pickl (ll' := [(2, u2), (4, x2)]) [2, 4] rfl ?_
              exact bl_isWhole_173 X Y hml hr ih h
            · have h := zn q h
              refine zz.pick (lo' := [(0, .ref ob), (1, .ref (ar 2)), (7, .int (v7))]) [0, 1, 7] rfl ?_
              refine zz.pickl (ll' := [(2, u2), (4, x2)]) [2, 4] rfl ?_
              exact bl_isWhole_172 X Y hml hr ih h
def fl_isWhole_92 (k11 : GS → Int32 → Int32 → Int64 → Int64 → Option (Int32)) (σ : GS) (v7 : Int32) (u2 : Int64) (u4 : Int64) (s0 : Int32) : Option (Int32) := (some (v7 + 1)).bind fun x1 => k11 σ s0 x1 (u2) (u4)
set_option maxRecDepth 100000 in
set_option maxHeartbeats 4000000 in
theorem bl_isWhole_92 {p : Program} {l : Launch} {e : Env} {s : State} {m : MethodId} {args : Array Value} {below : List Frame} {meth : Method} {c : Code} {D : va_G} {dA : Nat → ClassId} {A : Nat → Prop} {ar : Nat → Nat} {ob b Ls : Nat} {sc : Nat → Int32} {σ : GS} {o : Int32} (X : zc p l s m args meth c cL_isWhole RL D dA A) (Y : zY s A b Ls sc) (hml : c.maxLocals = 8) (hr : meth.sig.returnType = (some .boolean)) {k11 : GS → Int32 → Int32 → Int64 → Int64 → Option (Int32)} (hk11 : ∀ {v6 : Int32} {v7 : Int32} {u2 : Int64} {u4 : Int64}, k11 σ v6 v7 u2 u4 = some o → zz p l e ({ frames := 12, cells := 0, slots := 0, locals := 504 } : Room) s m args below meth c A (gw D dA A σ ob ar) 0 0 (MQ below (va_Qi (fun r (_ : Unit) => r = o ∧ True) (fun _ t => gw D dA A σ ob ar t.heap) A) args s (0) (0) A) 11 [(0, .ref ob), (1, .ref (ar 2)), (6, .int (v6)), (7, .int (v7))] [(2, u2), (4, u4)] []) {v7 : Int32} {u2 : Int64} {u4 : Int64} {s0 : Int32} (h : fl_isWhole_92 k11 σ v7 u2 u4 s0 = some o) : zz p l e ({ frames := 12, cells := 0, slots := 0, locals := 504 } : Room) s m args below meth c A (gw D dA A σ ob ar) 0 0 (MQ below (va_Qi (fun r (_ : Unit) => r = o ∧ True) (fun _ t => gw D dA A σ ob ar t.heap) A) args s (0) (0) A) 92 [(0, .ref ob), (1, .ref (ar 2)), (7, .int (v7))] [(2, u2), (4, u4)] [.int (s0)] := by
  unfold fl_isWhole_92 at h
  refine z_istore (lo' := [(6, .int (s0)), (0, .ref ob), (1, .ref (ar 2)), (7, .int (v7))]) X dL_isWhole_92 (by rw [hml]; decide) rfl rfl ?_
  obtain ⟨x1, ex1, h⟩ := zb h
  refine z_iinc (v := x1) (lo' := [(7, .int (x1)), (6, .int (s0)), (0, .ref ob), (1, .ref (ar 2))]) X dL_isWhole_94 rfl ex1 (by rw [hml]; decide) rfl rfl ?_
  refine z_goto (tgt := 11) X dL_isWhole_97 (by decide) ?_
  refine zz.pick (lo' := [(0, .ref ob), (1, .ref (ar 2)), (6, .int (s0)), (7, .int (x1))]) [0, 1, 6, 7] rfl ?_
  exact hk11  h
def fl_isWhole_91 (k11 : GS → Int32 → Int32 → Int64 → Int64 → Option (Int32)) (σ : GS) (v7 : Int32) (u2 : Int64) (u4 : Int64) : Option (Int32) := fl_isWhole_92 k11 σ v7 (u2) (u4) 0
set_option maxRecDepth 100000 in
set_option maxHeartbeats 4000000 in
theorem bl_isWhole_91 {p : Program} {l : Launch} {e : Env} {s : State} {m : MethodId} {args : Array Value} {below : List Frame} {meth : Method} {c : Code} {D : va_G} {dA : Nat → ClassId} {A : Nat → Prop} {ar : Nat → Nat} {ob b Ls : Nat} {sc : Nat → Int32} {σ : GS} {o : Int32} (X : zc p l s m args meth c cL_isWhole RL D dA A) (Y : zY s A b Ls sc) (hml : c.maxLocals = 8) (hr : meth.sig.returnType = (some .boolean)) {k11 : GS → Int32 → Int32 → Int64 → Int64 → Option (Int32)} (hk11 : ∀ {v6 : Int32} {v7 : Int32} {u2 : Int64} {u4 : Int64}, k11 σ v6 v7 u2 u4 = some o → zz p l e ({ frames := 12, cells := 0, slots := 0, locals := 504 } : Room) s m args below meth c A (gw D dA A σ ob ar) 0 0 (MQ below (va_Qi (fun r (_ : Unit) => r = o ∧ True) (fun _ t => gw D dA A σ ob ar t.heap) A) args s (0) (0) A) 11 [(0, .ref ob), (1, .ref (ar 2)), (6, .int (v6)), (7, .int (v7))] [(2, u2), (4, u4)] []) {v7 : Int32} {u2 : Int64} {u4 : Int64} (h : fl_isWhole_91 k11 σ v7 u2 u4 = some o) : zz p l e ({ frames := 12, cells := 0, slots := 0, locals := 504 } : Room) s m args below meth c A (gw D dA A σ ob ar) 0 0 (MQ below (va_Qi (fun r (_ : Unit) => r = o ∧ True) (fun _ t => gw D dA A σ ob ar t.heap) A) args s (0) (0) A) 91 [(0, .ref ob), (1, .ref (ar 2)), (7, .int (v7))] [(2, u2), (4, u4)] [] := by
  unfold fl_isWhole_91 at h
  refine z_iconst (v := 0) X dL_isWhole_91 (by decide) ?_
  refine zz.pick (lo' := [(0, .ref ob), (1, .ref (ar 2)), (7, .int (v7))]) [0, 1, 7] rfl ?_
  exact bl_isWhole_92 X Y hml hr hk11 h
def fl_isWhole_11 : Nat → GS → Int32 → Int32 → Int64 → Int64 → Option (Int32)
  | 0, _, _, _, _, _ => none
  | n + 1, σ, v6, v7, u2, u4 => (if 4 ≤ v7 then fl_isWhole_103 FU σ v6 0 (u2) (u4)
  else (aq_free σ.1 (v7)).bind fun o1 => (aq_aside σ.1 (v7)).bind fun o2 => (aq_spent σ.1 (v7)).bind fun o3 => (some ((u2 + (((o1 : Int32).toInt64 + (o2 : Int32).toInt64) + (o3 : Int32).toInt64)))).bind fun x4 => (aq_spent σ.1 (v7)).bind fun o5 => (some ((u4 + (o5 : Int32).toInt64))).bind fun x6 => (if v6 = 0 then fl_isWhole_91 (fl_isWhole_11 n) σ v7 (x4) (x6)
  else (aq_free σ.1 (v7)).bind fun o7 => (if o7 < 0 then fl_isWhole_91 (fl_isWhole_11 n) σ v7 (x4) (x6)
  else (aq_aside σ.1 (v7)).bind fun o8 => (if o8 < 0 then fl_isWhole_91 (fl_isWhole_11 n) σ v7 (x4) (x6)
  else (aq_spent σ.1 (v7)).bind fun o9 => (if o9 < 0 then fl_isWhole_91 (fl_isWhole_11 n) σ v7 (x4) (x6)
  else fl_isWhole_92 (fl_isWhole_11 n) σ v7 (x4) (x6) 1)))))
set_option maxRecDepth 100000 in
set_option maxHeartbeats 4000000 in
theorem bl_isWhole_11 {p : Program} {l : Launch} {e : Env} {s : State} {m : MethodId} {args : Array Value} {below : List Frame} {meth : Method} {c : Code} {D : va_G} {dA : Nat → ClassId} {A : Nat → Prop} {ar : Nat → Nat} {ob b Ls : Nat} {sc : Nat → Int32} {σ : GS} {o : Int32} (X : zc p l s m args meth c cL_isWhole RL D dA A) (Y : zY s A b Ls sc) (hml : c.maxLocals = 8) (hr : meth.sig.returnType = (some .boolean)) : ∀ (n : Nat) {v6 : Int32} {v7 : Int32} {u2 : Int64} {u4 : Int64}, fl_isWhole_11 n σ v6 v7 u2 u4 = some o → zz p l e ({ frames := 12, cells := 0, slots := 0, locals := 504 } : Room) s m args below meth c A (gw D dA A σ ob ar) 0 0 (MQ below (va_Qi (fun r (_ : Unit) => r = o ∧ True) (fun _ t => gw D dA A σ ob ar t.heap) A) args s (0) (0) A) 11 [(0, .ref ob), (1, .ref (ar 2)), (6, .int (v6)), (7, .int (v7))] [(2, u2), (4, u4)] [] := by
  intro n
  induction n with
  | zero => intro v6 v7 u2 u4 h; exact (nomatch (show none = some o from h))
  | succ n ih =>
    intro v6 v7 u2 u4 h
    rw [fl_isWhole_11] at h
    refine z_iload X dL_isWhole_11 rfl ?_
    refine z_iconst (v := 4) X dL_isWhole_13 (by decide) ?_
    refine z_icmp_ge (tgt := 100) X dL_isWhole_14 (by decide) (fun q => ?_) (fun q => ?_)
    · have h := zp q h
      refine z_iconst (v := 0) X dL_isWhole_100 (by decide) ?_
      refine z_istore (lo' := [(7, .int (0)), (0, .ref ob), (1, .ref (ar 2)), (6, .int (v6))]) X dL_isWhole_101 (by rw [hml]; decide) rfl rfl ?_
      refine zz.pick (lo' := [(0, .ref ob), (1, .ref (ar 2)), (6, .int (v6)), (7, .int (0))]) [0, 1, 6, 7] rfl ?_
      exact bl_isWhole_103 X Y hml hr FU h
    · have h := zn q h
      refine z_lload_n X dL_isWhole_17 rfl rfl ?_
      refine z_aload_n X dL_isWhole_18 rfl rfl ?_
      refine z_iload X dL_isWhole_19 rfl ?_
      obtain ⟨o1, co1, h⟩ := zb2 h
      refine l_q (As := [.int (v7)]) (rest := [.long (u2)]) (nA := 1) (mc := 0) (ms := 0) (rm := ({ frames := 7, cells := 0, slots := 0, locals := 294 } : Room)) (r0 := o1) X (fun _ h11 => cz_free l X.2.2.2.2.2.2.2.2 X.2.2.2.2.2.2.1 h11 (fun _ z => nomatch z) (qo_eq co1)) n_801 n_802 n_803 n_1 n_804 nh_yX11_free ⟨rfl, rfl, Nat.le_of_ble_eq_true rfl, Nat.le_of_ble_eq_true rfl⟩ rfl rfl (Nat.le_of_ble_eq_true rfl) dL_isWhole_21 ⟨by show _ ≤ 0; omega, by show _ ≤ 0; omega⟩ ?_
      refine z_i2l X dL_isWhole_24 ?_
      refine z_aload_n X dL_isWhole_25 rfl rfl ?_
      refine z_iload X dL_isWhole_26 rfl ?_
      obtain ⟨o2, co2, h⟩ := zb2 h
      refine l_q (As := [.int (v7)]) (rest := [.long ((o1 : Int32).toInt64), .long (u2)]) (nA := 1) (mc := 0) (ms := 0) (rm := ({ frames := 7, cells := 0, slots := 0, locals := 294 } : Room)) (r0 := o2) X (fun _ h11 => cz_aside l X.2.2.2.2.2.2.2.2 X.2.2.2.2.2.2.1 h11 (fun _ z => nomatch z) (qo_eq co2)) n_944 n_945 n_946 n_1 n_947 nh_yX11_aside ⟨rfl, rfl, Nat.le_of_ble_eq_true rfl, Nat.le_of_ble_eq_true rfl⟩ rfl rfl (Nat.le_of_ble_eq_true rfl) dL_isWhole_28 ⟨by show _ ≤ 0; omega, by show _ ≤ 0; omega⟩ ?_
      refine z_i2l X dL_isWhole_31 ?_
      refine z_ladd X dL_isWhole_32 ?_
      refine z_aload_n X dL_isWhole_33 rfl rfl ?_
      refine z_iload X dL_isWhole_34 rfl ?_
      obtain ⟨o3, co3, h⟩ := zb2 h
      refine l_q (As := [.int (v7)]) (rest := [.long (((o1 : Int32).toInt64 + (o2 : Int32).toInt64)), .long (u2)]) (nA := 1) (mc := 0) (ms := 0) (rm := ({ frames := 7, cells := 0, slots := 0, locals := 294 } : Room)) (r0 := o3) X (fun _ h11 => cz_spent l X.2.2.2.2.2.2.2.2 X.2.2.2.2.2.2.1 h11 (fun _ z => nomatch z) (qo_eq co3)) n_948 n_949 n_950 n_1 n_951 nh_yX11_spent ⟨rfl, rfl, Nat.le_of_ble_eq_true rfl, Nat.le_of_ble_eq_true rfl⟩ rfl rfl (Nat.le_of_ble_eq_true rfl) dL_isWhole_36 ⟨by show _ ≤ 0; omega, by show _ ≤ 0; omega⟩ ?_
      refine z_i2l X dL_isWhole_39 ?_
      refine z_ladd X dL_isWhole_40 ?_
      refine z_ladd X dL_isWhole_41 ?_
      obtain ⟨x4, ex4, h⟩ := zb h
      rw [ex4]
      refine z_lstore_n X dL_isWhole_42 rfl (by rw [hml]; decide) (lo' := [(0, .ref ob), (1, .ref (ar 2)), (6, .int (v6)), (7, .int (v7))]) (ll' := [(2, x4), (4, u4)]) rfl rfl ?_
      refine z_lload X dL_isWhole_43 rfl ?_
      refine z_aload_n X dL_isWhole_45 rfl rfl ?_
      refine z_iload X dL_isWhole_46 rfl ?_
      obtain ⟨o5, co5, h⟩ := zb2 h
      refine l_q (As := [.int (v7)]) (rest := [.long (u4)]) (nA := 1) (mc := 0) (ms := 0) (rm := ({ frames := 7, cells := 0, slots := 0, locals := 294 } : Room)) (r0 := o5) X (fun _ h11 => cz_spent l X.2.2.2.2.2.2.2.2 X.2.2.2.2.2.2.1 h11 (fun _ z => nomatch z) (qo_eq co5)) n_948 n_949 n_950 n_1 n_951 nh_yX11_spent ⟨rfl, rfl, Nat.le_of_ble_eq_true rfl, Nat.le_of_ble_eq_true rfl⟩ rfl rfl (Nat.le_of_ble_eq_true rfl) dL_isWhole_48 ⟨by show _ ≤ 0; omega, by show _ ≤ 0; omega⟩ ?_
      refine z_i2l X dL_isWhole_51 ?_
      refine z_ladd X dL_isWhole_52 ?_
      obtain ⟨x6, ex6, h⟩ := zb h
      rw [ex6]
      refine z_lstore X dL_isWhole_53 (by rw [hml]; decide) (lo' := [(0, .ref ob), (1, .ref (ar 2)), (6, .int (v6)), (7, .int (v7))]) (ll' := [(4, x6), (2, x4)]) rfl rfl ?_
      refine z_iload X dL_isWhole_55 rfl ?_
      refine z_if_eq (tgt := 91) X dL_isWhole_57 (by decide) (fun q => ?_) (fun q => ?_)
      · have h := zp q h
        refine zz.pick (lo' := [(0, .ref ob), (1, .ref (ar 2)), (7, .int (v7))]) [0, 1, 7] rfl ?_
        refine zz.pickl (ll' := [(2, x4), (4, x6)]) [2, 4] rfl ?_
        exact bl_isWhole_91 X Y hml hr ih h
      · have h := zn q h
        refine z_aload_n X dL_isWhole_60 rfl rfl ?_
        refine z_iload X dL_isWhole_61 rfl ?_
        obtain ⟨o7, co7, h⟩ := zb2 h
        refine l_q (As := [.int (v7)]) (rest := []) (nA := 1) (mc := 0) (ms := 0) (rm := ({ frames := 7, cells := 0, slots := 0, locals := 294 } : Room)) (r0 := o7) X (fun _ h11 => cz_free l X.2.2.2.2.2.2.2.2 X.2.2.2.2.2.2.1 h11 (fun _ z => nomatch z) (qo_eq co7)) n_801 n_802 n_803 n_1 n_804 nh_yX11_free ⟨rfl, rfl, Nat.le_of_ble_eq_true rfl, Nat.le_of_ble_eq_true rfl⟩ rfl rfl (Nat.le_of_ble_eq_true rfl) dL_isWhole_63 ⟨by show _ ≤ 0; omega, by show _ ≤ 0; omega⟩ ?_
        refine z_if_lt (tgt := 91) X dL_isWhole_66 (by decide) (fun q => ?_) (fun q => ?_)
        · have h := zp q h
          refine zz.pick (lo' := [(0, .ref ob), (1, .ref (ar 2)), (7, .int (v7))]) [0, 1, 7] rfl ?_
          refine zz.pickl (ll' := [(2, x4), (4, x6)]) [2, 4] rfl ?_
          exact bl_isWhole_91 X Y hml hr ih h
        · have h := zn q h
          refine z_aload_n X dL_isWhole_69 rfl rfl ?_
          refine z_iload X dL_isWhole_70 rfl ?_
          obtain ⟨o8, co8, h⟩ := zb2 h
          refine l_q (As := [.int (v7)]) (rest := []) (nA := 1) (mc := 0) (ms := 0) (rm := ({ frames := 7, cells := 0, slots := 0, locals := 294 } : Room)) (r0 := o8) X (fun _ h11 => cz_aside l X.2.2.2.2.2.2.2.2 X.2.2.2.2.2.2.1 h11 (fun _ z => nomatch z) (qo_eq co8)) n_944 n_945 n_946 n_1 n_947 nh_yX11_aside ⟨rfl, rfl, Nat.le_of_ble_eq_true rfl, Nat.le_of_ble_eq_true rfl⟩ rfl rfl (Nat.le_of_ble_eq_true rfl) dL_isWhole_72 ⟨by show _ ≤ 0; omega, by show _ ≤ 0; omega⟩ ?_
          refine z_if_lt (tgt := 91) X dL_isWhole_75 (by decide) (fun q => ?_) (fun q => ?_)
          · have h := zp q h
            refine zz.pick (lo' := [(0, .ref ob), (1, .ref (ar 2)), (7, .int (v7))]) [0, 1, 7] rfl ?_
            refine zz.pickl (ll' := [(2, x4), (4, x6)]) [2, 4] rfl ?_
            exact bl_isWhole_91 X Y hml hr ih h
          · have h := zn q h
            refine z_aload_n X dL_isWhole_78 rfl rfl ?_
            refine z_iload X dL_isWhole_79 rfl ?_
            obtain ⟨o9, co9, h⟩ := zb2 h
            refine l_q (As := [.int (v7)]) (rest := []) (nA := 1) (mc := 0) (ms := 0) (rm := ({ frames := 7, cells := 0, slots := 0, locals := 294 } : Room)) (r0 := o9) X (fun _ h11 => cz_spent l X.2.2.2.2.2.2.2.2 X.2.2.2.2.2.2.1 h11 (fun _ z => nomatch z) (qo_eq co9)) n_948 n_949 n_950 n_1 n_951 nh_yX11_spent ⟨rfl, rfl, Nat.le_of_ble_eq_true rfl, Nat.le_of_ble_eq_true rfl⟩ rfl rfl (Nat.le_of_ble_eq_true rfl) dL_isWhole_81 ⟨by show _ ≤ 0; omega, by show _ ≤ 0; omega⟩ ?_
            refine z_if_lt (tgt := 91) X dL_isWhole_84 (by decide) (fun q => ?_) (fun q => ?_)
            · have h := zp q h
              refine zz.pick (lo' := [(0, .ref ob), (1, .ref (ar 2)), (7, .int (v7))]) [0, 1, 7] rfl ?_
              refine zz.pickl (ll' := [(2, x4), (4, x6)]) [2, 4] rfl ?_
              exact bl_isWhole_91 X Y hml hr ih h
            · have h := zn q h
              refine z_iconst (v := 1) X dL_isWhole_87 (by decide) ?_
              refine z_goto (tgt := 92) X dL_isWhole_88 (by decide) ?_
              refine zz.pick (lo' := [(0, .ref ob), (1, .ref (ar 2)), (7, .int (v7))]) [0, 1, 7] rfl ?_
              refine zz.pickl (ll' := [(2, x4), (4, x6)]) [2, 4] rfl ?_
              exact bl_isWhole_92 X Y hml hr ih h
def fl_isWhole (σ : GS)  : Option (Int32) := fl_isWhole_11 FU σ 1 0 (0) (0)
set_option maxRecDepth 100000 in
set_option maxHeartbeats 4000000 in
theorem bl_isWhole {p : Program} {l : Launch} {e : Env} {s : State} {m : MethodId} {args : Array Value} {below : List Frame} {meth : Method} {c : Code} {D : va_G} {dA : Nat → ClassId} {A : Nat → Prop} {ar : Nat → Nat} {ob b Ls : Nat} {sc : Nat → Int32} {σ : GS} {o : Int32} (X : zc p l s m args meth c cL_isWhole RL D dA A) (Y : zY s A b Ls sc) (hml : c.maxLocals = 8) (hr : meth.sig.returnType = (some .boolean))  (h : fl_isWhole σ = some o) : zz p l e ({ frames := 12, cells := 0, slots := 0, locals := 504 } : Room) s m args below meth c A (gw D dA A σ ob ar) 0 0 (MQ below (va_Qi (fun r (_ : Unit) => r = o ∧ True) (fun _ t => gw D dA A σ ob ar t.heap) A) args s (0) (0) A) 0 [(0, .ref ob), (1, .ref (ar 2))] [] [] := by
  unfold fl_isWhole at h
  refine z_lconst (v := 0) X dL_isWhole_0 (by decide) ?_
  refine z_lstore_n X dL_isWhole_1 rfl (by rw [hml]; decide) (lo' := [(0, .ref ob), (1, .ref (ar 2))]) (ll' := [(2, 0)]) rfl rfl ?_
  refine z_lconst (v := 0) X dL_isWhole_2 (by decide) ?_
  refine z_lstore X dL_isWhole_3 (by rw [hml]; decide) (lo' := [(0, .ref ob), (1, .ref (ar 2))]) (ll' := [(4, 0), (2, 0)]) rfl rfl ?_
  refine z_iconst (v := 1) X dL_isWhole_5 (by decide) ?_
  refine z_istore (lo' := [(6, .int (1)), (0, .ref ob), (1, .ref (ar 2))]) X dL_isWhole_6 (by rw [hml]; decide) rfl rfl ?_
  refine z_iconst (v := 0) X dL_isWhole_8 (by decide) ?_
  refine z_istore (lo' := [(7, .int (0)), (6, .int (1)), (0, .ref ob), (1, .ref (ar 2))]) X dL_isWhole_9 (by rw [hml]; decide) rfl rfl ?_
  refine zz.pick (lo' := [(0, .ref ob), (1, .ref (ar 2)), (6, .int (1)), (7, .int (0))]) [0, 1, 6, 7] rfl ?_
  refine zz.pickl (ll' := [(2, 0), (4, 0)]) [2, 4] rfl ?_
  exact bl_isWhole_11 X Y hml hr FU h
theorem ll_isWhole (l : Launch) {D : va_G} {dA : Nat → ClassId} {A : Nat → Prop} {n : Nat} {ar : Nat → Nat} {ob b Ls : Nat} {sc : Nat → Int32} (hst : l.stackTraces = false) (hA : ∀ q, n ≤ q → A q) (hbA : ¬ A b) {σ : GS}  {o : Int32} (h : fl_isWhole σ = some o) : Met l yL_isWhole (.code yL_isWhole cL_isWhole 8 (some .boolean) :: gT) ({ frames := 12, cells := 0, slots := 0, locals := 504 } : Room) (va_Pc [.ref ob, .ref (ar 2)] (zBL D dA A n b Ls sc (gw D dA A σ ob ar))) (va_Qi (fun r (_ : Unit) => r = o ∧ True) (fun _ t => gw D dA A σ ob ar t.heap) A) (0) (0) A :=
  z_metL (by decide) hA hbA hst (Nat.le_of_ble_eq_true rfl) rfl rfl (fun p e s m below meth c X Y hml hr => bl_isWhole X Y hml hr h)
