-- wallets(LMeshBiller;III[I)Z
def fl_wallets_34 (σ : GS) (v5 : Int32) (v6 : Int32) (s0 : Int32) (s1 : Int32) (s2 : Int32) : Option (GS × Int32) := if s2 = 0 then none else (some ((s0 + (s1 - s1 / s2 * s2)))).bind fun x2 => if (4 : Int32) < 0 ∨ 5 ≤ ((4 : Int32)).toNatClampNeg then none else (some ((σ.1, cs σ.2 2 ((4 : Int32)).toNatClampNeg (((σ.2 2 (4 : Int32).toNatClampNeg) + x2))) : GS)).bind fun σ3 => (dv_top σ3.1 (v5) (x2)).bind fun o5 => (some ((o5.1, σ3.2) : GS)).bind fun σ6 => (if o5.2 = (v6 + x2) then some (σ6, 1)
  else some (σ6, 0))
set_option maxRecDepth 100000 in
set_option maxHeartbeats 4000000 in
theorem bl_wallets_34 {p : Program} {l : Launch} {e : Env} {s : State} {m : MethodId} {args : Array Value} {below : List Frame} {meth : Method} {c : Code} {D : va_G} {dA : Nat → ClassId} {A : Nat → Prop} {ar : Nat → Nat} {ob b Ls : Nat} {sc : Nat → Int32} {o : GS × Int32} (X : zc p l s m args meth c cL_wallets RL D dA A) (Y : zY s A b Ls sc) (hml : c.maxLocals = 10) (hr : meth.sig.returnType = (some .boolean)) {cells slots : Nat} (hcs : cells + (2) ≤ 4 ∧ slots + (12) ≤ 3030) {σ : GS} {v5 : Int32} {v6 : Int32} {s0 : Int32} {s1 : Int32} {s2 : Int32} (h : fl_wallets_34 σ v5 v6 s0 s1 s2 = some o) : zz p l e ({ frames := 16, cells := 4, slots := 3030, locals := 672 } : Room) s m args below meth c A (gw D dA A σ ob ar) cells slots (MQ below (va_Qi (fun r (_ : Unit) => r = o.2 ∧ True) (fun _ t => gw D dA A o.1 ob ar t.heap) A) args s (4) (3030) A) 34 [(0, .ref ob), (4, .ref (ar 2)), (5, .int (v5)), (6, .int (v6))] [] [.int (s2), .int (s1), .int (s0)] := by
  obtain ⟨hcs1, hcs2⟩ := hcs
  unfold fl_wallets_34 at h
  obtain ⟨q1, h⟩ := zg h
  refine z_irem X dL_wallets_34 q1 ?_
  refine z_iadd X dL_wallets_35 ?_
  obtain ⟨x2, ex2, h⟩ := zb h
  rw [ex2]
  refine z_istore (lo' := [(7, .int (x2)), (0, .ref ob), (4, .ref (ar 2)), (5, .int (v5)), (6, .int (v6))]) X dL_wallets_36 (by rw [hml]; decide) rfl rfl ?_
  refine z_aload X dL_wallets_38 rfl ?_
  refine z_iconst (v := 4) X dL_wallets_40 (by decide) ?_
  refine z_dup2 X dL_wallets_41 rfl rfl ?_
  refine l_ald X 2 rfl (by decide) dL_wallets_42 ?_
  refine z_iload X dL_wallets_43 rfl ?_
  refine z_iadd X dL_wallets_45 ?_
  obtain ⟨q4, h⟩ := zg h
  obtain ⟨σ3, eσ3, h⟩ := zb h
  refine l_ast X 2 rfl q4 eσ3 dL_wallets_46 ?_
  refine z_aload_n X dL_wallets_47 rfl rfl ?_
  refine z_iload X dL_wallets_48 rfl ?_
  refine z_iload X dL_wallets_50 rfl ?_
  obtain ⟨o5, co5, h⟩ := zb2 h
  obtain ⟨σ6, eσ6, h⟩ := zb h
  obtain ⟨u7, ko5, jo5⟩ := vo_eq co5
  refine l_v (As := [.int (v5), .int (x2)]) (rest := []) (nA := 2) (mc := 2) (ms := 12) (rm := ({ frames := 7, cells := 2, slots := 12, locals := 294 } : Room)) (o := u7) X (fun _ h11 => cc_top l X.2.2.2.2.2.2.2.2 X.2.2.2.2.2.2.1 h11 ko5) n_805 n_806 n_807 n_1 n_808 nh_yX11_top ⟨rfl, rfl, Nat.le_of_ble_eq_true rfl, Nat.le_of_ble_eq_true rfl⟩ rfl rfl (Nat.le_of_ble_eq_true rfl) dL_wallets_52 ⟨by show _ ≤ 4; omega, by show _ ≤ 3030; omega⟩ ?_
  rw [show ((u7.1, σ3.1.2), σ3.2) = ((o5.1, σ3.2) : GS) by rw [jo5], show u7.2 = o5.2 by rw [jo5], eσ6]
  refine z_iload X dL_wallets_55 rfl ?_
  refine z_iload X dL_wallets_57 rfl ?_
  refine z_iadd X dL_wallets_59 ?_
  refine z_icmp_ne (tgt := 67) X dL_wallets_60 (by decide) (fun q => ?_) (fun q => ?_)
  · have h := zp q h
    refine z_iconst (v := 1) X dL_wallets_63 (by decide) ?_
    refine z_goto (tgt := 68) X dL_wallets_64 (by decide) ?_
    obtain rfl := Option.some.inj h
    refine zz.widen (k := 4) (n := 3030) (by omega) (by omega) ?_
    exact z_iret X hr rfl (fun t hG hF _ => ⟨⟨_, (), rfl, ⟨rfl, trivial⟩, hG⟩, hF⟩) dL_wallets_68
  · have h := zn q h
    refine z_iconst (v := 0) X dL_wallets_67 (by decide) ?_
    obtain rfl := Option.some.inj h
    refine zz.widen (k := 4) (n := 3030) (by omega) (by omega) ?_
    exact z_iret X hr rfl (fun t hG hF _ => ⟨⟨_, (), rfl, ⟨rfl, trivial⟩, hG⟩, hF⟩) dL_wallets_68
def fl_wallets_228 (σ : GS) (v5 : Int32) (v6 : Int32) (v9 : Int32) : Option (GS × Int32) := (if v9 = (-108) then (aq_free σ.1 (v5)).bind fun o1 => (if o1 = v6 then some (σ, 1)
  else some (σ, 0))
  else some (σ, 0))
set_option maxRecDepth 100000 in
set_option maxHeartbeats 4000000 in
theorem bl_wallets_228 {p : Program} {l : Launch} {e : Env} {s : State} {m : MethodId} {args : Array Value} {below : List Frame} {meth : Method} {c : Code} {D : va_G} {dA : Nat → ClassId} {A : Nat → Prop} {ar : Nat → Nat} {ob b Ls : Nat} {sc : Nat → Int32} {o : GS × Int32} (X : zc p l s m args meth c cL_wallets RL D dA A) (Y : zY s A b Ls sc) (hml : c.maxLocals = 10) (hr : meth.sig.returnType = (some .boolean)) {cells slots : Nat} (hcs : cells + (0) ≤ 4 ∧ slots + (0) ≤ 3030) {σ : GS} {v5 : Int32} {v6 : Int32} {v9 : Int32} (h : fl_wallets_228 σ v5 v6 v9 = some o) : zz p l e ({ frames := 16, cells := 4, slots := 3030, locals := 672 } : Room) s m args below meth c A (gw D dA A σ ob ar) cells slots (MQ below (va_Qi (fun r (_ : Unit) => r = o.2 ∧ True) (fun _ t => gw D dA A o.1 ob ar t.heap) A) args s (4) (3030) A) 228 [(0, .ref ob), (5, .int (v5)), (6, .int (v6)), (9, .int (v9))] [] [] := by
  obtain ⟨hcs1, hcs2⟩ := hcs
  unfold fl_wallets_228 at h
  refine z_iload X dL_wallets_228 rfl ?_
  refine z_bipush (v := (-108)) X dL_wallets_230 (by decide) ?_
  refine z_icmp_ne (tgt := 250) X dL_wallets_232 (by decide) (fun q => ?_) (fun q => ?_)
  · have h := zp q h
    refine z_aload_n X dL_wallets_235 rfl rfl ?_
    refine z_iload X dL_wallets_236 rfl ?_
    obtain ⟨o1, co1, h⟩ := zb2 h
    refine l_q (As := [.int (v5)]) (rest := []) (nA := 1) (mc := 0) (ms := 0) (rm := ({ frames := 7, cells := 0, slots := 0, locals := 294 } : Room)) (r0 := o1) X (fun _ h11 => cz_free l X.2.2.2.2.2.2.2.2 X.2.2.2.2.2.2.1 h11 (fun _ z => nomatch z) (qo_eq co1)) n_801 n_802 n_803 n_1 n_804 nh_yX11_free ⟨rfl, rfl, Nat.le_of_ble_eq_true rfl, Nat.le_of_ble_eq_true rfl⟩ rfl rfl (Nat.le_of_ble_eq_true rfl) dL_wallets_238 ⟨by show _ ≤ 4; omega, by show _ ≤ 3030; omega⟩ ?_
    refine z_iload X dL_wallets_241 rfl ?_
    refine z_icmp_ne (tgt := 250) X dL_wallets_243 (by decide) (fun q => ?_) (fun q => ?_)
    · have h := zp q h
      refine z_iconst (v := 1) X dL_wallets_246 (by decide) ?_
      refine z_goto (tgt := 251) X dL_wallets_247 (by decide) ?_
      obtain rfl := Option.some.inj h
      refine zz.widen (k := 4) (n := 3030) (by omega) (by omega) ?_
      exact z_iret X hr rfl (fun t hG hF _ => ⟨⟨_, (), rfl, ⟨rfl, trivial⟩, hG⟩, hF⟩) dL_wallets_251
    · have h := zn q h
      refine z_iconst (v := 0) X dL_wallets_250 (by decide) ?_
      obtain rfl := Option.some.inj h
      refine zz.widen (k := 4) (n := 3030) (by omega) (by omega) ?_
      exact z_iret X hr rfl (fun t hG hF _ => ⟨⟨_, (), rfl, ⟨rfl, trivial⟩, hG⟩, hF⟩) dL_wallets_251
  · have h := zn q h
    refine z_iconst (v := 0) X dL_wallets_250 (by decide) ?_
    obtain rfl := Option.some.inj h
    refine zz.widen (k := 4) (n := 3030) (by omega) (by omega) ?_
    exact z_iret X hr rfl (fun t hG hF _ => ⟨⟨_, (), rfl, ⟨rfl, trivial⟩, hG⟩, hF⟩) dL_wallets_251
def fl_wallets_165 (σ : GS) (v2 : Int32) (v3 : Int32) (v5 : Int32) (v6 : Int32) (s0 : Int32) : Option (GS × Int32) := (some ((1 + ((v2 / 4) - (v2 / 4) / 60 * 60)))).bind fun x1 => (ak_buy σ.1 (v5) ((1 + ((v3 / 900) - (v3 / 900) / 7 * 7))) (x1) ((1 + ((v2 / 240) - (v2 / 240) / 3 * 3))) ((v3 - v3 / 10 * 10)) (s0)).bind fun o2 => (some ((o2.1, σ.2) : GS)).bind fun σ3 => (some (o2.2)).bind fun x4 => (if v6 < s0 then fl_wallets_228 σ3 v5 v6 x4
  else (if (σ3.2 2 (3 : Int32).toNatClampNeg) = 40 then fl_wallets_228 σ3 v5 v6 x4
  else if (3 : Int32) < 0 ∨ 5 ≤ ((3 : Int32)).toNatClampNeg then none else (some ((σ3.1, cs σ3.2 2 ((3 : Int32)).toNatClampNeg (((σ3.2 2 (3 : Int32).toNatClampNeg) + 1))) : GS)).bind fun σ5 => if (4 : Int32) < 0 ∨ 5 ≤ ((4 : Int32)).toNatClampNeg then none else (some ((σ5.1, cs σ5.2 2 ((4 : Int32)).toNatClampNeg (((σ5.2 2 (4 : Int32).toNatClampNeg) - s0))) : GS)).bind fun σ7 => (if x4 = ((σ7.2 2 (3 : Int32).toNatClampNeg) - 1) then (aq_left σ7.1 (x4)).bind fun o9 => (if o9 = x1 then (aq_free σ7.1 (v5)).bind fun o10 => (if o10 = (v6 - s0) then some (σ7, 1)
  else some (σ7, 0))
  else some (σ7, 0))
  else some (σ7, 0))))
set_option maxRecDepth 100000 in
set_option maxHeartbeats 4000000 in
theorem bl_wallets_165 {p : Program} {l : Launch} {e : Env} {s : State} {m : MethodId} {args : Array Value} {below : List Frame} {meth : Method} {c : Code} {D : va_G} {dA : Nat → ClassId} {A : Nat → Prop} {ar : Nat → Nat} {ob b Ls : Nat} {sc : Nat → Int32} {o : GS × Int32} (X : zc p l s m args meth c cL_wallets RL D dA A) (Y : zY s A b Ls sc) (hml : c.maxLocals = 10) (hr : meth.sig.returnType = (some .boolean)) {cells slots : Nat} (hcs : cells + (4) ≤ 4 ∧ slots + (3030) ≤ 3030) {σ : GS} {v2 : Int32} {v3 : Int32} {v5 : Int32} {v6 : Int32} {s0 : Int32} (h : fl_wallets_165 σ v2 v3 v5 v6 s0 = some o) : zz p l e ({ frames := 16, cells := 4, slots := 3030, locals := 672 } : Room) s m args below meth c A (gw D dA A σ ob ar) cells slots (MQ below (va_Qi (fun r (_ : Unit) => r = o.2 ∧ True) (fun _ t => gw D dA A o.1 ob ar t.heap) A) args s (4) (3030) A) 165 [(0, .ref ob), (2, .int (v2)), (3, .int (v3)), (4, .ref (ar 2)), (5, .int (v5)), (6, .int (v6))] [] [.int (s0)] := by
  obtain ⟨hcs1, hcs2⟩ := hcs
  unfold fl_wallets_165 at h
  refine z_istore (lo' := [(7, .int (s0)), (0, .ref ob), (2, .int (v2)), (3, .int (v3)), (4, .ref (ar 2)), (5, .int (v5)), (6, .int (v6))]) X dL_wallets_165 (by rw [hml]; decide) rfl rfl ?_
  refine z_iconst (v := 1) X dL_wallets_167 (by decide) ?_
  refine z_iload_n X dL_wallets_168 rfl rfl ?_
  refine z_iconst (v := 4) X dL_wallets_169 (by decide) ?_
  refine z_idiv X dL_wallets_170 (by decide) ?_
  refine z_bipush (v := 60) X dL_wallets_171 (by decide) ?_
  refine z_irem X dL_wallets_173 (by decide) ?_
  refine z_iadd X dL_wallets_174 ?_
  obtain ⟨x1, ex1, h⟩ := zb h
  rw [ex1]
  refine z_istore (lo' := [(8, .int (x1)), (7, .int (s0)), (0, .ref ob), (2, .int (v2)), (3, .int (v3)), (4, .ref (ar 2)), (5, .int (v5)), (6, .int (v6))]) X dL_wallets_175 (by rw [hml]; decide) rfl rfl ?_
  refine z_aload_n X dL_wallets_177 rfl rfl ?_
  refine z_iload X dL_wallets_178 rfl ?_
  refine z_iconst (v := 1) X dL_wallets_180 (by decide) ?_
  refine z_iload_n X dL_wallets_181 rfl rfl ?_
  refine z_sipush (v := 900) X dL_wallets_182 (by decide) ?_
  refine z_idiv X dL_wallets_185 (by decide) ?_
  refine z_bipush (v := 7) X dL_wallets_186 (by decide) ?_
  refine z_irem X dL_wallets_188 (by decide) ?_
  refine z_iadd X dL_wallets_189 ?_
  refine z_iload X dL_wallets_190 rfl ?_
  refine z_iconst (v := 1) X dL_wallets_192 (by decide) ?_
  refine z_iload_n X dL_wallets_193 rfl rfl ?_
  refine z_sipush (v := 240) X dL_wallets_194 (by decide) ?_
  refine z_idiv X dL_wallets_197 (by decide) ?_
  refine z_iconst (v := 3) X dL_wallets_198 (by decide) ?_
  refine z_irem X dL_wallets_199 (by decide) ?_
  refine z_iadd X dL_wallets_200 ?_
  refine z_iload_n X dL_wallets_201 rfl rfl ?_
  refine z_bipush (v := 10) X dL_wallets_202 (by decide) ?_
  refine z_irem X dL_wallets_204 (by decide) ?_
  refine z_iload X dL_wallets_205 rfl ?_
  obtain ⟨o2, co2, h⟩ := zb2 h
  obtain ⟨σ3, eσ3, h⟩ := zb h
  refine z_callWi (As := [.ref ob, .int (v5), .int ((1 + ((v3 / 900) - (v3 / 900) / 7 * 7))), .int (x1), .int ((1 + ((v2 / 240) - (v2 / 240) / 3 * 3))), .int ((v3 - v3 / 10 * 10)), .int (s0)]) (rest := []) (nA := 7) (mc := 4) (ms := 3030) (rm := ({ frames := 15, cells := 4, slots := 3030, locals := 630 } : Room)) (S := Unit) (post := fun r _ => r = o2.2 ∧ True) (G1 := fun _ => gw D dA A (o2.1, σ.2) ob ar) X Y.1 (la_buy l X.2.2.2.2.2.2.2.2 X.2.2.2.2.2.2.1 co2) n_810 n_811 n_0 n_812 nh_yL_buys ⟨rfl, rfl, Nat.le_of_ble_eq_true rfl, Nat.le_of_ble_eq_true rfl⟩ rfl rfl (Nat.le_of_ble_eq_true rfl) dL_wallets_207 ⟨by show _ ≤ 4; omega, by show _ ≤ 3030; omega⟩ (fun r9 _ hr9 => ?_)
  obtain ⟨rfl, -⟩ := hr9
  rw [eσ3]
  obtain ⟨x4, ex4, h⟩ := zb h
  rw [ex4]
  refine z_istore (lo' := [(9, .int (x4)), (8, .int (x1)), (7, .int (s0)), (0, .ref ob), (2, .int (v2)), (3, .int (v3)), (4, .ref (ar 2)), (5, .int (v5)), (6, .int (v6))]) X dL_wallets_210 (by rw [hml]; decide) rfl rfl ?_
  refine z_iload X dL_wallets_212 rfl ?_
  refine z_iload X dL_wallets_214 rfl ?_
  refine z_icmp_lt (tgt := 228) X dL_wallets_216 (by decide) (fun q => ?_) (fun q => ?_)
  · have h := zp q h
    refine zz.pick (lo' := [(0, .ref ob), (5, .int (v5)), (6, .int (v6)), (9, .int (x4))]) [0, 5, 6, 9] rfl ?_
    exact bl_wallets_228 X Y hml hr ⟨by omega, by omega⟩ h
  · have h := zn q h
    refine z_aload X dL_wallets_219 rfl ?_
    refine z_iconst (v := 3) X dL_wallets_221 (by decide) ?_
    refine l_ald X 2 rfl (by decide) dL_wallets_222 ?_
    refine z_bipush (v := 40) X dL_wallets_223 (by decide) ?_
    refine z_icmp_ne (tgt := 252) X dL_wallets_225 (by decide) (fun q => ?_) (fun q => ?_)
    · have h := zp q h
      refine zz.pick (lo' := [(0, .ref ob), (5, .int (v5)), (6, .int (v6)), (9, .int (x4))]) [0, 5, 6, 9] rfl ?_
      exact bl_wallets_228 X Y hml hr ⟨by omega, by omega⟩ h
    · have h := zn q h
      refine z_aload X dL_wallets_252 rfl ?_
      refine z_iconst (v := 3) X dL_wallets_254 (by decide) ?_
      refine z_dup2 X dL_wallets_255 rfl rfl ?_
      refine l_ald X 2 rfl (by decide) dL_wallets_256 ?_
      refine z_iconst (v := 1) X dL_wallets_257 (by decide) ?_
      refine z_iadd X dL_wallets_258 ?_
      obtain ⟨q6, h⟩ := zg h
      obtain ⟨σ5, eσ5, h⟩ := zb h
      refine l_ast X 2 rfl q6 eσ5 dL_wallets_259 ?_
      refine z_aload X dL_wallets_260 rfl ?_
      refine z_iconst (v := 4) X dL_wallets_262 (by decide) ?_
      refine z_dup2 X dL_wallets_263 rfl rfl ?_
      refine l_ald X 2 rfl (by decide) dL_wallets_264 ?_
      refine z_iload X dL_wallets_265 rfl ?_
      refine z_isub X dL_wallets_267 ?_
      obtain ⟨q8, h⟩ := zg h
      obtain ⟨σ7, eσ7, h⟩ := zb h
      refine l_ast X 2 rfl q8 eσ7 dL_wallets_268 ?_
      refine z_iload X dL_wallets_269 rfl ?_
      refine z_aload X dL_wallets_271 rfl ?_
      refine z_iconst (v := 3) X dL_wallets_273 (by decide) ?_
      refine l_ald X 2 rfl (by decide) dL_wallets_274 ?_
      refine z_iconst (v := 1) X dL_wallets_275 (by decide) ?_
      refine z_isub X dL_wallets_276 ?_
      refine z_icmp_ne (tgt := 309) X dL_wallets_277 (by decide) (fun q => ?_) (fun q => ?_)
      · have h := zp q h
        refine z_aload_n X dL_wallets_280 rfl rfl ?_
        refine z_iload X dL_wallets_281 rfl ?_
        obtain ⟨o9, co9, h⟩ := zb2 h
        refine l_q (As := [.int (x4)]) (rest := []) (nA := 1) (mc := 0) (ms := 0) (rm := ({ frames := 9, cells := 0, slots := 0, locals := 378 } : Room)) (r0 := o9) X (fun _ h11 => cz_left l X.2.2.2.2.2.2.2.2 X.2.2.2.2.2.2.1 h11 (fun _ z => nomatch z) (qo_eq co9)) n_858 n_859 n_860 n_1 n_861 nh_yX11_left ⟨rfl, rfl, Nat.le_of_ble_eq_true rfl, Nat.le_of_ble_eq_true rfl⟩ rfl rfl (Nat.le_of_ble_eq_true rfl) dL_wallets_283 ⟨by show _ ≤ 4; omega, by show _ ≤ 3030; omega⟩ ?_
        refine z_iload X dL_wallets_286 rfl ?_
        refine z_icmp_ne (tgt := 309) X dL_wallets_288 (by decide) (fun q => ?_) (fun q => ?_)
        · have h := zp q h
          refine z_aload_n X dL_wallets_291 rfl rfl ?_
          refine z_iload X dL_wallets_292 rfl ?_
          obtain ⟨o10, co10, h⟩ := zb2 h
          refine l_q (As := [.int (v5)]) (rest := []) (nA := 1) (mc := 0) (ms := 0) (rm := ({ frames := 7, cells := 0, slots := 0, locals := 294 } : Room)) (r0 := o10) X (fun _ h11 => cz_free l X.2.2.2.2.2.2.2.2 X.2.2.2.2.2.2.1 h11 (fun _ z => nomatch z) (qo_eq co10)) n_801 n_802 n_803 n_1 n_804 nh_yX11_free ⟨rfl, rfl, Nat.le_of_ble_eq_true rfl, Nat.le_of_ble_eq_true rfl⟩ rfl rfl (Nat.le_of_ble_eq_true rfl) dL_wallets_294 ⟨by show _ ≤ 4; omega, by show _ ≤ 3030; omega⟩ ?_
          refine z_iload X dL_wallets_297 rfl ?_
          refine z_iload X dL_wallets_299 rfl ?_
          refine z_isub X dL_wallets_301 ?_
          refine z_icmp_ne (tgt := 309) X dL_wallets_302 (by decide) (fun q => ?_) (fun q => ?_)
          · have h := zp q h
            refine z_iconst (v := 1) X dL_wallets_305 (by decide) ?_
            refine z_goto (tgt := 310) X dL_wallets_306 (by decide) ?_
            obtain rfl := Option.some.inj h
            refine zz.widen (k := 4) (n := 3030) (by omega) (by omega) ?_
            exact z_iret X hr rfl (fun t hG hF _ => ⟨⟨_, (), rfl, ⟨rfl, trivial⟩, hG⟩, hF⟩) dL_wallets_310
          · have h := zn q h
            refine z_iconst (v := 0) X dL_wallets_309 (by decide) ?_
            obtain rfl := Option.some.inj h
            refine zz.widen (k := 4) (n := 3030) (by omega) (by omega) ?_
            exact z_iret X hr rfl (fun t hG hF _ => ⟨⟨_, (), rfl, ⟨rfl, trivial⟩, hG⟩, hF⟩) dL_wallets_310
        · have h := zn q h
          refine z_iconst (v := 0) X dL_wallets_309 (by decide) ?_
          obtain rfl := Option.some.inj h
          refine zz.widen (k := 4) (n := 3030) (by omega) (by omega) ?_
          exact z_iret X hr rfl (fun t hG hF _ => ⟨⟨_, (), rfl, ⟨rfl, trivial⟩, hG⟩, hF⟩) dL_wallets_310
      · have h := zn q h
        refine z_iconst (v := 0) X dL_wallets_309 (by decide) ?_
        obtain rfl := Option.some.inj h
        refine zz.widen (k := 4) (n := 3030) (by omega) (by omega) ?_
        exact z_iret X hr rfl (fun t hG hF _ => ⟨⟨_, (), rfl, ⟨rfl, trivial⟩, hG⟩, hF⟩) dL_wallets_310
def fl_wallets (σ : GS) (a1 : Int32) (a2 : Int32) (a3 : Int32) : Option (GS × Int32) := (some ((a2 - a2 / 4 * 4))).bind fun x1 => (aq_free σ.1 (x1)).bind fun o2 => (if a1 = 0 then (if (a3 - a3 / 4 * 4) = 0 then fl_wallets_34 σ x1 o2 1 a3 20000
  else fl_wallets_34 σ x1 o2 1 a3 900)
  else (if a1 = 1 then (some ((a3 - a3 / 4 * 4))).bind fun x3 => (some ((1 + ((a3 / 4) - (a3 / 4) / 500 * 500)))).bind fun x4 => (ak_give σ.1 (x1) (x3) (x4)).bind fun o5 => (some ((o5.1, σ.2) : GS)).bind fun σ6 => (some (o5.2)).bind fun x7 => (if x1 = x3 then (if x7 = (-109) then some (σ6, 1)
  else some (σ6, 0))
  else (if x4 ≤ o2 then (if x7 = (o2 - x4) then some (σ6, 1)
  else some (σ6, 0))
  else (if x7 = (-108) then some (σ6, 1)
  else some (σ6, 0))))
  else (if (a3 - a3 / 3 * 3) = 0 then fl_wallets_165 σ a2 a3 x1 o2 ((a3 / 3) - (a3 / 3) / 300 * 300)
  else fl_wallets_165 σ a2 a3 x1 o2 ((a3 / 3) - (a3 / 3) / 20 * 20))))
set_option maxRecDepth 100000 in
set_option maxHeartbeats 4000000 in
theorem bl_wallets {p : Program} {l : Launch} {e : Env} {s : State} {m : MethodId} {args : Array Value} {below : List Frame} {meth : Method} {c : Code} {D : va_G} {dA : Nat → ClassId} {A : Nat → Prop} {ar : Nat → Nat} {ob b Ls : Nat} {sc : Nat → Int32} {o : GS × Int32} (X : zc p l s m args meth c cL_wallets RL D dA A) (Y : zY s A b Ls sc) (hml : c.maxLocals = 10) (hr : meth.sig.returnType = (some .boolean)) {cells slots : Nat} (hcs : cells + (4) ≤ 4 ∧ slots + (3030) ≤ 3030) {σ : GS} {a1 : Int32} {a2 : Int32} {a3 : Int32} (h : fl_wallets σ a1 a2 a3 = some o) : zz p l e ({ frames := 16, cells := 4, slots := 3030, locals := 672 } : Room) s m args below meth c A (gw D dA A σ ob ar) cells slots (MQ below (va_Qi (fun r (_ : Unit) => r = o.2 ∧ True) (fun _ t => gw D dA A o.1 ob ar t.heap) A) args s (4) (3030) A) 0 [(0, .ref ob), (1, .int (a1)), (2, .int (a2)), (3, .int (a3)), (4, .ref (ar 2))] [] [] := by
  obtain ⟨hcs1, hcs2⟩ := hcs
  unfold fl_wallets at h
  refine z_iload_n X dL_wallets_0 rfl rfl ?_
  refine z_iconst (v := 4) X dL_wallets_1 (by decide) ?_
  refine z_irem X dL_wallets_2 (by decide) ?_
  obtain ⟨x1, ex1, h⟩ := zb h
  rw [ex1]
  refine z_istore (lo' := [(5, .int (x1)), (0, .ref ob), (1, .int (a1)), (2, .int (a2)), (3, .int (a3)), (4, .ref (ar 2))]) X dL_wallets_3 (by rw [hml]; decide) rfl rfl ?_
  refine z_aload_n X dL_wallets_5 rfl rfl ?_
  refine z_iload X dL_wallets_6 rfl ?_
  obtain ⟨o2, co2, h⟩ := zb2 h
  refine l_q (As := [.int (x1)]) (rest := []) (nA := 1) (mc := 0) (ms := 0) (rm := ({ frames := 7, cells := 0, slots := 0, locals := 294 } : Room)) (r0 := o2) X (fun _ h11 => cz_free l X.2.2.2.2.2.2.2.2 X.2.2.2.2.2.2.1 h11 (fun _ z => nomatch z) (qo_eq co2)) n_801 n_802 n_803 n_1 n_804 nh_yX11_free ⟨rfl, rfl, Nat.le_of_ble_eq_true rfl, Nat.le_of_ble_eq_true rfl⟩ rfl rfl (Nat.le_of_ble_eq_true rfl) dL_wallets_8 ⟨by show _ ≤ 4; omega, by show _ ≤ 3030; omega⟩ ?_
  refine z_istore (lo' := [(6, .int (o2)), (5, .int (x1)), (0, .ref ob), (1, .int (a1)), (2, .int (a2)), (3, .int (a3)), (4, .ref (ar 2))]) X dL_wallets_11 (by rw [hml]; decide) rfl rfl ?_
  refine z_iload_n X dL_wallets_13 rfl rfl ?_
  refine z_if_ne (tgt := 69) X dL_wallets_14 (by decide) (fun q => ?_) (fun q => ?_)
  · have h := zp q h
    refine z_iconst (v := 1) X dL_wallets_17 (by decide) ?_
    refine z_iload_n X dL_wallets_18 rfl rfl ?_
    refine z_iload_n X dL_wallets_19 rfl rfl ?_
    refine z_iconst (v := 4) X dL_wallets_20 (by decide) ?_
    refine z_irem X dL_wallets_21 (by decide) ?_
    refine z_if_ne (tgt := 31) X dL_wallets_22 (by decide) (fun q => ?_) (fun q => ?_)
    · have h := zp q h
      refine z_sipush (v := 20000) X dL_wallets_25 (by decide) ?_
      refine z_goto (tgt := 34) X dL_wallets_28 (by decide) ?_
      refine zz.pick (lo' := [(0, .ref ob), (4, .ref (ar 2)), (5, .int (x1)), (6, .int (o2))]) [0, 4, 5, 6] rfl ?_
      exact bl_wallets_34 X Y hml hr ⟨by omega, by omega⟩ h
    · have h := zn q h
      refine z_sipush (v := 900) X dL_wallets_31 (by decide) ?_
      refine zz.pick (lo' := [(0, .ref ob), (4, .ref (ar 2)), (5, .int (x1)), (6, .int (o2))]) [0, 4, 5, 6] rfl ?_
      exact bl_wallets_34 X Y hml hr ⟨by omega, by omega⟩ h
  · have h := zn q h
    refine z_iload_n X dL_wallets_69 rfl rfl ?_
    refine z_iconst (v := 1) X dL_wallets_70 (by decide) ?_
    refine z_icmp_ne (tgt := 143) X dL_wallets_71 (by decide) (fun q => ?_) (fun q => ?_)
    · have h := zp q h
      refine z_iload_n X dL_wallets_74 rfl rfl ?_
      refine z_iconst (v := 4) X dL_wallets_75 (by decide) ?_
      refine z_irem X dL_wallets_76 (by decide) ?_
      obtain ⟨x3, ex3, h⟩ := zb h
      rw [ex3]
      refine z_istore (lo' := [(7, .int (x3)), (6, .int (o2)), (5, .int (x1)), (0, .ref ob), (1, .int (a1)), (2, .int (a2)), (3, .int (a3)), (4, .ref (ar 2))]) X dL_wallets_77 (by rw [hml]; decide) rfl rfl ?_
      refine z_iconst (v := 1) X dL_wallets_79 (by decide) ?_
      refine z_iload_n X dL_wallets_80 rfl rfl ?_
      refine z_iconst (v := 4) X dL_wallets_81 (by decide) ?_
      refine z_idiv X dL_wallets_82 (by decide) ?_
      refine z_sipush (v := 500) X dL_wallets_83 (by decide) ?_
      refine z_irem X dL_wallets_86 (by decide) ?_
      refine z_iadd X dL_wallets_87 ?_
      obtain ⟨x4, ex4, h⟩ := zb h
      rw [ex4]
      refine z_istore (lo' := [(8, .int (x4)), (7, .int (x3)), (6, .int (o2)), (5, .int (x1)), (0, .ref ob), (1, .int (a1)), (2, .int (a2)), (3, .int (a3)), (4, .ref (ar 2))]) X dL_wallets_88 (by rw [hml]; decide) rfl rfl ?_
      refine z_aload_n X dL_wallets_90 rfl rfl ?_
      refine z_iconst (v := 3) X dL_wallets_91 (by decide) ?_
      refine z_iload X dL_wallets_92 rfl ?_
      refine z_iload X dL_wallets_94 rfl ?_
      refine z_iload X dL_wallets_96 rfl ?_
      obtain ⟨o5, co5, h⟩ := zb2 h
      obtain ⟨σ6, eσ6, h⟩ := zb h
      refine z_callWi (As := [.ref ob, .int (3), .int (x1), .int (x3), .int (x4)]) (rest := []) (nA := 5) (mc := 3) (ms := 18) (rm := ({ frames := 15, cells := 3, slots := 18, locals := 630 } : Room)) (S := Unit) (post := fun r _ => r = o5.2 ∧ True) (G1 := fun _ => gw D dA A (o5.1, σ.2) ob ar) X Y.1 (la_give l X.2.2.2.2.2.2.2.2 X.2.2.2.2.2.2.1 co5) n_390 n_391 n_0 n_392 nh_yL_asks ⟨rfl, rfl, Nat.le_of_ble_eq_true rfl, Nat.le_of_ble_eq_true rfl⟩ rfl rfl (Nat.le_of_ble_eq_true rfl) dL_wallets_98 ⟨by show _ ≤ 4; omega, by show _ ≤ 3030; omega⟩ (fun r9 _ hr9 => ?_)
      obtain ⟨rfl, -⟩ := hr9
      rw [eσ6]
      obtain ⟨x7, ex7, h⟩ := zb h
      rw [ex7]
      refine z_istore (lo' := [(9, .int (x7)), (8, .int (x4)), (7, .int (x3)), (6, .int (o2)), (5, .int (x1)), (0, .ref ob), (1, .int (a1)), (2, .int (a2)), (3, .int (a3)), (4, .ref (ar 2))]) X dL_wallets_101 (by rw [hml]; decide) rfl rfl ?_
      refine z_iload X dL_wallets_103 rfl ?_
      refine z_iload X dL_wallets_105 rfl ?_
      refine z_iload X dL_wallets_107 rfl ?_
      refine z_icmp_ne (tgt := 117) X dL_wallets_109 (by decide) (fun q => ?_) (fun q => ?_)
      · have h := zp q h
        refine z_bipush (v := (-109)) X dL_wallets_112 (by decide) ?_
        refine z_goto (tgt := 134) X dL_wallets_114 (by decide) ?_
        refine z_icmp_ne (tgt := 141) X dL_wallets_134 (by decide) (fun q => ?_) (fun q => ?_)
        · have h := zp q h
          refine z_iconst (v := 1) X dL_wallets_137 (by decide) ?_
          refine z_goto (tgt := 142) X dL_wallets_138 (by decide) ?_
          obtain rfl := Option.some.inj h
          refine zz.widen (k := 4) (n := 3030) (by omega) (by omega) ?_
          exact z_iret X hr rfl (fun t hG hF _ => ⟨⟨_, (), rfl, ⟨rfl, trivial⟩, hG⟩, hF⟩) dL_wallets_142
        · have h := zn q h
          refine z_iconst (v := 0) X dL_wallets_141 (by decide) ?_
          obtain rfl := Option.some.inj h
          refine zz.widen (k := 4) (n := 3030) (by omega) (by omega) ?_
          exact z_iret X hr rfl (fun t hG hF _ => ⟨⟨_, (), rfl, ⟨rfl, trivial⟩, hG⟩, hF⟩) dL_wallets_142
      · have h := zn q h
        refine z_iload X dL_wallets_117 rfl ?_
        refine z_iload X dL_wallets_119 rfl ?_
        refine z_icmp_ge (tgt := 129) X dL_wallets_121 (by decide) (fun q => ?_) (fun q => ?_)
        · have h := zp q h
          refine z_iload X dL_wallets_129 rfl ?_
          refine z_iload X dL_wallets_131 rfl ?_
          refine z_isub X dL_wallets_133 ?_
          refine z_icmp_ne (tgt := 141) X dL_wallets_134 (by decide) (fun q => ?_) (fun q => ?_)
          · have h := zp q h
            refine z_iconst (v := 1) X dL_wallets_137 (by decide) ?_
            refine z_goto (tgt := 142) X dL_wallets_138 (by decide) ?_
            obtain rfl := Option.some.inj h
            refine zz.widen (k := 4) (n := 3030) (by omega) (by omega) ?_
            exact z_iret X hr rfl (fun t hG hF _ => ⟨⟨_, (), rfl, ⟨rfl, trivial⟩, hG⟩, hF⟩) dL_wallets_142
          · have h := zn q h
            refine z_iconst (v := 0) X dL_wallets_141 (by decide) ?_
            obtain rfl := Option.some.inj h
            refine zz.widen (k := 4) (n := 3030) (by omega) (by omega) ?_
            exact z_iret X hr rfl (fun t hG hF _ => ⟨⟨_, (), rfl, ⟨rfl, trivial⟩, hG⟩, hF⟩) dL_wallets_142
        · have h := zn q h
          refine z_bipush (v := (-108)) X dL_wallets_124 (by decide) ?_
          refine z_goto (tgt := 134) X dL_wallets_126 (by decide) ?_
          refine z_icmp_ne (tgt := 141) X dL_wallets_134 (by decide) (fun q => ?_) (fun q => ?_)
          · have h := zp q h
            refine z_iconst (v := 1) X dL_wallets_137 (by decide) ?_
            refine z_goto (tgt := 142) X dL_wallets_138 (by decide) ?_
            obtain rfl := Option.some.inj h
            refine zz.widen (k := 4) (n := 3030) (by omega) (by omega) ?_
            exact z_iret X hr rfl (fun t hG hF _ => ⟨⟨_, (), rfl, ⟨rfl, trivial⟩, hG⟩, hF⟩) dL_wallets_142
          · have h := zn q h
            refine z_iconst (v := 0) X dL_wallets_141 (by decide) ?_
            obtain rfl := Option.some.inj h
            refine zz.widen (k := 4) (n := 3030) (by omega) (by omega) ?_
            exact z_iret X hr rfl (fun t hG hF _ => ⟨⟨_, (), rfl, ⟨rfl, trivial⟩, hG⟩, hF⟩) dL_wallets_142
    · have h := zn q h
      refine z_iload_n X dL_wallets_143 rfl rfl ?_
      refine z_iconst (v := 3) X dL_wallets_144 (by decide) ?_
      refine z_irem X dL_wallets_145 (by decide) ?_
      refine z_if_ne (tgt := 159) X dL_wallets_146 (by decide) (fun q => ?_) (fun q => ?_)
      · have h := zp q h
        refine z_iload_n X dL_wallets_149 rfl rfl ?_
        refine z_iconst (v := 3) X dL_wallets_150 (by decide) ?_
        refine z_idiv X dL_wallets_151 (by decide) ?_
        refine z_sipush (v := 300) X dL_wallets_152 (by decide) ?_
        refine z_irem X dL_wallets_155 (by decide) ?_
        refine z_goto (tgt := 165) X dL_wallets_156 (by decide) ?_
        refine zz.pick (lo' := [(0, .ref ob), (2, .int (a2)), (3, .int (a3)), (4, .ref (ar 2)), (5, .int (x1)), (6, .int (o2))]) [0, 2, 3, 4, 5, 6] rfl ?_
        exact bl_wallets_165 X Y hml hr ⟨by omega, by omega⟩ h
      · have h := zn q h
        refine z_iload_n X dL_wallets_159 rfl rfl ?_
        refine z_iconst (v := 3) X dL_wallets_160 (by decide) ?_
        refine z_idiv X dL_wallets_161 (by decide) ?_
        refine z_bipush (v := 20) X dL_wallets_162 (by decide) ?_
        refine z_irem X dL_wallets_164 (by decide) ?_
        refine zz.pick (lo' := [(0, .ref ob), (2, .int (a2)), (3, .int (a3)), (4, .ref (ar 2)), (5, .int (x1)), (6, .int (o2))]) [0, 2, 3, 4, 5, 6] rfl ?_
        exact bl_wallets_165 X Y hml hr ⟨by omega, by omega⟩ h
theorem ll_wallets (l : Launch) {D : va_G} {dA : Nat → ClassId} {A : Nat → Prop} {n : Nat} {ar : Nat → Nat} {ob b Ls : Nat} {sc : Nat → Int32} (hst : l.stackTraces = false) (hA : ∀ q, n ≤ q → A q) (hbA : ¬ A b) {σ : GS} {a1 : Int32} {a2 : Int32} {a3 : Int32} {o : GS × Int32} (h : fl_wallets σ a1 a2 a3 = some o) : Met l yL_wallets (.code yL_wallets cL_wallets 10 (some .boolean) :: gT) ({ frames := 16, cells := 4, slots := 3030, locals := 672 } : Room) (va_Pc [.ref ob, .int (a1), .int (a2), .int (a3), .ref (ar 2)] (zBL D dA A n b Ls sc (gw D dA A σ ob ar))) (va_Qi (fun r (_ : Unit) => r = o.2 ∧ True) (fun _ t => gw D dA A o.1 ob ar t.heap) A) (4) (3030) A :=
  z_metL (by decide) hA hbA hst (Nat.le_of_ble_eq_true rfl) rfl rfl (fun p e s m below meth c X Y hml hr => bl_wallets X Y hml hr ⟨by omega, by omega⟩ h)
