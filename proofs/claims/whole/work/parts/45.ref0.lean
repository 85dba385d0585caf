/-! CONSTRUCTORS: MeshBillerModel() -/
theorem g_1305 : Cond.methodLink RX12 1 Lib.objectInit ∈ gT := gT_t 1305 (by decide +kernel) rfl
theorem hd_yX12_init : yX12_init.name = "<init>" ∧ yX12_init.cls ≠ "java/lang/invoke/MethodHandle" ∧ yX12_init.cls ≠ "java/lang/invoke/VarHandle" ∧ (parseMethodDescriptor yX12_init.desc).map (fun d => d.parameters.length) = some 0 := by decide +kernel
def stg (F : Nat → Int32) (a : Nat) : Nat → Int32 := fun j => if j < a then F j else 0
theorem stg_up {F : Nat → Int32} {a : Nat} : upd (stg F a) a (F a) = stg F (a + 1) := by
  funext j
  unfold upd stg
  by_cases q : j = a
  · rw [if_pos q, if_pos (by omega), q]
  · rw [if_neg q]
    by_cases q2 : j < a
    · rw [if_pos q2, if_pos (by omega)]
    · rw [if_neg q2, if_neg (by omega)]
def c5 (b : Nat) : Nat → Int32 := fun j => if j < b then 10 * (nI j + 1) else if 3 ≤ j ∧ j < 3 + b then 20 * (nI (j - 3) + 1) else 0
theorem c5_up {b : Nat} (hb : b < 3) : upd (upd (c5 b) b (10 * (nI b + 1))) (3 + b) (20 * (nI b + 1)) = c5 (b + 1) := by
  have key : ∀ b, b < 3 → ∀ j, j < 6 → upd (upd (c5 b) b (10 * (nI b + 1))) (3 + b) (20 * (nI b + 1)) j = c5 (b + 1) j := by decide
  funext j
  by_cases q : j < 6
  · exact key b hb j q
  · unfold upd c5
    rw [if_neg (by omega), if_neg (by omega), if_neg (by omega), if_neg (by omega), if_neg (by omega), if_neg (by omega)]
/-- the reference as it is made: a cells, b zones' rates, p phones -/
def ρS (a b p : Nat) : Rho := fun f => if f = 1 then (fun j => if j = 0 then 20 else 0) else if f = 2 then stg (fun j => nI (j % 3)) a else if f = 3 then stg (fun _ => 3) a else if f = 5 then c5 b else if f = 6 then stg (fun j => nI (j % 8)) p else if f = 7 then stg (fun j => nI (j % 4)) p else if f = 8 then stg (fun _ => -1) p else if f = 9 then stg (fun _ => -1) p else fun _ => 0
theorem stg_0 {F : Nat → Int32} : stg F 0 = fun _ => 0 := rfl
theorem ρS_0 : ρz = ρS 0 0 0 := by
  funext f
  by_cases h1 : f = 1
  · subst h1
    funext j
    simp [ρz, ρS]
  · have e5 : c5 0 = fun _ => 0 := by
      funext j
      unfold c5
      rw [if_neg (by omega), if_neg (by omega)]
    unfold ρS
    rw [if_neg h1, e5]
    simp only [stg_0]
    have : ρz f = fun _ => 0 := by
      funext j
      simp [ρz, h1]
    rw [this]
    simp
theorem ρS_1 {a : Nat} : cs (cs (ρS a 0 0) 2 a (nI (a % 3))) 3 a 3 = ρS (a + 1) 0 0 := by
  funext f
  by_cases h3 : f = 3
  · subst h3
    rw [rcs_upd, rcs_col (by decide)]
    exact stg_up (F := fun _ => 3)
  · rw [rcs_col h3]
    by_cases h2 : f = 2
    · subst h2
      rw [rcs_upd]
      exact stg_up (F := fun j => nI (j % 3))
    · rw [rcs_col h2]
      simp [ρS, h2, h3]
theorem ρS_2 {b : Nat} (hb : b < 3) : cs (cs (ρS 8 b 0) 5 b (10 * (nI b + 1))) 5 (3 + b) (20 * (nI b + 1)) = ρS 8 (b + 1) 0 := by
  funext f
  by_cases h5 : f = 5
  · subst h5
    rw [rcs_upd, rcs_upd]
    exact c5_up hb
  · rw [rcs_col h5, rcs_col h5]
    simp [ρS, h5]
theorem ρS_3 {p : Nat} : cs (cs (cs (cs (ρS 8 3 p) 6 p (nI (p % 8))) 7 p (nI (p % 4))) 8 p (-1)) 9 p (-1) = ρS 8 3 (p + 1) := by
  funext f
  by_cases h9 : f = 9
  · subst h9
    rw [rcs_upd, rcs_col (by decide), rcs_col (by decide), rcs_col (by decide)]
    exact stg_up (F := fun _ => -1)
  · rw [rcs_col h9]
    by_cases h8 : f = 8
    · subst h8
      rw [rcs_upd, rcs_col (by decide), rcs_col (by decide)]
      exact stg_up (F := fun _ => -1)
    · rw [rcs_col h8]
      by_cases h7 : f = 7
      · subst h7
        rw [rcs_upd, rcs_col (by decide)]
        exact stg_up (F := fun j => nI (j % 4))
      · rw [rcs_col h7]
        by_cases h6 : f = 6
        · subst h6
          rw [rcs_upd]
          exact stg_up (F := fun j => nI (j % 8))
        · rw [rcs_col h6]
          simp [ρS, h6, h7, h8, h9]
section MR
variable {p : Program} {l : Launch} {e : Env} {s : State} {m : MethodId} {args : Array Value} {below : List Frame} {meth : Method} {c : Code} {A : Nat → Prop} {Q : State → Prop} {D : va_G} {dA : Nat → ClassId} {V : Rho} {L : Lst} {N : Cnt} {ad : Adr} {xs : va_W} {ar : Nat → Nat}

set_option maxRecDepth 100000 in
set_option maxHeartbeats 4000000 in
theorem lr_cell (X : zc p l s m args meth c cX12_init yX12_init.cls D dA A) (hml : c.maxLocals = 2) (k : zz p l e ({ frames := 40, cells := 31, slots := 1378, locals := 400 } : Room) s m args below meth c A (cx D dA A V L N ad (xs ++ xR dA (ρS 8 0 0) ar)) 31 1378 Q 286 [(1, .int (nI 8)), (0, .ref (ar 40))] [] []) : ∀ mm z, z + mm = 8 → zz p l e ({ frames := 40, cells := 31, slots := 1378, locals := 400 } : Room) s m args below meth c A (cx D dA A V L N ad (xs ++ xR dA (ρS z 0 0) ar)) 31 1378 Q 258 [(1, .int (nI z)), (0, .ref (ar 40))] [] [] := by
  intro mm
  induction mm with
  | zero =>
    intro z hz
    have hz : z = 8 := by omega
    subst hz
    refine z_iload_n X dX12_init_258 rfl rfl ?_
    refine z_bipush (v := nI 8) X dX12_init_259 (by decide) ?_
    exact z_icmp_ge (tgt := 286) X dX12_init_261 (by decide) (fun _ => k) (fun q => absurd (Int32.le_refl _) q)
  | succ mm ih =>
    intro z hz
    have hz : z < 8 := by omega
    refine z_iload_n X dX12_init_258 rfl rfl ?_
    refine z_bipush (v := nI 8) X dX12_init_259 (by decide) ?_
    refine z_icmp_ge (tgt := 286) X dX12_init_261 (by decide) (fun q => absurd q (cge hz (by decide))) (fun _ => ?_)
    have vz : vp_in (nI z) 8 := vp_in_nI hz (by omega)
    refine z_aload_n X dX12_init_264 rfl rfl ?_
    refine cr_get X 2 rfl rfl g_1308 dX12_init_265 ?_
    refine z_iload_n X dX12_init_268 rfl rfl ?_
    refine z_iload_n X dX12_init_269 rfl rfl ?_
    refine z_iconst (v := 3) X dX12_init_270 (by decide) ?_
    refine z_irem X dX12_init_271 (by decide) ?_
    rw [(c10 (z := z) (by omega)).2.1]
    refine cr_ast X 2 0 (i := nI z) (x := nI (z % 3)) (ρ' := cs (ρS z 0 0) 2 z (nI (z % 3))) rfl rfl vz (by rw [nI_clamp (by omega)]) dX12_init_272 ?_
    refine z_aload_n X dX12_init_273 rfl rfl ?_
    refine cr_get X 3 rfl rfl g_1309 dX12_init_274 ?_
    refine z_iload_n X dX12_init_277 rfl rfl ?_
    refine z_iconst (v := 3) X dX12_init_278 (by decide) ?_
    refine cr_ast X 3 1 (i := nI z) (x := 3) (ρ' := ρS (z + 1) 0 0) rfl rfl vz (by rw [nI_clamp (by omega)]; exact ρS_1) dX12_init_279 ?_
    refine z_iinc (v := nI (z + 1)) X dX12_init_280 rfl (c10 (by omega)).1 (by rw [hml]; decide) rfl rfl ?_
    refine z_goto (tgt := 258) X dX12_init_283 (by decide) ?_
    exact ih (z + 1) (by omega)
set_option maxRecDepth 100000 in
set_option maxHeartbeats 4000000 in
theorem lr_rate (X : zc p l s m args meth c cX12_init yX12_init.cls D dA A) (hml : c.maxLocals = 2) (k : zz p l e ({ frames := 40, cells := 31, slots := 1378, locals := 400 } : Room) s m args below meth c A (cx D dA A V L N ad (xs ++ xR dA (ρS 8 3 0) ar)) 31 1378 Q 325 [(1, .int (nI 3)), (0, .ref (ar 40))] [] []) : ∀ mm z, z + mm = 3 → zz p l e ({ frames := 40, cells := 31, slots := 1378, locals := 400 } : Room) s m args below meth c A (cx D dA A V L N ad (xs ++ xR dA (ρS 8 z 0) ar)) 31 1378 Q 288 [(1, .int (nI z)), (0, .ref (ar 40))] [] [] := by
  intro mm
  induction mm with
  | zero =>
    intro z hz
    have hz : z = 3 := by omega
    subst hz
    refine z_iload_n X dX12_init_288 rfl rfl ?_
    refine z_iconst (v := nI 3) X dX12_init_289 (by decide) ?_
    exact z_icmp_ge (tgt := 325) X dX12_init_290 (by decide) (fun _ => k) (fun q => absurd (Int32.le_refl _) q)
  | succ mm ih =>
    intro z hz
    have hz : z < 3 := by omega
    refine z_iload_n X dX12_init_288 rfl rfl ?_
    refine z_iconst (v := nI 3) X dX12_init_289 (by decide) ?_
    refine z_icmp_ge (tgt := 325) X dX12_init_290 (by decide) (fun q => absurd q (cge hz (by decide))) (fun _ => ?_)
    have vz : vp_in (nI z) 3 := vp_in_nI hz (by omega)
    have v6 : vp_in (nI z) 6 := vp_in_nI (by omega) (by omega)
    have v63 : vp_in (nI (3 + z)) 6 := vp_in_nI (by omega) (by omega)
    refine z_aload_n X dX12_init_293 rfl rfl ?_
    refine cr_get X 5 rfl rfl g_1311 dX12_init_294 ?_
    refine z_iload_n X dX12_init_297 rfl rfl ?_
    refine z_bipush (v := 10) X dX12_init_298 (by decide) ?_
    refine z_iload_n X dX12_init_300 rfl rfl ?_
    refine z_iconst (v := 1) X dX12_init_301 (by decide) ?_
    refine z_iadd X dX12_init_302 ?_
    refine z_imul X dX12_init_303 ?_
    refine cr_ast X 5 3 (i := nI z) (x := 10 * (nI z + 1)) (ρ' := cs (ρS 8 z 0) 5 z (10 * (nI z + 1))) rfl rfl v6 (by rw [nI_clamp (by omega)]) dX12_init_304 ?_
    refine z_aload_n X dX12_init_305 rfl rfl ?_
    refine cr_get X 5 rfl rfl g_1311 dX12_init_306 ?_
    refine z_iconst (v := 3) X dX12_init_309 (by decide) ?_
    refine z_iload_n X dX12_init_310 rfl rfl ?_
    refine z_iadd X dX12_init_311 ?_
    rw [show (3 : Int32) + nI z = nI (3 + z) by rcases (show z = 0 ∨ z = 1 ∨ z = 2 by omega) with rfl | rfl | rfl <;> decide]
    refine z_bipush (v := 20) X dX12_init_312 (by decide) ?_
    refine z_iload_n X dX12_init_314 rfl rfl ?_
    refine z_iconst (v := 1) X dX12_init_315 (by decide) ?_
    refine z_iadd X dX12_init_316 ?_
    refine z_imul X dX12_init_317 ?_
    refine cr_ast X 5 3 (i := nI (3 + z)) (x := 20 * (nI z + 1)) (ρ' := ρS 8 (z + 1) 0) rfl rfl v63 (by rw [nI_clamp (by omega)]; exact ρS_2 hz) dX12_init_318 ?_
    refine z_iinc (v := nI (z + 1)) X dX12_init_319 rfl (c10 (by omega)).1 (by rw [hml]; decide) rfl rfl ?_
    refine z_goto (tgt := 288) X dX12_init_322 (by decide) ?_
    exact ih (z + 1) (by omega)
set_option maxRecDepth 100000 in
set_option maxHeartbeats 4000000 in
theorem lr_phone (X : zc p l s m args meth c cX12_init yX12_init.cls D dA A) (hml : c.maxLocals = 2) (k : zz p l e ({ frames := 40, cells := 31, slots := 1378, locals := 400 } : Room) s m args below meth c A (cx D dA A V L N ad (xs ++ xR dA (ρS 8 3 10) ar)) 31 1378 Q 372 [(1, .int (nI 10)), (0, .ref (ar 40))] [] []) : ∀ mm z, z + mm = 10 → zz p l e ({ frames := 40, cells := 31, slots := 1378, locals := 400 } : Room) s m args below meth c A (cx D dA A V L N ad (xs ++ xR dA (ρS 8 3 z) ar)) 31 1378 Q 327 [(1, .int (nI z)), (0, .ref (ar 40))] [] [] := by
  intro mm
  induction mm with
  | zero =>
    intro z hz
    have hz : z = 10 := by omega
    subst hz
    refine z_iload_n X dX12_init_327 rfl rfl ?_
    refine z_bipush (v := nI 10) X dX12_init_328 (by decide) ?_
    exact z_icmp_ge (tgt := 372) X dX12_init_330 (by decide) (fun _ => k) (fun q => absurd (Int32.le_refl _) q)
  | succ mm ih =>
    intro z hz
    have hz : z < 10 := by omega
    refine z_iload_n X dX12_init_327 rfl rfl ?_
    refine z_bipush (v := nI 10) X dX12_init_328 (by decide) ?_
    refine z_icmp_ge (tgt := 372) X dX12_init_330 (by decide) (fun q => absurd q (cge hz (by decide))) (fun _ => ?_)
    have vz : vp_in (nI z) 10 := vp_in_nI hz (by omega)
    refine z_aload_n X dX12_init_333 rfl rfl ?_
    refine cr_get X 6 rfl rfl g_1312 dX12_init_334 ?_
    refine z_iload_n X dX12_init_337 rfl rfl ?_
    refine z_iload_n X dX12_init_338 rfl rfl ?_
    refine z_bipush (v := 8) X dX12_init_339 (by decide) ?_
    refine z_irem X dX12_init_341 (by decide) ?_
    rw [(c10 (z := z) (by omega)).2.2.1]
    refine cr_ast X 6 4 (i := nI z) (x := nI (z % 8)) (ρ' := cs (ρS 8 3 z) 6 z (nI (z % 8))) rfl rfl vz (by rw [nI_clamp (by omega)]) dX12_init_342 ?_
    refine z_aload_n X dX12_init_343 rfl rfl ?_
    refine cr_get X 7 rfl rfl g_1313 dX12_init_344 ?_
    refine z_iload_n X dX12_init_347 rfl rfl ?_
    refine z_iload_n X dX12_init_348 rfl rfl ?_
    refine z_iconst (v := 4) X dX12_init_349 (by decide) ?_
    refine z_irem X dX12_init_350 (by decide) ?_
    rw [(c10 (z := z) (by omega)).2.2.2]
    refine cr_ast X 7 5 (i := nI z) (x := nI (z % 4)) (ρ' := cs (cs (ρS 8 3 z) 6 z (nI (z % 8))) 7 z (nI (z % 4))) rfl rfl vz (by rw [nI_clamp (by omega)]) dX12_init_351 ?_
    refine z_aload_n X dX12_init_352 rfl rfl ?_
    refine cr_get X 8 rfl rfl g_1314 dX12_init_353 ?_
    refine z_iload_n X dX12_init_356 rfl rfl ?_
    refine z_iconst (v := -1) X dX12_init_357 (by decide) ?_
    refine cr_ast X 8 6 (i := nI z) (x := -1) (ρ' := cs (cs (cs (ρS 8 3 z) 6 z (nI (z % 8))) 7 z (nI (z % 4))) 8 z (-1)) rfl rfl vz (by rw [nI_clamp (by omega)]) dX12_init_358 ?_
    refine z_aload_n X dX12_init_359 rfl rfl ?_
    refine cr_get X 9 rfl rfl g_1315 dX12_init_360 ?_
    refine z_iload_n X dX12_init_363 rfl rfl ?_
    refine z_iconst (v := -1) X dX12_init_364 (by decide) ?_
    refine cr_ast X 9 7 (i := nI z) (x := -1) (ρ' := ρS 8 3 (z + 1)) rfl rfl vz (by rw [nI_clamp (by omega)]; exact ρS_3) dX12_init_365 ?_
    refine z_iinc (v := nI (z + 1)) X dX12_init_366 rfl (c10 (by omega)).1 (by rw [hml]; decide) rfl rfl ?_
    refine z_goto (tgt := 327) X dX12_init_369 (by decide) ?_
    exact ih (z + 1) (by omega)
end MR
set_option maxRecDepth 100000 in
set_option maxHeartbeats 8000000 in
theorem ck_Ref (l : Launch) {D : va_G} {dA : Nat → ClassId} {A : Nat → Prop} {n : Nat} (hst : l.stackTraces = false) (hA : ∀ q, n ≤ q → A q) {V : Rho} {L : Lst} {N : Cnt} {ad : Adr} {xs : va_W} {q : Nat} : Met l yX12_init (.code yX12_init cX12_init 2 none :: gT) ({ frames := 40, cells := 31, slots := 1378, locals := 400 } : Room) (va_Pc [.ref q] (zB D dA A n (cx D dA A V L N ad (xs ++ [(q, .inr (15, [.int 0, .int 0, .null, .null, .null, .null, .null, .null, .null, .null, .null, .null, .null, .null, .int 0, .null, .null, .null, .null, .null, .int 0, .null, .int 0, .null, .null, .null, .null, .null, .null, .null, .null, .null, .null, .null, .null, .null, .int 0, .int 0, .int 0, .int 0]))])))) (va_Qv (fun (u : Nat → Nat) => u 40 = q) (fun u t => cx D dA A V L N ad (xs ++ xR dA (ρS 8 3 10) u) t.heap) A) 31 1378 A := by
  refine z_met (by decide) hA hst (Nat.le_of_ble_eq_true rfl) rfl rfl (fun p e s m below meth c X hml hr hnm => ?_)
  refine z_aload_n X dX12_init_0 rfl rfl ?_
  refine z_objInit X g_1305 g_42 g_43 ⟨Nat.le_of_ble_eq_true rfl, Nat.le_of_ble_eq_true rfl⟩ dX12_init_1 ?_
  refine z_aload_n X dX12_init_4 rfl rfl ?_
  refine z_bipush (v := 20) X dX12_init_5 (by decide) ?_
  refine c_putX X xs.length 15 1 (a := q) (fs := [.int 0, .int 0, .null, .null, .null, .null, .null, .null, .null, .null, .null, .null, .null, .null, .int 0, .null, .null, .null, .null, .null, .int 0, .null, .int 0, .null, .null, .null, .null, .null, .null, .null, .null, .null, .null, .null, .null, .null, .int 0, .int 0, .int 0, .int 0]) (v := .int 20) (xs' := xs ++ xP dA 0 (fun _ => q)) (ty := .int) rx12_ws rfl tyX12_ok nmX12 rfl xa1 rfl (Or.inl rfl) g_1307 rfl rfl rfl (xe1.trans rfl) dX12_init_7 ?_
  have hq0 : (fun _ => q : Nat → Nat) 40 = q := rfl
  refine z_aload_n X dX12_init_10 rfl rfl ?_
  refine z_bipush (v := 8) X dX12_init_11 (by decide) ?_
  refine mstep X rfl hnm 0 (n := 8) (N' := 8) rfl (by decide) (by decide) rfl (by decide) g_1308 (by decide) rfl hq0 ⟨by show _ ≤ 31; omega, by show _ ≤ 1378; omega⟩ dX12_init_13 dX12_init_15 (fun ar1 hq1 => ?_)
  refine z_aload_n X dX12_init_18 rfl rfl ?_
  refine z_bipush (v := 8) X dX12_init_19 (by decide) ?_
  refine mstep X rfl hnm 1 (n := 8) (N' := 8) rfl (by decide) (by decide) rfl (by decide) g_1309 (by decide) rfl hq1 ⟨by show _ ≤ 31; omega, by show _ ≤ 1378; omega⟩ dX12_init_21 dX12_init_23 (fun ar2 hq2 => ?_)
  refine z_aload_n X dX12_init_26 rfl rfl ?_
  refine z_bipush (v := 8) X dX12_init_27 (by decide) ?_
  refine mstep X rfl hnm 2 (n := 8) (N' := 8) rfl (by decide) (by decide) rfl (by decide) g_1310 (by decide) rfl hq2 ⟨by show _ ≤ 31; omega, by show _ ≤ 1378; omega⟩ dX12_init_29 dX12_init_31 (fun ar3 hq3 => ?_)
  refine z_aload_n X dX12_init_34 rfl rfl ?_
  refine z_bipush (v := 6) X dX12_init_35 (by decide) ?_
  refine mstep X rfl hnm 3 (n := 6) (N' := 6) rfl (by decide) (by decide) rfl (by decide) g_1311 (by decide) rfl hq3 ⟨by show _ ≤ 31; omega, by show _ ≤ 1378; omega⟩ dX12_init_37 dX12_init_39 (fun ar4 hq4 => ?_)
  refine z_aload_n X dX12_init_42 rfl rfl ?_
  refine z_bipush (v := 10) X dX12_init_43 (by decide) ?_
  refine mstep X rfl hnm 4 (n := 10) (N' := 10) rfl (by decide) (by decide) rfl (by decide) g_1312 (by decide) rfl hq4 ⟨by show _ ≤ 31; omega, by show _ ≤ 1378; omega⟩ dX12_init_45 dX12_init_47 (fun ar5 hq5 => ?_)
  refine z_aload_n X dX12_init_50 rfl rfl ?_
  refine z_bipush (v := 10) X dX12_init_51 (by decide) ?_
  refine mstep X rfl hnm 5 (n := 10) (N' := 10) rfl (by decide) (by decide) rfl (by decide) g_1313 (by decide) rfl hq5 ⟨by show _ ≤ 31; omega, by show _ ≤ 1378; omega⟩ dX12_init_53 dX12_init_55 (fun ar6 hq6 => ?_)
  refine z_aload_n X dX12_init_58 rfl rfl ?_
  refine z_bipush (v := 10) X dX12_init_59 (by decide) ?_
  refine mstep X rfl hnm 6 (n := 10) (N' := 10) rfl (by decide) (by decide) rfl (by decide) g_1314 (by decide) rfl hq6 ⟨by show _ ≤ 31; omega, by show _ ≤ 1378; omega⟩ dX12_init_61 dX12_init_63 (fun ar7 hq7 => ?_)
  refine z_aload_n X dX12_init_66 rfl rfl ?_
  refine z_bipush (v := 10) X dX12_init_67 (by decide) ?_
  refine mstep X rfl hnm 7 (n := 10) (N' := 10) rfl (by decide) (by decide) rfl (by decide) g_1315 (by decide) rfl hq7 ⟨by show _ ≤ 31; omega, by show _ ≤ 1378; omega⟩ dX12_init_69 dX12_init_71 (fun ar8 hq8 => ?_)
  refine z_aload_n X dX12_init_74 rfl rfl ?_
  refine z_bipush (v := 10) X dX12_init_75 (by decide) ?_
  refine mstep X rfl hnm 8 (n := 10) (N' := 10) rfl (by decide) (by decide) rfl (by decide) g_1316 (by decide) rfl hq8 ⟨by show _ ≤ 31; omega, by show _ ≤ 1378; omega⟩ dX12_init_77 dX12_init_79 (fun ar9 hq9 => ?_)
  refine z_aload_n X dX12_init_82 rfl rfl ?_
  refine z_bipush (v := 10) X dX12_init_83 (by decide) ?_
  refine mstep X rfl hnm 9 (n := 10) (N' := 10) rfl (by decide) (by decide) rfl (by decide) g_1317 (by decide) rfl hq9 ⟨by show _ ≤ 31; omega, by show _ ≤ 1378; omega⟩ dX12_init_85 dX12_init_87 (fun ar10 hq10 => ?_)
  refine z_aload_n X dX12_init_90 rfl rfl ?_
  refine z_iconst (v := 4) X dX12_init_91 (by decide) ?_
  refine mstep X rfl hnm 10 (n := 4) (N' := 4) rfl (by decide) (by decide) rfl (by decide) g_1318 (by decide) rfl hq10 ⟨by show _ ≤ 31; omega, by show _ ≤ 1378; omega⟩ dX12_init_92 dX12_init_94 (fun ar11 hq11 => ?_)
  refine z_aload_n X dX12_init_97 rfl rfl ?_
  refine z_iconst (v := 4) X dX12_init_98 (by decide) ?_
  refine mstep X rfl hnm 11 (n := 4) (N' := 4) rfl (by decide) (by decide) rfl (by decide) g_1319 (by decide) rfl hq11 ⟨by show _ ≤ 31; omega, by show _ ≤ 1378; omega⟩ dX12_init_99 dX12_init_101 (fun ar12 hq12 => ?_)
  refine z_aload_n X dX12_init_104 rfl rfl ?_
  refine z_bipush (v := 40) X dX12_init_105 (by decide) ?_
  refine mstep X rfl hnm 12 (n := 40) (N' := 40) rfl (by decide) (by decide) rfl (by decide) g_1321 (by decide) rfl hq12 ⟨by show _ ≤ 31; omega, by show _ ≤ 1378; omega⟩ dX12_init_107 dX12_init_109 (fun ar13 hq13 => ?_)
  refine z_aload_n X dX12_init_112 rfl rfl ?_
  refine z_bipush (v := 40) X dX12_init_113 (by decide) ?_
  refine mstep X rfl hnm 13 (n := 40) (N' := 40) rfl (by decide) (by decide) rfl (by decide) g_1322 (by decide) rfl hq13 ⟨by show _ ≤ 31; omega, by show _ ≤ 1378; omega⟩ dX12_init_115 dX12_init_117 (fun ar14 hq14 => ?_)
  refine z_aload_n X dX12_init_120 rfl rfl ?_
  refine z_bipush (v := 40) X dX12_init_121 (by decide) ?_
  refine mstep X rfl hnm 14 (n := 40) (N' := 40) rfl (by decide) (by decide) rfl (by decide) g_1323 (by decide) rfl hq14 ⟨by show _ ≤ 31; omega, by show _ ≤ 1378; omega⟩ dX12_init_123 dX12_init_125 (fun ar15 hq15 => ?_)
  refine z_aload_n X dX12_init_128 rfl rfl ?_
  refine z_bipush (v := 40) X dX12_init_129 (by decide) ?_
  refine mstep X rfl hnm 15 (n := 40) (N' := 40) rfl (by decide) (by decide) rfl (by decide) g_1324 (by decide) rfl hq15 ⟨by show _ ≤ 31; omega, by show _ ≤ 1378; omega⟩ dX12_init_131 dX12_init_133 (fun ar16 hq16 => ?_)
  refine z_aload_n X dX12_init_136 rfl rfl ?_
  refine z_bipush (v := 40) X dX12_init_137 (by decide) ?_
  refine mstep X rfl hnm 16 (n := 40) (N' := 40) rfl (by decide) (by decide) rfl (by decide) g_1325 (by decide) rfl hq16 ⟨by show _ ≤ 31; omega, by show _ ≤ 1378; omega⟩ dX12_init_139 dX12_init_141 (fun ar17 hq17 => ?_)
  refine z_aload_n X dX12_init_144 rfl rfl ?_
  refine z_bipush (v := 40) X dX12_init_145 (by decide) ?_
  refine mstep X rfl hnm 17 (n := 40) (N' := 40) rfl (by decide) (by decide) rfl (by decide) g_1327 (by decide) rfl hq17 ⟨by show _ ≤ 31; omega, by show _ ≤ 1378; omega⟩ dX12_init_147 dX12_init_149 (fun ar18 hq18 => ?_)
  refine z_aload_n X dX12_init_152 rfl rfl ?_
  refine z_bipush (v := 80) X dX12_init_153 (by decide) ?_
  refine mstep X rfl hnm 18 (n := 80) (N' := 80) rfl (by decide) (by decide) rfl (by decide) g_1329 (by decide) rfl hq18 ⟨by show _ ≤ 31; omega, by show _ ≤ 1378; omega⟩ dX12_init_155 dX12_init_157 (fun ar19 hq19 => ?_)
  refine z_aload_n X dX12_init_160 rfl rfl ?_
  refine z_bipush (v := 80) X dX12_init_161 (by decide) ?_
  refine mstep X rfl hnm 19 (n := 80) (N' := 80) rfl (by decide) (by decide) rfl (by decide) g_1330 (by decide) rfl hq19 ⟨by show _ ≤ 31; omega, by show _ ≤ 1378; omega⟩ dX12_init_163 dX12_init_165 (fun ar20 hq20 => ?_)
  refine z_aload_n X dX12_init_168 rfl rfl ?_
  refine z_bipush (v := 80) X dX12_init_169 (by decide) ?_
  refine mstep X rfl hnm 20 (n := 80) (N' := 80) rfl (by decide) (by decide) rfl (by decide) g_1331 (by decide) rfl hq20 ⟨by show _ ≤ 31; omega, by show _ ≤ 1378; omega⟩ dX12_init_171 dX12_init_173 (fun ar21 hq21 => ?_)
  refine z_aload_n X dX12_init_176 rfl rfl ?_
  refine z_bipush (v := 80) X dX12_init_177 (by decide) ?_
  refine mstep X rfl hnm 21 (n := 80) (N' := 80) rfl (by decide) (by decide) rfl (by decide) g_1332 (by decide) rfl hq21 ⟨by show _ ≤ 31; omega, by show _ ≤ 1378; omega⟩ dX12_init_179 dX12_init_181 (fun ar22 hq22 => ?_)
  refine z_aload_n X dX12_init_184 rfl rfl ?_
  refine z_bipush (v := 80) X dX12_init_185 (by decide) ?_
  refine mstep X rfl hnm 22 (n := 80) (N' := 80) rfl (by decide) (by decide) rfl (by decide) g_1333 (by decide) rfl hq22 ⟨by show _ ≤ 31; omega, by show _ ≤ 1378; omega⟩ dX12_init_187 dX12_init_189 (fun ar23 hq23 => ?_)
  refine z_aload_n X dX12_init_192 rfl rfl ?_
  refine z_bipush (v := 80) X dX12_init_193 (by decide) ?_
  refine mstep X rfl hnm 23 (n := 80) (N' := 80) rfl (by decide) (by decide) rfl (by decide) g_1334 (by decide) rfl hq23 ⟨by show _ ≤ 31; omega, by show _ ≤ 1378; omega⟩ dX12_init_195 dX12_init_197 (fun ar24 hq24 => ?_)
  refine z_aload_n X dX12_init_200 rfl rfl ?_
  refine z_bipush (v := 80) X dX12_init_201 (by decide) ?_
  refine mstep X rfl hnm 24 (n := 80) (N' := 80) rfl (by decide) (by decide) rfl (by decide) g_1335 (by decide) rfl hq24 ⟨by show _ ≤ 31; omega, by show _ ≤ 1378; omega⟩ dX12_init_203 dX12_init_205 (fun ar25 hq25 => ?_)
  refine z_aload_n X dX12_init_208 rfl rfl ?_
  refine z_bipush (v := 80) X dX12_init_209 (by decide) ?_
  refine mstep X rfl hnm 25 (n := 80) (N' := 80) rfl (by decide) (by decide) rfl (by decide) g_1336 (by decide) rfl hq25 ⟨by show _ ≤ 31; omega, by show _ ≤ 1378; omega⟩ dX12_init_211 dX12_init_213 (fun ar26 hq26 => ?_)
  refine z_aload_n X dX12_init_216 rfl rfl ?_
  refine z_bipush (v := 80) X dX12_init_217 (by decide) ?_
  refine mstep X rfl hnm 26 (n := 80) (N' := 80) rfl (by decide) (by decide) rfl (by decide) g_1337 (by decide) rfl hq26 ⟨by show _ ≤ 31; omega, by show _ ≤ 1378; omega⟩ dX12_init_219 dX12_init_221 (fun ar27 hq27 => ?_)
  refine z_aload_n X dX12_init_224 rfl rfl ?_
  refine z_bipush (v := 80) X dX12_init_225 (by decide) ?_
  refine mstep X rfl hnm 27 (n := 80) (N' := 80) rfl (by decide) (by decide) rfl (by decide) g_1338 (by decide) rfl hq27 ⟨by show _ ≤ 31; omega, by show _ ≤ 1378; omega⟩ dX12_init_227 dX12_init_229 (fun ar28 hq28 => ?_)
  refine z_aload_n X dX12_init_232 rfl rfl ?_
  refine z_bipush (v := 80) X dX12_init_233 (by decide) ?_
  refine mstep X rfl hnm 28 (n := 80) (N' := 80) rfl (by decide) (by decide) rfl (by decide) g_1339 (by decide) rfl hq28 ⟨by show _ ≤ 31; omega, by show _ ≤ 1378; omega⟩ dX12_init_235 dX12_init_237 (fun ar29 hq29 => ?_)
  refine z_aload_n X dX12_init_240 rfl rfl ?_
  refine z_bipush (v := 80) X dX12_init_241 (by decide) ?_
  refine mstep X rfl hnm 29 (n := 80) (N' := 80) rfl (by decide) (by decide) rfl (by decide) g_1340 (by decide) rfl hq29 ⟨by show _ ≤ 31; omega, by show _ ≤ 1378; omega⟩ dX12_init_243 dX12_init_245 (fun ar30 hq30 => ?_)
  refine z_aload_n X dX12_init_248 rfl rfl ?_
  refine z_bipush (v := 80) X dX12_init_249 (by decide) ?_
  refine mstep X rfl hnm 30 (n := 80) (N' := 80) rfl (by decide) (by decide) rfl (by decide) g_1341 (by decide) rfl hq30 ⟨by show _ ≤ 31; omega, by show _ ≤ 1378; omega⟩ dX12_init_251 dX12_init_253 (fun ar31 hq31 => ?_)
  rw [xP_all, ρS_0, ← hq31]
  rw [← hq31] at X
  refine z_iconst (v := nI 0) X dX12_init_256 (by decide) ?_
  refine z_istore_n X dX12_init_257 rfl (by rw [hml]; decide) rfl rfl ?_
  refine zz.widen (k := 31) (n := 1378) (by omega) (by omega) ?_
  refine lr_cell X hml ?_ 8 0 rfl
  refine z_iconst (v := nI 0) X dX12_init_286 (by decide) ?_
  refine z_istore_n X dX12_init_287 rfl (by rw [hml]; decide) rfl rfl ?_
  refine lr_rate X hml ?_ 3 0 rfl
  refine z_iconst (v := nI 0) X dX12_init_325 (by decide) ?_
  refine z_istore_n X dX12_init_326 rfl (by rw [hml]; decide) rfl rfl ?_
  refine lr_phone X hml ?_ 10 0 rfl
  exact z_vret X hr (fun t hG hF _ => ⟨⟨ar31, rfl, rfl, hG⟩, hF⟩) dX12_init_372
