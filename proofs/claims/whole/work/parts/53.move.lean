/-! THE LAW: move, now, legs -/
theorem el_inl {T S : Type} {x : Option (T ⊕ Nat)} {F : T → Option (S ⊕ Nat)} {u : S} (h : (x.bind fun o => Sum.elim F (fun e9 => some (.inr e9)) o) = some (.inl u)) : ∃ v, F v = some (.inl u) := by
  cases x with
  | none => cases h
  | some o =>
    cases o with
    | inl v => exact ⟨v, h⟩
    | inr e => cases h
theorem bd_some {T S : Type} {x : Option T} {F : T → Option S} {u : S} (h : x.bind F = some u) : ∃ v, F v = some u := by
  cases x with
  | none => cases h
  | some o => exact ⟨o, h⟩
theorem fc_move_92_bool {V : Rho} {L : Lst} {N : Cnt} {x y : Int32} {u : CW × Int32} (h : fc_move_92 V L N x y = some (.inl u)) : u.2 = 0 ∨ u.2 = 1 := by
  unfold fc_move_92 at h
  obtain ⟨V1, h⟩ := bd_some h
  by_cases q : V1 104 x.toNatClampNeg = -1
  · rw [if_pos q] at h
    cases h
    exact Or.inl rfl
  · rw [if_neg q] at h
    cases h
    exact Or.inr rfl
theorem fc_move_85_bool {V : Rho} {L : Lst} {N : Cnt} {x y z : Int32} {u : CW × Int32} (h : fc_move_85 V L N x y z = some (.inl u)) : u.2 = 0 ∨ u.2 = 1 := by
  unfold fc_move_85 at h
  obtain ⟨v, h⟩ := bd_some h
  exact fc_move_92_bool h
theorem fc_move_bool {V : Rho} {L : Lst} {N : Cnt} {x y : Int32} {u : CW × Int32} (h : fc_move V L N x y = some (.inl u)) : u.2 = 0 ∨ u.2 = 1 := by
  unfold fc_move at h
  obtain ⟨u2, h⟩ := el_inl h
  obtain ⟨u5, h⟩ := el_inl h
  split at h
  · split at h
    · cases h; exact Or.inl rfl
    · cases h; exact Or.inr rfl
  · split at h
    · exact fc_move_92_bool h
    · obtain ⟨o11, h⟩ := bd_some h
      split at h
      · exact fc_move_85_bool h
      · obtain ⟨o12, h⟩ := bd_some h
        split at h
        · exact fc_move_85_bool h
        · obtain ⟨o13, h⟩ := bd_some h
          exact fc_move_92_bool h
section LB
variable {p : Program} {l : Launch} {e : Env} {R : Room} {s : State} {m : MethodId} {args : Array Value} {below : List Frame} {meth : Method} {c : Code} {A : Nat → Prop} {G : Heap → Prop} {cells slots : Nat} {Q : State → Prop}
variable {cc : ByteArray} {own : String} {D : va_G} {dA : Nat → ClassId} {pc : Nat} {lo : List (Nat × Value)} {ll : List (Nat × Int64)} {rest : List Value}
theorem z_booll (X : zc p l s m args meth c cc own D dA A) {x : Int32} {o1 o2 : Int} (d0 : decode cc pc = .ok (.ifCond .eq o1, 3)) (d3 : decode cc (pc + 3) = .ok (.lconst 1, 1)) (d4 : decode cc (pc + 4) = .ok (.goto o2, 3)) (d7 : decode cc (pc + 7) = .ok (.lconst 0, 1)) (h1 : (pc : Int) + o1 = ((pc + 7 : Nat) : Int)) (h2 : ((pc + 4 : Nat) : Int) + o2 = ((pc + 8 : Nat) : Int)) (hx : x = 0 ∨ x = 1) (k : zz p l e R s m args below meth c A G cells slots Q (pc + 8) lo ll (.long x.toInt64 :: rest)) : zz p l e R s m args below meth c A G cells slots Q pc lo ll (.int x :: rest) := by
  refine z_if_eq X d0 h1 (fun z => ?_) (fun z => ?_)
  · exact z_lconst (v := x.toInt64) X d7 (by rw [z]; decide) k
  · exact z_lconst (v := x.toInt64) X d3 (by rw [hx.resolve_left z]; decide) (z_goto X d4 h2 k)
end LB
theorem g_1098 : Cond.methodLink RL 182 yL_move ∈ gT := gT_t 1098 (by decide +kernel) rfl
theorem g_1099 : Cond.static yL_move ∈ gT := gT_t 1099 (by decide +kernel) rfl
theorem g_1100 : Cond.codeWith yL_move cL_move 5 (some .int) (hdT [(1, 20, 13, 17)]) ∈ gT := gT_t 1100 (by decide +kernel) rfl
theorem g_1603 : Cond.methodLink RL 184 yX12_move ∈ gT := gT_t 1603 (by decide +kernel) rfl
theorem g_1604 : Cond.instanceMethod yX12_move ∈ gT := gT_t 1604 (by decide +kernel) rfl
theorem g_1605 : Cond.selects RX12 yX12_move yX12_move ∈ gT := gT_t 1605 (by decide +kernel) rfl
theorem g_1606 : Cond.code yX12_move cX12_move 6 (some .boolean) ∈ gT := gT_t 1606 (by decide +kernel) rfl
theorem g_1623 : Cond.methodLink RL 191 yX12_now ∈ gT := gT_t 1623 (by decide +kernel) rfl
theorem g_1624 : Cond.instanceMethod yX12_now ∈ gT := gT_t 1624 (by decide +kernel) rfl
theorem g_1625 : Cond.selects RX12 yX12_now yX12_now ∈ gT := gT_t 1625 (by decide +kernel) rfl
theorem g_1626 : Cond.code yX12_now cX12_now 1 (some .int) ∈ gT := gT_t 1626 (by decide +kernel) rfl
theorem g_1651 : Cond.methodLink RL 210 yX12_legs ∈ gT := gT_t 1651 (by decide +kernel) rfl
theorem g_1652 : Cond.instanceMethod yX12_legs ∈ gT := gT_t 1652 (by decide +kernel) rfl
theorem g_1653 : Cond.selects RX12 yX12_legs yX12_legs ∈ gT := gT_t 1653 (by decide +kernel) rfl
theorem g_1654 : Cond.code yX12_legs cX12_legs 1 (some .int) ∈ gT := gT_t 1654 (by decide +kernel) rfl
theorem g_300 : Cond.methodLink RL 188 yX11_now ∈ gT := gT_t 300 (by decide +kernel) rfl
theorem g_301 : Cond.instanceMethod yX11_now ∈ gT := gT_t 301 (by decide +kernel) rfl
theorem g_302 : Cond.selects RX11 yX11_now yX11_now ∈ gT := gT_t 302 (by decide +kernel) rfl
theorem g_303 : Cond.code yX11_now cX11_now 1 (some .int) ∈ gT := gT_t 303 (by decide +kernel) rfl
theorem g_304 : Cond.methodLink RL 207 yX11_legs ∈ gT := gT_t 304 (by decide +kernel) rfl
theorem g_305 : Cond.instanceMethod yX11_legs ∈ gT := gT_t 305 (by decide +kernel) rfl
theorem g_306 : Cond.selects RX11 yX11_legs yX11_legs ∈ gT := gT_t 306 (by decide +kernel) rfl
theorem g_307 : Cond.code yX11_legs cX11_legs 1 (some .int) ∈ gT := gT_t 307 (by decide +kernel) rfl
theorem hd_yL_move : yL_move.cls = RL ∧ yL_move.cls ≠ "java/lang/invoke/MethodHandle" ∧ yL_move.cls ≠ "java/lang/invoke/VarHandle" ∧ (parseMethodDescriptor yL_move.desc).map (fun d => d.parameters.length) = some 4 := by decide +kernel
theorem hd_yX12_move : yX12_move.cls = RX12 ∧ yX12_move.cls ≠ "java/lang/invoke/MethodHandle" ∧ yX12_move.cls ≠ "java/lang/invoke/VarHandle" ∧ (parseMethodDescriptor yX12_move.desc).map (fun d => d.parameters.length) = some 2 := by decide +kernel
theorem hd_yX11_now : yX11_now.cls = RX11 ∧ yX11_now.cls ≠ "java/lang/invoke/MethodHandle" ∧ yX11_now.cls ≠ "java/lang/invoke/VarHandle" ∧ (parseMethodDescriptor yX11_now.desc).map (fun d => d.parameters.length) = some 0 := by decide +kernel
theorem hd_yX12_now : yX12_now.cls = RX12 ∧ yX12_now.cls ≠ "java/lang/invoke/MethodHandle" ∧ yX12_now.cls ≠ "java/lang/invoke/VarHandle" ∧ (parseMethodDescriptor yX12_now.desc).map (fun d => d.parameters.length) = some 0 := by decide +kernel
theorem hd_yX11_legs : yX11_legs.cls = RX11 ∧ yX11_legs.cls ≠ "java/lang/invoke/MethodHandle" ∧ yX11_legs.cls ≠ "java/lang/invoke/VarHandle" ∧ (parseMethodDescriptor yX11_legs.desc).map (fun d => d.parameters.length) = some 0 := by decide +kernel
theorem hd_yX12_legs : yX12_legs.cls = RX12 ∧ yX12_legs.cls ≠ "java/lang/invoke/MethodHandle" ∧ yX12_legs.cls ≠ "java/lang/invoke/VarHandle" ∧ (parseMethodDescriptor yX12_legs.desc).map (fun d => d.parameters.length) = some 0 := by decide +kernel
-- move
set_option maxRecDepth 100000 in
set_option maxHeartbeats 8000000 in
theorem lw_move {p : Program} {l : Launch} {e : Env} {s : State} {m : MethodId} {args : Array Value} {below : List Frame} {meth : Method} {c : Code} {A : Nat → Prop} {Q : State → Prop} {D : va_G} {dA : Nat → ClassId} (X : zc p l s m args meth c cL_law RL D dA A) (hNc : zNc s) (hml : c.maxLocals = 7) {b Ls : Nat} {sc : Nat → Int32} (hX : va_X b Ls sc s s.heap) (hbl : b < s.heap.size) (hbA : ¬ A b) {q : Nat} {W : CW} {ad : Adr} {f : Nat → Int64} {ρ : Rho} {ar : Nat → Nat} {t cells slots : Nat} (hR : RelX W ρ t) (hL : 7 * t + 7 ≤ Ls) (hL2 : Ls ≤ 3584) (hI : lwI t (E26 ρ) cells slots)
    (k : ∀ (W' : CW) (ad' : Adr) (f' : Nat → Int64) (ρ' : Rho) (c' s' : Nat), RelX W' ρ' (t + 1) → lwI (t + 1) (E26 ρ') c' s' → zz p l e lwR s m args below meth c A (cx D dA A W'.1 W'.2.1 W'.2.2 ad' ((q, .inl (dA 7, 1, .inr (.inl f'))) :: xR dA ρ' ar)) c' s' Q 2319 [(4, .int (nI (7 * t))), (3, .ref q), (2, .ref (ar 40)), (1, .ref (ad' 11 0)), (0, .ref b)] [] []) : zz p l e lwR s m args below meth c A (cx D dA A W.1 W.2.1 W.2.2 ad ((q, .inl (dA 7, 1, .inr (.inl f))) :: xR dA ρ ar)) cells slots Q 1366 [(4, .int (nI (7 * t))), (3, .ref q), (2, .ref (ar 40)), (1, .ref (ad 11 0)), (0, .ref b)] [] [] := by
  obtain ⟨hI1, hI2⟩ := hI
  have h80 := @E26_le ρ
  obtain ⟨nw, hRel⟩ := hR
  have h11 : 0 < W.2.2 11 := by rw [hRel.r3.1.1]; decide
  obtain ⟨o, ρ', a, W', f', r5, hfc, hcd, hw, hfr, h39, hans, hRX, hE⟩ := OKW.use (f := f) (f_move hRel (by omega) (sc (7 * t + 1)) (sc (7 * t + 2)))
  have h81 := @E26_le ρ'
  have hb : ∀ u, o = .inl u → u.2 = 0 ∨ u.2 = 1 := fun u hu => fc_move_bool (by rw [← hu]; exact hfc)
  have hb01 : r5 = 0 → a = 0 ∨ a = 1 := fun z => by
    cases o with
    | inl w =>
      have e := hans z
      have e2 : f' = vp_updL f 0 w.2.toInt64 := (congrArg (fun x => x.2.1) hw).symm
      rw [e2, upd0] at e
      have e3 : w.2 = a := by
        have := congrArg Int64.toInt32 e
        simpa using this
      rw [← e3]
      exact hb w rfl
    | inr e => exact absurd ((congrArg (fun x => x.2.2) hw).trans z) (hcd e rfl)
  refine z_aload_n X dL_law_1366 rfl rfl ?_
  refine z_aload_n X dL_law_1367 rfl rfl ?_
  refine z_iload X dL_law_1368 rfl ?_
  refine z_iconst (v := nI 1) X dL_law_1370 (by decide) ?_
  refine z_iadd X dL_law_1371 ?_
  rw [(nI_arg (j := 1) hL hL2 (by decide)).1]
  refine z_sld X hX hbl hbA (nI_arg hL hL2 (by decide)).2 dL_law_1372 ?_
  rw [nI_clamp (by omega)]
  refine z_aload_n X dL_law_1373 rfl rfl ?_
  refine z_iload X dL_law_1374 rfl ?_
  refine z_iconst (v := nI 2) X dL_law_1376 (by decide) ?_
  refine z_iadd X dL_law_1377 ?_
  rw [(nI_arg (j := 2) hL hL2 (by decide)).1]
  refine z_sld X hX hbl hbA (nI_arg hL hL2 (by decide)).2 dL_law_1378 ?_
  rw [nI_clamp (by omega)]
  refine z_aload_n X dL_law_1379 rfl rfl ?_
  refine z_callWi (As := [.ref (ad 11 0), .int (sc (7 * t + 1)), .int (sc (7 * t + 2)), .ref q]) (rest := []) (nA := 4) (mc := 6) (ms := 1838) (rm := ({ frames := 260, cells := 6, slots := 1838, locals := 2600 } : Room)) (S := CW × (Nat → Int64) × Adr) (post := fun r u => wW W.1 W.2.1 W.2.2 f cd1 o = (u.1, u.2.1, r) ∧ axt W.2.2 ad u.2.2 ∧ ∀ k, W.2.2 k ≤ u.1.2.2 k) (G1 := fun u => cx D dA A u.1.1 u.1.2.1 u.1.2.2 u.2.2 ((q, .inl (dA 7, 1, .inr (.inl u.2.1))) :: xR dA ρ ar)) X hNc (cw_move l X.2.2.2.2.2.2.2.2 X.2.2.2.2.2.2.1 h11 hb hcd hfc) g_1098 g_1099 g_0 g_1100 hd_yL_move.2 ⟨rfl, rfl, Nat.le_of_ble_eq_true rfl, Nat.le_of_ble_eq_true rfl⟩ rfl rfl (Nat.le_of_ble_eq_true rfl) dL_law_1380 ⟨by show _ ≤ 601024; omega, by show _ ≤ 7293034; omega⟩ (fun r u hu => ?_)
  obtain ⟨W2, f2, ad'⟩ := u
  obtain ⟨hu1, hax, hN⟩ := hu
  have e1 := hw.symm.trans hu1
  simp only [Prod.mk.injEq] at e1
  obtain ⟨rfl, rfl, rfl⟩ := e1
  have ha1 : ad' 11 0 = ad 11 0 := hax 11 0 (ex_k (by decide) h11) (by decide)
  rw [← ha1]
  have h11' : 0 < W'.2.2 11 := Nat.lt_of_lt_of_le h11 (hN 11)
  refine z_istore X dL_law_1383 (by rw [hml]; decide) rfl rfl ?_
  refine z_aload_n X dL_law_1385 rfl rfl ?_
  refine z_aload_n X dL_law_1386 rfl rfl ?_
  refine z_iload X dL_law_1387 rfl ?_
  refine z_iconst (v := nI 1) X dL_law_1389 (by decide) ?_
  refine z_iadd X dL_law_1390 ?_
  rw [(nI_arg (j := 1) hL hL2 (by decide)).1]
  refine z_sld X hX hbl hbA (nI_arg hL hL2 (by decide)).2 dL_law_1391 ?_
  rw [nI_clamp (by omega)]
  refine z_aload_n X dL_law_1392 rfl rfl ?_
  refine z_iload X dL_law_1393 rfl ?_
  refine z_iconst (v := nI 2) X dL_law_1395 (by decide) ?_
  refine z_iadd X dL_law_1396 ?_
  rw [(nI_arg (j := 2) hL hL2 (by decide)).1]
  refine z_sld X hX hbl hbA (nI_arg hL hL2 (by decide)).2 dL_law_1397 ?_
  rw [nI_clamp (by omega)]
  refine z_callVi (As := [.int (sc (7 * t + 1)), .int (sc (7 * t + 2))]) (rest := []) (nA := 2) (mc := 0) (ms := 0) (rm := ({ frames := 100, cells := 0, slots := 0, locals := 1000 } : Room)) (r0 := a) (pu := fun (_ : Unit) => True) (G1 := fun _ => cx D dA A W'.1 W'.2.1 W'.2.2 ad' ((q, .inl (dA 7, 1, .inr (.inl f'))) :: xR dA ρ' ar)) X (met_ref (xs := [(q, .inl (dA 7, 1, .inr (.inl f')))]) X.2.2.2.2.2.2.1 (fun A' n' hA' => cr_move l X.2.2.2.2.2.2.2.2 hA' hfr)) g_1603 g_1604 g_1605 g_15 g_1606 hd_yX12_move ⟨rfl, rfl, Nat.le_of_ble_eq_true rfl, Nat.le_of_ble_eq_true rfl⟩ rfl (fun _ hG => cx_recvX X (j := 1) (ci := 15) rfl rfl hG) rfl (Nat.le_of_ble_eq_true rfl) dL_law_1398 ⟨by show _ ≤ 601024; omega, by show _ ≤ 7293034; omega⟩ (fun _ _ => ?_)
  refine z_istore X dL_law_1401 (by rw [hml]; decide) rfl rfl ?_
  refine z_aload_n X dL_law_1403 rfl rfl ?_
  refine z_callVi (As := []) (rest := []) (nA := 0) (mc := 0) (ms := 0) (rm := ({ frames := 20, cells := 0, slots := 0, locals := 200 } : Room)) (r0 := ρ' 39 0) (pu := fun (_ : Unit) => True) (G1 := fun _ => cx D dA A W'.1 W'.2.1 W'.2.2 ad' ((q, .inl (dA 7, 1, .inr (.inl f'))) :: xR dA ρ' ar)) X (met_ref (xs := [(q, .inl (dA 7, 1, .inr (.inl f')))]) X.2.2.2.2.2.2.1 (fun A' n' hA' => cr_thrown l X.2.2.2.2.2.2.2.2 hA' (show fr_thrown ρ' = some (ρ' 39 0) from rfl))) g_1428 g_1429 g_1430 g_15 g_1431 hd_yX12_thrown ⟨rfl, rfl, Nat.le_of_ble_eq_true rfl, Nat.le_of_ble_eq_true rfl⟩ rfl (fun _ hG => cx_recvX X (j := 1) (ci := 15) rfl rfl hG) rfl (Nat.le_of_ble_eq_true rfl) dL_law_1404 ⟨by show _ ≤ 601024; omega, by show _ ≤ 7293034; omega⟩ (fun _ _ => ?_)
  refine z_iload X dL_law_1407 rfl ?_
  refine z_icmp_eq (tgt := 1414) X dL_law_1409 (by decide) (fun _ => ?_) (fun z => absurd h39 z)
  refine z_iload X dL_law_1414 rfl ?_
  have fin : zz p l e lwR s m args below meth c A (cx D dA A W'.1 W'.2.1 W'.2.2 ad' ((q, .inl (dA 7, 1, .inr (.inl f'))) :: xR dA ρ' ar)) (cells + 6 + 0 + 0) (slots + 1838 + 0 + 0) Q 1438 [(6, .int a), (5, .int r5), (4, .int (nI (7 * t))), (3, .ref q), (2, .ref (ar 40)), (1, .ref (ad' 11 0)), (0, .ref b)] [] [] := by
    refine z_goto (tgt := 2319) X dL_law_1438 (by decide) ?_
    exact zz.forget (fun x hx => List.mem_cons_of_mem _ (List.mem_cons_of_mem _ hx)) (k W' ad' f' ρ' _ _ hRX ⟨by omega, by omega⟩)
  refine z_if_ne (tgt := 1438) X dL_law_1416 (by decide) (fun z => ?_) (fun _ => fin)
  refine z_aload_n X dL_law_1419 rfl rfl ?_
  refine z_iconst (v := 0) X dL_law_1420 (by decide) ?_
  refine c_laldX X 0 (o := a.toInt64) rfl (fun y => y.elim (fun y => absurd y (by decide)) (fun y => absurd y (by decide))) (hans z) dL_law_1421 ?_
  refine z_iload X dL_law_1422 rfl ?_
  refine z_booll X dL_law_1424 dL_law_1427 dL_law_1428 dL_law_1431 (by decide) (by decide) (hb01 z) ?_
  refine z_lcmp X dL_law_1432 ?_
  refine z_if_eq (tgt := 1438) X dL_law_1433 (by decide) (fun _ => fin) (fun y => absurd (lg_cmp_self _) y)
set_option maxRecDepth 100000 in
set_option maxHeartbeats 8000000 in
theorem lw_now {p : Program} {l : Launch} {e : Env} {s : State} {m : MethodId} {args : Array Value} {below : List Frame} {meth : Method} {c : Code} {A : Nat → Prop} {Q : State → Prop} {D : va_G} {dA : Nat → ClassId} (X : zc p l s m args meth c cL_law RL D dA A) {b : Nat} {q : Nat} {W : CW} {ad : Adr} {f : Nat → Int64} {ρ : Rho} {ar : Nat → Nat} {t cells slots : Nat} (hR : RelX W ρ t) (ht : t + 1 ≤ 512) (hI : lwI t (E26 ρ) cells slots)
    (k : ∀ (W' : CW) (ad' : Adr) (f' : Nat → Int64) (ρ' : Rho) (c' s' : Nat), RelX W' ρ' (t + 1) → lwI (t + 1) (E26 ρ') c' s' → zz p l e lwR s m args below meth c A (cx D dA A W'.1 W'.2.1 W'.2.2 ad' ((q, .inl (dA 7, 1, .inr (.inl f'))) :: xR dA ρ' ar)) c' s' Q 2319 [(4, .int (nI (7 * t))), (3, .ref q), (2, .ref (ar 40)), (1, .ref (ad' 11 0)), (0, .ref b)] [] []) : zz p l e lwR s m args below meth c A (cx D dA A W.1 W.2.1 W.2.2 ad ((q, .inl (dA 7, 1, .inr (.inl f))) :: xR dA ρ ar)) cells slots Q 1497 [(4, .int (nI (7 * t))), (3, .ref q), (2, .ref (ar 40)), (1, .ref (ad 11 0)), (0, .ref b)] [] [] := by
  obtain ⟨hI1, hI2⟩ := hI
  obtain ⟨nw, hRel⟩ := hR
  have h11 : 0 < W.2.2 11 := by rw [hRel.r3.1.1]; decide
  obtain ⟨a, hfc, hfr, hRX, hE⟩ := f_now hRel
  refine z_aload_n X dL_law_1497 rfl rfl ?_
  refine z_callVi (As := []) (rest := []) (nA := 0) (mc := 0) (ms := 0) (rm := ({ frames := 20, cells := 0, slots := 0, locals := 200 } : Room)) (r0 := a) (pu := fun (_ : Unit) => True) (G1 := fun _ => (cx D dA A W.1 W.2.1 W.2.2 ad ((q, .inl (dA 7, 1, .inr (.inl f))) :: xR dA ρ ar))) X (cc_now l X.2.2.2.2.2.2.2.2 X.2.2.2.2.2.2.1 h11 hfc) g_300 g_301 g_302 g_1 g_303 hd_yX11_now ⟨rfl, rfl, Nat.le_of_ble_eq_true rfl, Nat.le_of_ble_eq_true rfl⟩ rfl (fun _ hG => cx_recv X (k := 11) rfl rfl h11 hG) rfl (Nat.le_of_ble_eq_true rfl) dL_law_1498 ⟨by show _ ≤ 601024; omega, by show _ ≤ 7293034; omega⟩ (fun _ _ => ?_)
  refine z_aload_n X dL_law_1501 rfl rfl ?_
  refine z_callVi (As := []) (rest := [.int a]) (nA := 0) (mc := 0) (ms := 0) (rm := ({ frames := 20, cells := 0, slots := 0, locals := 200 } : Room)) (r0 := a) (pu := fun (_ : Unit) => True) (G1 := fun _ => (cx D dA A W.1 W.2.1 W.2.2 ad ((q, .inl (dA 7, 1, .inr (.inl f))) :: xR dA (cs ρ 39 0 0) ar))) X (met_ref (xs := [(q, .inl (dA 7, 1, .inr (.inl f)))]) X.2.2.2.2.2.2.1 (fun A' n' hA' => cr_now l X.2.2.2.2.2.2.2.2 hA' hfr)) g_1623 g_1624 g_1625 g_15 g_1626 hd_yX12_now ⟨rfl, rfl, Nat.le_of_ble_eq_true rfl, Nat.le_of_ble_eq_true rfl⟩ rfl (fun _ hG => cx_recvX X (j := 1) (ci := 15) rfl rfl hG) rfl (Nat.le_of_ble_eq_true rfl) dL_law_1502 ⟨by show _ ≤ 601024; omega, by show _ ≤ 7293034; omega⟩ (fun _ _ => ?_)
  exact z_icmp_eq (tgt := 2319) X dL_law_1505 (by decide) (fun _ => k W ad f _ _ _ hRX.later ⟨by omega, by omega⟩) (fun z => absurd rfl z)
set_option maxRecDepth 100000 in
set_option maxHeartbeats 8000000 in
theorem lw_legs {p : Program} {l : Launch} {e : Env} {s : State} {m : MethodId} {args : Array Value} {below : List Frame} {meth : Method} {c : Code} {A : Nat → Prop} {Q : State → Prop} {D : va_G} {dA : Nat → ClassId} (X : zc p l s m args meth c cL_law RL D dA A) {b : Nat} {q : Nat} {W : CW} {ad : Adr} {f : Nat → Int64} {ρ : Rho} {ar : Nat → Nat} {t cells slots : Nat} (hR : RelX W ρ t) (ht : t + 1 ≤ 512) (hI : lwI t (E26 ρ) cells slots)
    (k : ∀ (W' : CW) (ad' : Adr) (f' : Nat → Int64) (ρ' : Rho) (c' s' : Nat), RelX W' ρ' (t + 1) → lwI (t + 1) (E26 ρ') c' s' → zz p l e lwR s m args below meth c A (cx D dA A W'.1 W'.2.1 W'.2.2 ad' ((q, .inl (dA 7, 1, .inr (.inl f'))) :: xR dA ρ' ar)) c' s' Q 2319 [(4, .int (nI (7 * t))), (3, .ref q), (2, .ref (ar 40)), (1, .ref (ad' 11 0)), (0, .ref b)] [] []) : zz p l e lwR s m args below meth c A (cx D dA A W.1 W.2.1 W.2.2 ad ((q, .inl (dA 7, 1, .inr (.inl f))) :: xR dA ρ ar)) cells slots Q 1790 [(4, .int (nI (7 * t))), (3, .ref q), (2, .ref (ar 40)), (1, .ref (ad 11 0)), (0, .ref b)] [] [] := by
  obtain ⟨hI1, hI2⟩ := hI
  obtain ⟨nw, hRel⟩ := hR
  have h11 : 0 < W.2.2 11 := by rw [hRel.r3.1.1]; decide
  obtain ⟨a, hfc, hfr, hRX, hE⟩ := f_legs hRel
  refine z_aload_n X dL_law_1790 rfl rfl ?_
  refine z_callVi (As := []) (rest := []) (nA := 0) (mc := 0) (ms := 0) (rm := ({ frames := 180, cells := 0, slots := 0, locals := 1800 } : Room)) (r0 := a) (pu := fun (_ : Unit) => True) (G1 := fun _ => (cx D dA A W.1 W.2.1 W.2.2 ad ((q, .inl (dA 7, 1, .inr (.inl f))) :: xR dA ρ ar))) X (cc_legs l X.2.2.2.2.2.2.2.2 X.2.2.2.2.2.2.1 h11 hfc) g_304 g_305 g_306 g_1 g_307 hd_yX11_legs ⟨rfl, rfl, Nat.le_of_ble_eq_true rfl, Nat.le_of_ble_eq_true rfl⟩ rfl (fun _ hG => cx_recv X (k := 11) rfl rfl h11 hG) rfl (Nat.le_of_ble_eq_true rfl) dL_law_1791 ⟨by show _ ≤ 601024; omega, by show _ ≤ 7293034; omega⟩ (fun _ _ => ?_)
  refine z_aload_n X dL_law_1794 rfl rfl ?_
  refine z_callVi (As := []) (rest := [.int a]) (nA := 0) (mc := 0) (ms := 0) (rm := ({ frames := 20, cells := 0, slots := 0, locals := 200 } : Room)) (r0 := a) (pu := fun (_ : Unit) => True) (G1 := fun _ => (cx D dA A W.1 W.2.1 W.2.2 ad ((q, .inl (dA 7, 1, .inr (.inl f))) :: xR dA (cs ρ 39 0 0) ar))) X (met_ref (xs := [(q, .inl (dA 7, 1, .inr (.inl f)))]) X.2.2.2.2.2.2.1 (fun A' n' hA' => cr_legs l X.2.2.2.2.2.2.2.2 hA' hfr)) g_1651 g_1652 g_1653 g_15 g_1654 hd_yX12_legs ⟨rfl, rfl, Nat.le_of_ble_eq_true rfl, Nat.le_of_ble_eq_true rfl⟩ rfl (fun _ hG => cx_recvX X (j := 1) (ci := 15) rfl rfl hG) rfl (Nat.le_of_ble_eq_true rfl) dL_law_1795 ⟨by show _ ≤ 601024; omega, by show _ ≤ 7293034; omega⟩ (fun _ _ => ?_)
  exact z_icmp_eq (tgt := 2319) X dL_law_1798 (by decide) (fun _ => k W ad f _ _ _ hRX.later ⟨by omega, by omega⟩) (fun z => absurd rfl z)
