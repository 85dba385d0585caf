/-! THE LAW: lineAt -/
theorem g_1255 : Cond.methodLink RL 235 yL_lineAt ∈ gT := gT_t 1255 (by decide +kernel) rfl
theorem g_1256 : Cond.static yL_lineAt ∈ gT := gT_t 1256 (by decide +kernel) rfl
theorem g_1257 : Cond.codeWith yL_lineAt cL_lineAt 5 (some .int) (hdT [(1, 13, 13, 10)]) ∈ gT := gT_t 1257 (by decide +kernel) rfl
theorem g_1699 : Cond.methodLink RL 237 yX12_lineAt ∈ gT := gT_t 1699 (by decide +kernel) rfl
theorem g_1700 : Cond.instanceMethod yX12_lineAt ∈ gT := gT_t 1700 (by decide +kernel) rfl
theorem g_1701 : Cond.selects RX12 yX12_lineAt yX12_lineAt ∈ gT := gT_t 1701 (by decide +kernel) rfl
theorem g_1702 : Cond.code yX12_lineAt cX12_lineAt 4 (some .int) ∈ gT := gT_t 1702 (by decide +kernel) rfl
theorem hd_yL_lineAt : yL_lineAt.cls = RL ∧ yL_lineAt.cls ≠ "java/lang/invoke/MethodHandle" ∧ yL_lineAt.cls ≠ "java/lang/invoke/VarHandle" ∧ (parseMethodDescriptor yL_lineAt.desc).map (fun d => d.parameters.length) = some 4 := by decide +kernel
theorem hd_yX12_lineAt : yX12_lineAt.cls = RX12 ∧ yX12_lineAt.cls ≠ "java/lang/invoke/MethodHandle" ∧ yX12_lineAt.cls ≠ "java/lang/invoke/VarHandle" ∧ (parseMethodDescriptor yX12_lineAt.desc).map (fun d => d.parameters.length) = some 2 := by decide +kernel
-- lineAt
set_option maxRecDepth 100000 in
set_option maxHeartbeats 8000000 in
theorem lw_lineAt {p : Program} {l : Launch} {e : Env} {s : State} {m : MethodId} {args : Array Value} {below : List Frame} {meth : Method} {c : Code} {A : Nat → Prop} {Q : State → Prop} {D : va_G} {dA : Nat → ClassId} (X : zc p l s m args meth c cL_law RL D dA A) (hNc : zNc s) (hml : c.maxLocals = 7) {b Ls : Nat} {sc : Nat → Int32} (hX : va_X b Ls sc s s.heap) (hbl : b < s.heap.size) (hbA : ¬ A b) {q : Nat} {W : CW} {ad : Adr} {f : Nat → Int64} {ρ : Rho} {ar : Nat → Nat} {t cells slots : Nat} (hR : RelX W ρ t) (hL : 7 * t + 7 ≤ Ls) (hL2 : Ls ≤ 3584) (hI : lwI t (E26 ρ) cells slots)
    (k : ∀ (W' : CW) (ad' : Adr) (f' : Nat → Int64) (ρ' : Rho) (c' s' : Nat), RelX W' ρ' (t + 1) → lwI (t + 1) (E26 ρ') c' s' → zz p l e lwR s m args below meth c A (cx D dA A W'.1 W'.2.1 W'.2.2 ad' ((q, .inl (dA 7, 1, .inr (.inl f'))) :: xR dA ρ' ar)) c' s' Q 2319 [(4, .int (nI (7 * t))), (3, .ref q), (2, .ref (ar 40)), (1, .ref (ad' 11 0)), (0, .ref b)] [] []) : zz p l e lwR s m args below meth c A (cx D dA A W.1 W.2.1 W.2.2 ad ((q, .inl (dA 7, 1, .inr (.inl f))) :: xR dA ρ ar)) cells slots Q 2251 [(4, .int (nI (7 * t))), (3, .ref q), (2, .ref (ar 40)), (1, .ref (ad 11 0)), (0, .ref b)] [] [] := by
  obtain ⟨hI1, hI2⟩ := hI
  have h80 := @E26_le ρ
  obtain ⟨nw, hRel⟩ := hR
  have h11 : 0 < W.2.2 11 := by rw [hRel.r3.1.1]; decide
  obtain ⟨o, ρ', a, W', f', r5, hfc, hcd, hw, hfr, h39, hans, hRX, hE⟩ := OKQ.use (f := f) (f_lineAt hRel (sc (7 * t + 1)) (sc (7 * t + 2)))
  have h81 := @E26_le ρ'
  refine z_aload_n X dL_law_2251 rfl rfl ?_
  refine z_aload_n X dL_law_2252 rfl rfl ?_
  refine z_iload X dL_law_2253 rfl ?_
  refine z_iconst (v := nI 1) X dL_law_2255 (by decide) ?_
  refine z_iadd X dL_law_2256 ?_
  rw [(nI_arg (j := 1) hL hL2 (by decide)).1]
  refine z_sld X hX hbl hbA (nI_arg hL hL2 (by decide)).2 dL_law_2257 ?_
  rw [nI_clamp (by omega)]
  refine z_aload_n X dL_law_2258 rfl rfl ?_
  refine z_iload X dL_law_2259 rfl ?_
  refine z_iconst (v := nI 2) X dL_law_2261 (by decide) ?_
  refine z_iadd X dL_law_2262 ?_
  rw [(nI_arg (j := 2) hL hL2 (by decide)).1]
  refine z_sld X hX hbl hbA (nI_arg hL hL2 (by decide)).2 dL_law_2263 ?_
  rw [nI_clamp (by omega)]
  refine z_aload_n X dL_law_2264 rfl rfl ?_
  refine z_callWi (As := [.ref (ad 11 0), .int (sc (7 * t + 1)), .int (sc (7 * t + 2)), .ref q]) (rest := []) (nA := 4) (mc := 14) (ms := 400) (rm := ({ frames := 260, cells := 14, slots := 400, locals := 2600 } : Room)) (S := CW × (Nat → Int64) × Adr) (post := fun r u => wQ W.1 W.2.1 W.2.2 f cd1 o = (u.1, u.2.1, r) ∧ axt W.2.2 ad u.2.2 ∧ ∀ k, W.2.2 k ≤ u.1.2.2 k) (G1 := fun u => cx D dA A u.1.1 u.1.2.1 u.1.2.2 u.2.2 ((q, .inl (dA 7, 1, .inr (.inl u.2.1))) :: xR dA ρ ar)) X hNc (cw_lineAt l X.2.2.2.2.2.2.2.2 X.2.2.2.2.2.2.1 h11 hcd hfc) g_1255 g_1256 g_0 g_1257 hd_yL_lineAt.2 ⟨rfl, rfl, Nat.le_of_ble_eq_true rfl, Nat.le_of_ble_eq_true rfl⟩ rfl rfl (Nat.le_of_ble_eq_true rfl) dL_law_2265 ⟨by show _ ≤ 601024; omega, by show _ ≤ 7293034; omega⟩ (fun r u hu => ?_)
  obtain ⟨W2, f2, ad'⟩ := u
  obtain ⟨hu1, hax, hN⟩ := hu
  have e1 := hw.symm.trans hu1
  simp only [Prod.mk.injEq] at e1
  obtain ⟨rfl, rfl, rfl⟩ := e1
  have ha1 : ad' 11 0 = ad 11 0 := hax 11 0 (ex_k (by decide) h11) (by decide)
  rw [← ha1]
  have h11' : 0 < W'.2.2 11 := Nat.lt_of_lt_of_le h11 (hN 11)
  refine z_istore X dL_law_2268 (by rw [hml]; decide) rfl rfl ?_
  refine z_aload_n X dL_law_2270 rfl rfl ?_
  refine z_aload_n X dL_law_2271 rfl rfl ?_
  refine z_iload X dL_law_2272 rfl ?_
  refine z_iconst (v := nI 1) X dL_law_2274 (by decide) ?_
  refine z_iadd X dL_law_2275 ?_
  rw [(nI_arg (j := 1) hL hL2 (by decide)).1]
  refine z_sld X hX hbl hbA (nI_arg hL hL2 (by decide)).2 dL_law_2276 ?_
  rw [nI_clamp (by omega)]
  refine z_aload_n X dL_law_2277 rfl rfl ?_
  refine z_iload X dL_law_2278 rfl ?_
  refine z_iconst (v := nI 2) X dL_law_2280 (by decide) ?_
  refine z_iadd X dL_law_2281 ?_
  rw [(nI_arg (j := 2) hL hL2 (by decide)).1]
  refine z_sld X hX hbl hbA (nI_arg hL hL2 (by decide)).2 dL_law_2282 ?_
  rw [nI_clamp (by omega)]
  refine z_callVi (As := [.int (sc (7 * t + 1)), .int (sc (7 * t + 2))]) (rest := []) (nA := 2) (mc := 0) (ms := 0) (rm := ({ frames := 60, cells := 0, slots := 0, locals := 600 } : Room)) (r0 := a) (pu := fun (_ : Unit) => True) (G1 := fun _ => cx D dA A W'.1 W'.2.1 W'.2.2 ad' ((q, .inl (dA 7, 1, .inr (.inl f'))) :: xR dA ρ' ar)) X (met_ref (xs := [(q, .inl (dA 7, 1, .inr (.inl f')))]) X.2.2.2.2.2.2.1 (fun A' n' hA' => cr_lineAt l X.2.2.2.2.2.2.2.2 hA' hfr)) g_1699 g_1700 g_1701 g_15 g_1702 hd_yX12_lineAt ⟨rfl, rfl, Nat.le_of_ble_eq_true rfl, Nat.le_of_ble_eq_true rfl⟩ rfl (fun _ hG => cx_recvX X (j := 1) (ci := 15) rfl rfl hG) rfl (Nat.le_of_ble_eq_true rfl) dL_law_2283 ⟨by show _ ≤ 601024; omega, by show _ ≤ 7293034; omega⟩ (fun _ _ => ?_)
  refine z_istore X dL_law_2286 (by rw [hml]; decide) rfl rfl ?_
  refine z_aload_n X dL_law_2288 rfl rfl ?_
  refine z_callVi (As := []) (rest := []) (nA := 0) (mc := 0) (ms := 0) (rm := ({ frames := 20, cells := 0, slots := 0, locals := 200 } : Room)) (r0 := ρ' 39 0) (pu := fun (_ : Unit) => True) (G1 := fun _ => cx D dA A W'.1 W'.2.1 W'.2.2 ad' ((q, .inl (dA 7, 1, .inr (.inl f'))) :: xR dA ρ' ar)) X (met_ref (xs := [(q, .inl (dA 7, 1, .inr (.inl f')))]) X.2.2.2.2.2.2.1 (fun A' n' hA' => cr_thrown l X.2.2.2.2.2.2.2.2 hA' (show fr_thrown ρ' = some (ρ' 39 0) from rfl))) g_1428 g_1429 g_1430 g_15 g_1431 hd_yX12_thrown ⟨rfl, rfl, Nat.le_of_ble_eq_true rfl, Nat.le_of_ble_eq_true rfl⟩ rfl (fun _ hG => cx_recvX X (j := 1) (ci := 15) rfl rfl hG) rfl (Nat.le_of_ble_eq_true rfl) dL_law_2289 ⟨by show _ ≤ 601024; omega, by show _ ≤ 7293034; omega⟩ (fun _ _ => ?_)
  refine z_iload X dL_law_2292 rfl ?_
  refine z_icmp_eq (tgt := 2299) X dL_law_2294 (by decide) (fun _ => ?_) (fun z => absurd h39 z)
  refine z_iload X dL_law_2299 rfl ?_
  have fin : zz p l e lwR s m args below meth c A (cx D dA A W'.1 W'.2.1 W'.2.2 ad' ((q, .inl (dA 7, 1, .inr (.inl f'))) :: xR dA ρ' ar)) (cells + 14 + 0 + 0) (slots + 400 + 0 + 0) Q 2316 [(6, .int a), (5, .int r5), (4, .int (nI (7 * t))), (3, .ref q), (2, .ref (ar 40)), (1, .ref (ad' 11 0)), (0, .ref b)] [] [] := by
    refine z_goto (tgt := 2319) X dL_law_2316 (by decide) ?_
    exact zz.forget (fun x hx => List.mem_cons_of_mem _ (List.mem_cons_of_mem _ hx)) (k W' ad' f' ρ' _ _ hRX.later ⟨by omega, by omega⟩)
  refine z_if_ne (tgt := 2316) X dL_law_2301 (by decide) (fun z => ?_) (fun _ => fin)
  refine z_aload_n X dL_law_2304 rfl rfl ?_
  refine z_iconst (v := 0) X dL_law_2305 (by decide) ?_
  refine c_laldX X 0 (o := a.toInt64) rfl (fun y => y.elim (fun y => absurd y (by decide)) (fun y => absurd y (by decide))) (hans z) dL_law_2306 ?_
  refine z_iload X dL_law_2307 rfl ?_
  refine z_i2l X dL_law_2309 ?_
  refine z_lcmp X dL_law_2310 ?_
  refine z_if_eq (tgt := 2316) X dL_law_2311 (by decide) (fun _ => fin) (fun y => absurd (lg_cmp_self _) y)
