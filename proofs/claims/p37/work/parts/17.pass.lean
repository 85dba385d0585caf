theorem ls0 {V : Rho} {L : Lst} {N : Cnt} {o : CW × Int32} (h : fc_liveSecond V L N = some o) : ∃ d, o.2 = nI d ∧ 0 ≤ d ∧ d ≤ 3000 := by
  unfold fc_liveSecond at h
  exact lsm FU (c := 0) (by decide) h
def fc_pass_48 : Nat → Rho → Lst → Cnt → Int32 → Int32 → Int32 → Option ((CW × Int32) ⊕ Nat)
  | 0, _, _, _, _, _, _ => none
  | n + 1, V, L, N, v1, v2, v3 => (if v1 ≤ v3 then some (.inl ((V, L, N), v2))
  else (fc_liveSecond V L N).bind fun o1 => (some ((v2 + o1.2))).bind fun x3 => (some (v3 + 1)).bind fun x4 => fc_pass_48 n o1.1.1 o1.1.2.1 o1.1.2.2 v1 x3 x4)
def fc_pass (V : Rho) (L : Lst) (N : Cnt) (a1 : Int32) : Option ((CW × Int32) ⊕ Nat) := (fc_isOutside V L N a1 1 500).bind fun o1 => (if o1 = 0 then (if ((V 228 0) + a1) ≤ 50000 then fc_pass_48 FU V L N a1 0 0
  else some (.inr 3))
  else some (.inr 2))
theorem psm : ∀ (n : Nat) {V : Rho} {L : Lst} {N : Cnt} {c : Nat} {v1 v3 : Int32} {o : (CW × Int32) ⊕ Nat}, c + 3000 * n ≤ 9000000 → fc_pass_48 n V L N v1 (nI c) v3 = some o → ∃ u d, o = .inl u ∧ u.2 = nI d ∧ c ≤ d ∧ d ≤ c + 3000 * n := by
  intro n
  induction n with
  | zero => intro V L N c v1 v3 o _ h; exact (nomatch (show none = some o from h))
  | succ n ih =>
    intro V L N c v1 v3 o hc h
    rw [fc_pass_48] at h
    by_cases q : v1 ≤ v3
    · exact ⟨_, c, (Option.some.inj (zp q h)).symm, rfl, Nat.le_refl _, by omega⟩
    · obtain ⟨o1, e1, h⟩ := zb2 (zn q h)
      obtain ⟨e, he, _, he2⟩ := ls0 e1
      obtain ⟨x3, e3, h⟩ := zb h
      obtain ⟨x4, _, h⟩ := zb h
      rw [← e3, he, nI_add] at h
      obtain ⟨u, d, h1, h2, h3, h4⟩ := ih (by omega) h
      exact ⟨u, d, h1, h2, by omega, by omega⟩
set_option maxRecDepth 100000 in
set_option maxHeartbeats 4000000 in
theorem bc_pass_48 {p : Program} {l : Launch} {e : Env} {s : State} {m : MethodId} {args : Array Value} {below : List Frame} {meth : Method} {c : Code} {D : va_G} {dA : Nat → ClassId} {A : Nat → Prop} {xs : va_W} {o : (CW × Int32) ⊕ Nat} {V0 : Rho} {L0 : Lst} {N0 : Cnt} {ad0 : Adr} (X : zc p l s m args meth c cX11_pass RX11 D dA A) (hml : c.maxLocals = 4) (hr : meth.sig.returnType = (some .int)) (hnil : ∀ x ∈ c.exceptionTable.toList, False) {d : Nat} (hd : ∀ u, o = .inl u → u.2 = nI d) (hd9 : d ≤ 9000000) : ∀ (n : Nat) {V : Rho} {L : Lst} {N : Cnt} {ad : Adr} (h11 : 0 < N 11) (hax : axt N0 ad0 ad) (hN0 : ∀ k, N0 k ≤ N k) {v1 : Int32} {v2 : Int32} {v3 : Int32} (c9 : Nat) (hc9 : v2 = nI c9) (hn9 : c9 + 3000 * n ≤ 9000000), fc_pass_48 n V L N v1 v2 v3 = some o → zz p l e ({ frames := 14, cells := 4 * d + 1, slots := 1826 * d + 6, locals := 588 } : Room) s m args below meth c A (cx D dA A V L N ad xs) (4 * c9) (1826 * c9) (vx_MQ below (va_Qi (fun r (w9 : (CW × Int32) × Adr) => r = w9.1.2 ∧ o = .inl w9.1 ∧ axt N0 ad0 w9.2 ∧ (∀ k, N0 k ≤ w9.1.1.2.2 k)) (fun (w9 : (CW × Int32) × Adr) t => cx D dA A w9.1.1.1 w9.1.1.2.1 w9.1.1.2.2 w9.2 xs t.heap) A) (vx_X (fun (u : Nat) => o = .inr u) (fun E u t => E = exn u ∧ cx D dA A V0 L0 N0 ad0 xs t.heap) A) args s (4 * d + 1) (1826 * d + 6) A) 48 [(0, .ref (ad 11 0)), (1, .int v1), (2, .int v2), (3, .int v3)] [] [] := by
  intro n
  induction n with
  | zero => intro V L N ad h11 hax hN0 v1 v2 v3 c9 hc9 hn9 h; exact (nomatch (show none = some o from h))
  | succ n ih =>
    intro V L N ad h11 hax hN0 v1 v2 v3 c9 hc9 hn9 h
    rw [fc_pass_48] at h
    refine z_iload_n X dX11_pass_48 rfl rfl ?_
    refine z_iload_n X dX11_pass_49 rfl rfl ?_
    refine z_icmp_ge (tgt := 66) X dX11_pass_50 (by decide) (fun q => ?_) (fun q => ?_)
    · have h := zp q h
      refine z_iload_n X dX11_pass_66 rfl rfl ?_
      obtain rfl := Option.some.inj h
      refine zx_ret ?_
      have e9 : c9 = d := (nI_eq (by omega) (by omega)).mp (hc9.symm.trans (hd _ rfl))
      refine zz.widen (k := 4 * d + 1) (n := 1826 * d + 6) (by omega) (by omega) ?_
      exact z_iret X hr rfl (fun t hG hF _ => ⟨⟨_, (_, ad), rfl, ⟨rfl, ⟨rfl, ⟨hax, hN0⟩⟩⟩, hG⟩, hF⟩) dX11_pass_67
    · have h := zn q h
      refine z_iload_n X dX11_pass_53 rfl rfl ?_
      refine z_aload_n X dX11_pass_54 rfl rfl ?_
      obtain ⟨o1, co1, h⟩ := zb2 h
      obtain ⟨e, he, _, he2⟩ := ls0 co1
      have h0 := h
      obtain ⟨x80, e80, h0⟩ := zb h0
      obtain ⟨x81, e81, h0⟩ := zb h0
      rw [← e80, hc9, he, nI_add] at h0
      obtain ⟨u2, d2, hu2, hd2, hd3, hd4⟩ := psm n (by omega) h0
      have e92 : d2 = d := (nI_eq (by omega) (by omega)).mp (hd2.symm.trans (hd u2 hu2))
      refine z_callVi (As := []) (rest := [.int v2]) (nA := 0) (mc := 4 * e) (ms := 1826 * e) (rm := ({ frames := 13, cells := 4 * e, slots := 1826 * e, locals := 546 } : Room)) (r0 := o1.2) (pu := fun (u : Adr) => axt N ad u ∧ (∀ k, N k ≤ o1.1.2.2 k)) (G1 := fun u => cx D dA A o1.1.1 o1.1.2.1 o1.1.2.2 u xs) X (cc_liveSecond l X.2.2.2.2.2.2.2.2 X.2.2.2.2.2.2.1 h11 he (by omega) co1) g_1121 g_1123 gs_21 g_1 g_1124 hd_yX11_liveSecond ⟨rfl, rfl, Nat.le_of_ble_eq_true rfl, Nat.le_of_ble_eq_true rfl⟩ rfl (fun _ hG => cx_recv X (k := 11) (n := 9) rfl rfl h11 hG) rfl (Nat.le_of_ble_eq_true rfl) dX11_pass_55 ⟨by show _ ≤ 4 * d + 1; omega, by show _ ≤ 1826 * d + 6; omega⟩ (fun ad2 h9 => ?_)
      have hax9 := h9.1
      have hax := hax.trans9 hN0 hax9
      try rw [← hax9 11 0 (ex_obj rfl h11) (by decide)]
      have hN9 := h9.2
      have hN0 := fun k => Nat.le_trans (hN0 k) (hN9 k)
      have h11 := Nat.lt_of_lt_of_le h11 (hN9 11)
      clear hax9 hN9 h9
      refine z_iadd X dX11_pass_58 ?_
      obtain ⟨x3, ex3, h⟩ := zb h
      rw [ex3]
      refine z_istore_n (lo' := [(2, .int x3), (0, .ref (ad2 11 0)), (1, .int v1), (3, .int v3)]) X dX11_pass_59 rfl (by rw [hml]; decide) rfl rfl ?_
      obtain ⟨x4, ex4, h⟩ := zb h
      refine z_iinc (v := x4) (lo' := [(3, .int x4), (2, .int x3), (0, .ref (ad2 11 0)), (1, .int v1)]) X dX11_pass_60 rfl ex4 (by rw [hml]; decide) rfl rfl ?_
      refine z_goto (tgt := 48) X dX11_pass_63 (by decide) ?_
      refine zz.pick (lo' := [(0, .ref (ad2 11 0)), (1, .int v1), (2, .int x3), (3, .int x4)]) [0, 1, 2, 3] rfl ?_
      refine zz.widen (k := 4 * (c9 + e)) (n := 1826 * (c9 + e)) (by omega) (by omega) ?_
      exact ih h11 hax hN0 (c9 + e) (by rw [← ex3, hc9, he, nI_add]) (by omega) h
set_option maxRecDepth 100000 in
set_option maxHeartbeats 4000000 in
theorem bc_pass {p : Program} {l : Launch} {e : Env} {s : State} {m : MethodId} {args : Array Value} {below : List Frame} {meth : Method} {c : Code} {D : va_G} {dA : Nat → ClassId} {A : Nat → Prop} {xs : va_W} {o : (CW × Int32) ⊕ Nat} (X : zc p l s m args meth c cX11_pass RX11 D dA A) (hml : c.maxLocals = 4) (hr : meth.sig.returnType = (some .int)) (hnil : ∀ x ∈ c.exceptionTable.toList, False) {d : Nat} (hd : ∀ u, o = .inl u → u.2 = nI d) (hd9 : d ≤ 9000000) {V : Rho} {L : Lst} {N : Cnt} {ad : Adr} (h11 : 0 < N 11) {a1 : Int32} (h : fc_pass V L N a1 = some o) : zz p l e ({ frames := 14, cells := 4 * d + 1, slots := 1826 * d + 6, locals := 588 } : Room) s m args below meth c A (cx D dA A V L N ad xs) 0 0 (vx_MQ below (va_Qi (fun r (w9 : (CW × Int32) × Adr) => r = w9.1.2 ∧ o = .inl w9.1 ∧ axt N ad w9.2 ∧ (∀ k, N k ≤ w9.1.1.2.2 k)) (fun (w9 : (CW × Int32) × Adr) t => cx D dA A w9.1.1.1 w9.1.1.2.1 w9.1.1.2.2 w9.2 xs t.heap) A) (vx_X (fun (u : Nat) => o = .inr u) (fun E u t => E = exn u ∧ cx D dA A V L N ad xs t.heap) A) args s (4 * d + 1) (1826 * d + 6) A) 0 [(0, .ref (ad 11 0)), (1, .int a1)] [] [] := by
  have hax := axt.rf N ad
  have hN0 := fun k => Nat.le_refl (N k)
  unfold fc_pass at h
  refine z_iload_n X dX11_pass_0 rfl rfl ?_
  refine z_iconst (v := 1) X dX11_pass_1 (by decide) ?_
  refine z_sipush (v := 500) X dX11_pass_2 (by decide) ?_
  obtain ⟨o1, co1, h⟩ := zb2 h
  refine z_callSi (As := [.int a1, .int 1, .int 500]) (rest := []) (nA := 3) (mc := 0) (ms := 0) (rm := ({ frames := 1, cells := 0, slots := 0, locals := 42 } : Room)) (r0 := o1) (pu := fun (_ : Unit) => True) (G1 := fun _ => cx D dA A V L N ad xs) X (cc_isOutside l X.2.2.2.2.2.2.2.2 X.2.2.2.2.2.2.1 h11 co1) g_394 g_395 g_1 g_396 hd_yX11_isOutside ⟨rfl, rfl, Nat.le_of_ble_eq_true rfl, Nat.le_of_ble_eq_true rfl⟩ rfl rfl (Nat.le_of_ble_eq_true rfl) dX11_pass_5 ⟨by show _ ≤ 4 * d + 1; omega, by show _ ≤ 1826 * d + 6; omega⟩ (fun _ _ => ?_)
  refine z_if_eq (tgt := 21) X dX11_pass_8 (by decide) (fun q => ?_) (fun q => ?_)
  · have h := zp q h
    refine z_aload_n X dX11_pass_21 rfl rfl ?_
    refine c_get X 11 8 (v := .int (V 228 0)) rx11_ws rfl rfl rfl h11 g_280 rfl dX11_pass_22 ?_
    refine z_iload_n X dX11_pass_25 rfl rfl ?_
    refine z_iadd X dX11_pass_26 ?_
    refine z_ldcw X g_1119 dX11_pass_27 ?_
    refine z_icmp_le (tgt := 44) X dX11_pass_30 (by decide) (fun q => ?_) (fun q => ?_)
    · have h := zp q h
      refine z_iconst (v := 0) X dX11_pass_44 (by decide) ?_
      refine z_istore_n (lo' := [(2, .int 0), (0, .ref (ad 11 0)), (1, .int a1)]) X dX11_pass_45 rfl (by rw [hml]; decide) rfl rfl ?_
      refine z_iconst (v := 0) X dX11_pass_46 (by decide) ?_
      refine z_istore_n (lo' := [(3, .int 0), (2, .int 0), (0, .ref (ad 11 0)), (1, .int a1)]) X dX11_pass_47 rfl (by rw [hml]; decide) rfl rfl ?_
      refine zz.pick (lo' := [(0, .ref (ad 11 0)), (1, .int a1), (2, .int 0), (3, .int 0)]) [0, 1, 2, 3] rfl ?_
      exact bc_pass_48 X hml hr hnil hd hd9 FU h11 hax hN0 0 rfl (by decide) h
    · have h := zn q h
      obtain rfl := Option.some.inj h
      exact z_throwSW (k := 3) (ik := 82) (is := 278) (ic := 86) (text := "the second would be above the last one") X hnil cx_grow (by decide) g_417 g_21 hat_3 (by decide) dX11_pass_33 dX11_pass_36 dX11_pass_37 dX11_pass_40 dX11_pass_43 ⟨Nat.le_of_ble_eq_true rfl, Nat.le_of_ble_eq_true rfl, by show _ ≤ 4 * d + 1; omega, by show _ ≤ 1826 * d + 6; omega⟩ (fun t hG hF => ⟨3, rfl, ⟨rfl, hG⟩, hF⟩) (by omega) (by omega)
  · have h := zn q h
    obtain rfl := Option.some.inj h
    exact z_throwS (k := 2) (ik := 71) (is := 121) (ic := 75) (text := "seconds is out of range") X hnil cx_grow (by decide) g_397 g_20 hat_2 (by decide) dX11_pass_11 dX11_pass_14 dX11_pass_15 dX11_pass_17 dX11_pass_20 ⟨Nat.le_of_ble_eq_true rfl, Nat.le_of_ble_eq_true rfl, by show _ ≤ 4 * d + 1; omega, by show _ ≤ 1826 * d + 6; omega⟩ (fun t hG hF => ⟨2, rfl, ⟨rfl, hG⟩, hF⟩) (by omega) (by omega)
theorem cc_pass (l : Launch) {D : va_G} {dA : Nat → ClassId} {A : Nat → Prop} {n : Nat} (hst : l.stackTraces = false) (hA : ∀ q, n ≤ q → A q) {V : Rho} {L : Lst} {N : Cnt} {ad : Adr} {xs : va_W} (h11 : 0 < N 11) {a1 : Int32} {o : (CW × Int32) ⊕ Nat} {d : Nat} (hd : ∀ u, o = .inl u → u.2 = nI d) (hd9 : d ≤ 9000000) (h : fc_pass V L N a1 = some o) : vx_Met l yX11_pass (.code yX11_pass cX11_pass 4 (some .int) :: gT) ({ frames := 14, cells := 4 * d + 1, slots := 1826 * d + 6, locals := 588 } : Room) (va_Pc [.ref (ad 11 0), .int a1] (zB D dA A n (cx D dA A V L N ad xs))) (va_Qi (fun r (w9 : (CW × Int32) × Adr) => r = w9.1.2 ∧ o = .inl w9.1 ∧ axt N ad w9.2 ∧ (∀ k, N k ≤ w9.1.1.2.2 k)) (fun (w9 : (CW × Int32) × Adr) t => cx D dA A w9.1.1.1 w9.1.1.2.1 w9.1.1.2.2 w9.2 xs t.heap) A) (vx_X (fun (u : Nat) => o = .inr u) (fun E u t => E = exn u ∧ cx D dA A V L N ad xs t.heap) A) (4 * d + 1) (1826 * d + 6) A :=
  zx_met (by decide) hA hst (Nat.le_of_ble_eq_true rfl) rfl rfl (fun p e s m below meth c X hml hr hnil => bc_pass X hml hr hnil hd hd9 h11 h)
