theorem g_1119 : Jvm.Cond.constant RX11 277 50000 ∈ gT := gT_t 738 (by decide +kernel) rfl
theorem g_1121 : Cond.methodLink RX11 280 yX11_liveSecond ∈ gT := gT_t 740 (by decide +kernel) rfl
theorem g_1123 : Cond.instanceMethod yX11_liveSecond ∈ gT := gT_t 742 (by decide +kernel) rfl
theorem g_1124 : Cond.code yX11_liveSecond cX11_liveSecond 6 (some .int) ∈ gT := gT_t 743 (by decide +kernel) rfl
theorem g_1125 : Cond.methodLink RX11 401 yX11_isLived ∈ gT := gT_t 744 (by decide +kernel) rfl
theorem g_1127 : Cond.instanceMethod yX11_isLived ∈ gT := gT_t 746 (by decide +kernel) rfl
theorem g_1128 : Cond.code yX11_isLived cX11_isLived 3 (some .boolean) ∈ gT := gT_t 747 (by decide +kernel) rfl
theorem gs_21 : Cond.selects RX11 yX11_liveSecond yX11_liveSecond ∈ gT := gT_s 19 (by decide +kernel) rfl
theorem gs_22 : Cond.selects RX11 yX11_isLived yX11_isLived ∈ gT := gT_s 20 (by decide +kernel) rfl
theorem hd_yX11_isLived : yX11_isLived.cls = RX11 ∧ yX11_isLived.cls ≠ "java/lang/invoke/MethodHandle" ∧ yX11_isLived.cls ≠ "java/lang/invoke/VarHandle" ∧ (parseMethodDescriptor yX11_isLived.desc).map (fun d => d.parameters.length) = some 1 := by decide +kernel
theorem hd_yX11_liveSecond : yX11_liveSecond.cls = RX11 ∧ yX11_liveSecond.cls ≠ "java/lang/invoke/MethodHandle" ∧ yX11_liveSecond.cls ≠ "java/lang/invoke/VarHandle" ∧ (parseMethodDescriptor yX11_liveSecond.desc).map (fun d => d.parameters.length) = some 0 := by decide +kernel
theorem isLived50 {V : Rho} {L : Lst} {N : Cnt} {v1 v2 : Int32} {o : CW × Int32} (h : fc_isLived_50 V L N v1 v2 = some o) : o.2 = 1 := by
  unfold fc_isLived_50 at h
  obtain ⟨_, _, h⟩ := zb2 h
  obtain ⟨_, _, h⟩ := zb2 h
  rw [← Option.some.inj h]
theorem isLived23 {V : Rho} {L : Lst} {N : Cnt} {v1 v2 : Int32} {o : CW × Int32} (h : fc_isLived_23 V L N v1 v2 = some o) : o.2 = 0 ∨ o.2 = 1 := by
  unfold fc_isLived_23 at h
  by_cases q : 1 ≤ (V 160 v1.toNatClampNeg)
  · exact Or.inr (isLived50 (zp q h))
  · obtain ⟨o2, _, h⟩ := zb2 (zn q h)
    by_cases q2 : o2.2 = 0
    · obtain ⟨_, _, h⟩ := zb2 (zp q2 h)
      left
      rw [← Option.some.inj h]
    · exact Or.inr (isLived50 (zn q2 h))
theorem isLived01 {V : Rho} {L : Lst} {N : Cnt} {v1 : Int32} {o : CW × Int32} (h : fc_isLived V L N v1 = some o) : o.2 = 0 ∨ o.2 = 1 := by
  unfold fc_isLived at h
  obtain ⟨o2, _, h⟩ := zb2 h
  obtain ⟨o3, _, h⟩ := zb2 h
  by_cases q : o3 = 0
  · obtain ⟨o4, _, h⟩ := zb2 (zp q h)
    exact isLived23 h
  · exact isLived23 (zn q h)
def fc_liveSecond_13 : Nat → Rho → Lst → Cnt → Int32 → Int32 → Int32 → Option (CW × Int32)
  | 0, _, _, _, _, _, _ => none
  | n + 1, V, L, N, v1, v3, v4 => (if v3 ≤ v4 then (some (cs V 228 0 ((V 228 0) + 1))).bind fun V1 => some ((V1, L, N), v1)
  else if v4 < 0 ∨ 10 ≤ v4.toNatClampNeg then none else (if (V 104 v4.toNatClampNeg) = -1 then (some (v4 + 1)).bind fun x6 => fc_liveSecond_13 n V L N v1 v3 x6
  else (fc_isLived V L N (V 104 v4.toNatClampNeg)).bind fun o7 => (if o7.2 = 0 then (some (v1 + 1)).bind fun x9 => (some (v4 + 1)).bind fun x10 => fc_liveSecond_13 n o7.1.1 o7.1.2.1 o7.1.2.2 x9 v3 x10
  else (some (v4 + 1)).bind fun x11 => fc_liveSecond_13 n o7.1.1 o7.1.2.1 o7.1.2.2 v1 v3 x11)))
def fc_liveSecond (V : Rho) (L : Lst) (N : Cnt) : Option (CW × Int32) := fc_liveSecond_13 FU V L N 0 10 0
theorem lsm : ∀ (n : Nat) {V : Rho} {L : Lst} {N : Cnt} {c : Nat} {v3 v4 : Int32} {o : CW × Int32}, c + n ≤ 9000 → fc_liveSecond_13 n V L N (nI c) v3 v4 = some o → ∃ d, o.2 = nI d ∧ c ≤ d ∧ d ≤ c + n := by
  intro n
  induction n with
  | zero => intro V L N c v3 v4 o _ h; exact (nomatch (show none = some o from h))
  | succ n ih =>
    intro V L N c v3 v4 o hc h
    rw [fc_liveSecond_13] at h
    by_cases q : v3 ≤ v4
    · obtain ⟨V1, _, h⟩ := zb (zp q h)
      rw [← Option.some.inj h]
      exact ⟨c, rfl, Nat.le_refl _, by omega⟩
    · obtain ⟨q2, h⟩ := zg (zn q h)
      by_cases q3 : (V 104 v4.toNatClampNeg) = -1
      · obtain ⟨x, _, h⟩ := zb (zp q3 h)
        obtain ⟨d, h1, h2, h3⟩ := ih (by omega) h
        exact ⟨d, h1, h2, by omega⟩
      · obtain ⟨o6, _, h⟩ := zb2 (zn q3 h)
        by_cases q4 : o6.2 = 0
        · obtain ⟨x8, e8, h⟩ := zb (zp q4 h)
          obtain ⟨x9, _, h⟩ := zb h
          rw [← e8, nI_1] at h
          obtain ⟨d, h1, h2, h3⟩ := ih (by omega) h
          exact ⟨d, h1, by omega, by omega⟩
        · obtain ⟨x9, _, h⟩ := zb (zn q4 h)
          obtain ⟨d, h1, h2, h3⟩ := ih (by omega) h
          exact ⟨d, h1, h2, by omega⟩
set_option maxRecDepth 100000 in
set_option maxHeartbeats 4000000 in
theorem bc_liveSecond_13 {p : Program} {l : Launch} {e : Env} {s : State} {m : MethodId} {args : Array Value} {below : List Frame} {meth : Method} {c : Code} {D : va_G} {dA : Nat → ClassId} {A : Nat → Prop} {xs : va_W} {o : CW × Int32} {N0 : Cnt} {ad0 : Adr} (X : zc p l s m args meth c cX11_liveSecond RX11 D dA A) (hml : c.maxLocals = 6) (hr : meth.sig.returnType = (some .int)) {d : Nat} (hd : o.2 = nI d) (hd9 : d ≤ 9000) : ∀ (n : Nat) {V : Rho} {L : Lst} {N : Cnt} {ad : Adr} (h11 : 0 < N 11) (hax : axt N0 ad0 ad) (hN0 : ∀ k, N0 k ≤ N k) {v1 : Int32} {v3 : Int32} {v4 : Int32} (c9 : Nat) (hc9 : v1 = nI c9) (hn9 : c9 + n ≤ 9000), fc_liveSecond_13 n V L N v1 v3 v4 = some o → zz p l e ({ frames := 13, cells := 4 * d, slots := 1826 * d, locals := 546 } : Room) s m args below meth c A (cx D dA A V L N ad xs) (4 * c9) (1826 * c9) (MQ below (va_Qi (fun r (w9 : Adr) => r = o.2 ∧ axt N0 ad0 w9 ∧ (∀ k, N0 k ≤ o.1.2.2 k)) (fun (w9 : Adr) t => cx D dA A o.1.1 o.1.2.1 o.1.2.2 w9 xs t.heap) A) args s (4 * d) (1826 * d) A) 13 [(0, .ref (ad 11 0)), (1, .int v1), (2, .ref (ad 29 0)), (3, .int v3), (4, .int v4)] [] [] := by
  intro n
  induction n with
  | zero => intro V L N ad h11 hax hN0 v1 v3 v4 c9 hc9 hn9 h; exact (nomatch (show none = some o from h))
  | succ n ih =>
    intro V L N ad h11 hax hN0 v1 v3 v4 c9 hc9 hn9 h
    rw [fc_liveSecond_13] at h
    refine z_iload X dX11_liveSecond_13 rfl ?_
    refine z_iload_n X dX11_liveSecond_15 rfl rfl ?_
    refine z_icmp_ge (tgt := 54) X dX11_liveSecond_16 (by decide) (fun q => ?_) (fun q => ?_)
    · have h := zp q h
      refine z_aload_n X dX11_liveSecond_54 rfl rfl ?_
      refine z_dup X dX11_liveSecond_55 rfl ?_
      refine c_get X 11 8 (v := .int (V 228 0)) rx11_ws rfl rfl rfl h11 g_280 rfl dX11_liveSecond_56 ?_
      refine z_iconst (v := 1) X dX11_liveSecond_59 (by decide) ?_
      refine z_iadd X dX11_liveSecond_60 ?_
      obtain ⟨V1, eV1, h⟩ := zb h
      refine c_put X 11 8 (x := ((V 228 0) + 1)) (v := .int ((V 228 0) + 1)) (ty := .int) rx11_ws rfl tyX11_ok nmX11 rfl rfl h11 rfl g_280 rfl trivial rfl rfl rfl eV1 dX11_liveSecond_61 ?_
      refine z_iload_n X dX11_liveSecond_64 rfl rfl ?_
      obtain rfl := Option.some.inj h
      have e9 : c9 = d := (nI_eq (by omega) (by omega)).mp (hc9.symm.trans hd)
      refine zz.widen (k := 4 * d) (n := 1826 * d) (by omega) (by omega) ?_
      exact z_iret X hr rfl (fun t hG hF _ => ⟨⟨_, ad, rfl, ⟨rfl, ⟨hax, hN0⟩⟩, hG⟩, hF⟩) dX11_liveSecond_65
    · have h := zn q h
      refine z_aload_n X dX11_liveSecond_19 rfl rfl ?_
      refine z_iload X dX11_liveSecond_20 rfl ?_
      obtain ⟨q2, h⟩ := zg h
      refine c_aald X 29 rfl rfl rfl h11 q2 dX11_liveSecond_22 ?_
      refine zz.pre (fun H hG => vp_of q2 (hG.2.2.2.2.2.2.2.2.1.1 h11).2.2.2.2.1) (fun (p3 : vp_in v4 (N 5)) => ?_)
      refine z_astore (lo' := [(5, .ref (ad 5 v4.toNatClampNeg)), (0, .ref (ad 11 0)), (1, .int v1), (2, .ref (ad 29 0)), (3, .int v3), (4, .int v4)]) X dX11_liveSecond_23 (by rw [hml]; decide) rfl rfl ?_
      refine z_aload X dX11_liveSecond_25 rfl ?_
      refine c_get X 5 4 (v := va_rf (qn (ad 4) (V 104 v4.toNatClampNeg))) rx5_ws rfl rfl rfl (vp_lt p3) g_254 rfl dX11_liveSecond_27 ?_
      refine zz.pre (fun H hG => cx_fact (k := 5) (i := v4.toNatClampNeg) (f := 4) rfl (vp_lt p3) rfl hG) (fun (p4 : (V 104 v4.toNatClampNeg) = -1 ∨ vp_in (V 104 v4.toNatClampNeg) (N 4)) => ?_)
      refine c_ifnull (tgt := 48) X dX11_liveSecond_30 (by decide) (fun q => ?_) (fun q => ?_)
      · have h := zp q h
        obtain ⟨x6, ex6, h⟩ := zb h
        refine z_iinc (v := x6) (lo' := [(4, .int x6), (5, .ref (ad 5 v4.toNatClampNeg)), (0, .ref (ad 11 0)), (1, .int v1), (2, .ref (ad 29 0)), (3, .int v3)]) X dX11_liveSecond_48 rfl ex6 (by rw [hml]; decide) rfl rfl ?_
        refine z_goto (tgt := 13) X dX11_liveSecond_51 (by decide) ?_
        refine zz.pick (lo' := [(0, .ref (ad 11 0)), (1, .int v1), (2, .ref (ad 29 0)), (3, .int v3), (4, .int x6)]) [0, 1, 2, 3, 4] rfl ?_
        exact ih h11 hax hN0 c9 hc9 (by omega) h
      · have h := zn q h
        have p5 := p4.resolve_left q
        refine z_aload_n X dX11_liveSecond_33 rfl rfl ?_
        refine z_aload X dX11_liveSecond_34 rfl ?_
        refine c_get X 5 4 (v := va_rf (qn (ad 4) (V 104 v4.toNatClampNeg))) rx5_ws rfl rfl rfl (vp_lt p3) g_254 rfl dX11_liveSecond_36 ?_
        rw [qn_ref (vp_ne p5)]
        obtain ⟨o7, co7, h⟩ := zb2 h
        by_cases q90 : o7.2 = 0
        · have h0 := zp q90 h
          obtain ⟨x80, e80, h0⟩ := zb h0
          obtain ⟨x81, e81, h0⟩ := zb h0
          rw [← e80, hc9, nI_1] at h0
          obtain ⟨d2, hd2, hd3, hd4⟩ := lsm n (by omega) h0
          have e92 : d2 = d := (nI_eq (by omega) (by omega)).mp (hd2.symm.trans hd)
          refine z_callVi (As := [.ref (ad 4 (V 104 v4.toNatClampNeg).toNatClampNeg)]) (rest := []) (nA := 1) (mc := 4) (ms := 1826) (rm := ({ frames := 12, cells := 4, slots := 1826, locals := 504 } : Room)) (r0 := o7.2) (pu := fun (u : Adr) => axt N ad u ∧ (∀ k, N k ≤ o7.1.2.2 k)) (G1 := fun u => cx D dA A o7.1.1 o7.1.2.1 o7.1.2.2 u xs) X (cc_isLived l X.2.2.2.2.2.2.2.2 X.2.2.2.2.2.2.1 h11 p5 co7) g_1125 g_1127 gs_22 g_1 g_1128 hd_yX11_isLived ⟨rfl, rfl, Nat.le_of_ble_eq_true rfl, Nat.le_of_ble_eq_true rfl⟩ rfl (fun _ hG => cx_recv X (k := 11) (n := 9) rfl rfl h11 hG) rfl (Nat.le_of_ble_eq_true rfl) dX11_liveSecond_39 ⟨by show _ ≤ 4 * d; omega, by show _ ≤ 1826 * d; omega⟩ (fun ad8 h9 => ?_)
          have hax9 := h9.1
          have hax := hax.trans9 hN0 hax9
          try rw [← hax9 5 _ (ex_obj rfl (vp_lt p3)) (by decide)]
          try rw [← hax9 11 0 (ex_obj rfl h11) (by decide)]
          try rw [← hax9 29 0 (ex_arr rfl rfl h11) (by decide)]
          have hN9 := h9.2
          have hN0 := fun k => Nat.le_trans (hN0 k) (hN9 k)
          have h11 := Nat.lt_of_lt_of_le h11 (hN9 11)
          have p3 := vp_mono p3 (hN9 5)
          have p4 := p4.imp_right (fun z => vp_mono z (hN9 4))
          have p5 := vp_mono p5 (hN9 4)
          clear hax9 hN9 h9
          refine z_if_ne (tgt := 48) X dX11_liveSecond_42 (by decide) (fun q => ?_) (fun q => ?_)
          · have h := zp q h
            obtain ⟨x9, ex9, h⟩ := zb h
            refine z_iinc (v := x9) (lo' := [(1, .int x9), (5, .ref (ad8 5 v4.toNatClampNeg)), (0, .ref (ad8 11 0)), (2, .ref (ad8 29 0)), (3, .int v3), (4, .int v4)]) X dX11_liveSecond_45 rfl ex9 (by rw [hml]; decide) rfl rfl ?_
            obtain ⟨x10, ex10, h⟩ := zb h
            refine z_iinc (v := x10) (lo' := [(4, .int x10), (1, .int x9), (5, .ref (ad8 5 v4.toNatClampNeg)), (0, .ref (ad8 11 0)), (2, .ref (ad8 29 0)), (3, .int v3)]) X dX11_liveSecond_48 rfl ex10 (by rw [hml]; decide) rfl rfl ?_
            refine z_goto (tgt := 13) X dX11_liveSecond_51 (by decide) ?_
            refine zz.pick (lo' := [(0, .ref (ad8 11 0)), (1, .int x9), (2, .ref (ad8 29 0)), (3, .int v3), (4, .int x10)]) [0, 1, 2, 3, 4] rfl ?_
            refine zz.widen (k := 4 * (c9 + 1)) (n := 1826 * (c9 + 1)) (by omega) (by omega) ?_
            exact ih h11 hax hN0 (c9 + 1) (by rw [← ex9, hc9, nI_1]) (by omega) h
          · exact absurd q90 q
        · have h0 := zn q90 h
          obtain ⟨x81, e81, h0⟩ := zb h0
          rw [hc9] at h0
          obtain ⟨d2, hd2, hd3, hd4⟩ := lsm n (by omega) h0
          have e92 : d2 = d := (nI_eq (by omega) (by omega)).mp (hd2.symm.trans hd)
          refine z_callVi (As := [.ref (ad 4 (V 104 v4.toNatClampNeg).toNatClampNeg)]) (rest := []) (nA := 1) (mc := 0) (ms := 0) (rm := ({ frames := 12, cells := 0, slots := 0, locals := 504 } : Room)) (r0 := o7.2) (pu := fun (u : Adr) => axt N ad u ∧ (∀ k, N k ≤ o7.1.2.2 k)) (G1 := fun u => cx D dA A o7.1.1 o7.1.2.1 o7.1.2.2 u xs) X (cc_isLived0 l X.2.2.2.2.2.2.2.2 X.2.2.2.2.2.2.1 h11 p5 (Or.resolve_left (isLived01 co7) q90) co7) g_1125 g_1127 gs_22 g_1 g_1128 hd_yX11_isLived ⟨rfl, rfl, Nat.le_of_ble_eq_true rfl, Nat.le_of_ble_eq_true rfl⟩ rfl (fun _ hG => cx_recv X (k := 11) (n := 9) rfl rfl h11 hG) rfl (Nat.le_of_ble_eq_true rfl) dX11_liveSecond_39 ⟨by show _ ≤ 4 * d; omega, by show _ ≤ 1826 * d; omega⟩ (fun ad8 h9 => ?_)
          have hax9 := h9.1
          have hax := hax.trans9 hN0 hax9
          try rw [← hax9 5 _ (ex_obj rfl (vp_lt p3)) (by decide)]
          try rw [← hax9 11 0 (ex_obj rfl h11) (by decide)]
          try rw [← hax9 29 0 (ex_arr rfl rfl h11) (by decide)]
          have hN9 := h9.2
          have hN0 := fun k => Nat.le_trans (hN0 k) (hN9 k)
          have h11 := Nat.lt_of_lt_of_le h11 (hN9 11)
          have p3 := vp_mono p3 (hN9 5)
          have p4 := p4.imp_right (fun z => vp_mono z (hN9 4))
          have p5 := vp_mono p5 (hN9 4)
          clear hax9 hN9 h9
          refine z_if_ne (tgt := 48) X dX11_liveSecond_42 (by decide) (fun q => ?_) (fun q => ?_)
          · exact absurd q q90
          · have h := zn q h
            obtain ⟨x11, ex11, h⟩ := zb h
            refine z_iinc (v := x11) (lo' := [(4, .int x11), (5, .ref (ad8 5 v4.toNatClampNeg)), (0, .ref (ad8 11 0)), (1, .int v1), (2, .ref (ad8 29 0)), (3, .int v3)]) X dX11_liveSecond_48 rfl ex11 (by rw [hml]; decide) rfl rfl ?_
            refine z_goto (tgt := 13) X dX11_liveSecond_51 (by decide) ?_
            refine zz.pick (lo' := [(0, .ref (ad8 11 0)), (1, .int v1), (2, .ref (ad8 29 0)), (3, .int v3), (4, .int x11)]) [0, 1, 2, 3, 4] rfl ?_
            exact ih h11 hax hN0 c9 hc9 (by omega) h
set_option maxRecDepth 100000 in
set_option maxHeartbeats 4000000 in
theorem bc_liveSecond {p : Program} {l : Launch} {e : Env} {s : State} {m : MethodId} {args : Array Value} {below : List Frame} {meth : Method} {c : Code} {D : va_G} {dA : Nat → ClassId} {A : Nat → Prop} {xs : va_W} {o : CW × Int32} (X : zc p l s m args meth c cX11_liveSecond RX11 D dA A) (hml : c.maxLocals = 6) (hr : meth.sig.returnType = (some .int)) {d : Nat} (hd : o.2 = nI d) (hd9 : d ≤ 9000) {V : Rho} {L : Lst} {N : Cnt} {ad : Adr} (h11 : 0 < N 11) (h : fc_liveSecond V L N = some o) : zz p l e ({ frames := 13, cells := 4 * d, slots := 1826 * d, locals := 546 } : Room) s m args below meth c A (cx D dA A V L N ad xs) 0 0 (MQ below (va_Qi (fun r (w9 : Adr) => r = o.2 ∧ axt N ad w9 ∧ (∀ k, N k ≤ o.1.2.2 k)) (fun (w9 : Adr) t => cx D dA A o.1.1 o.1.2.1 o.1.2.2 w9 xs t.heap) A) args s (4 * d) (1826 * d) A) 0 [(0, .ref (ad 11 0))] [] [] := by
  have hax := axt.rf N ad
  have hN0 := fun k => Nat.le_refl (N k)
  unfold fc_liveSecond at h
  refine z_iconst (v := 0) X dX11_liveSecond_0 (by decide) ?_
  refine z_istore_n (lo' := [(1, .int 0), (0, .ref (ad 11 0))]) X dX11_liveSecond_1 rfl (by rw [hml]; decide) rfl rfl ?_
  refine z_aload_n X dX11_liveSecond_2 rfl rfl ?_
  refine c_get X 11 3 (v := .ref (ad 29 0)) rx11_ws rfl rfl rfl h11 g_275 rfl dX11_liveSecond_3 ?_
  refine z_astore_n (lo' := [(2, .ref (ad 29 0)), (1, .int 0), (0, .ref (ad 11 0))]) X dX11_liveSecond_6 rfl (by rw [hml]; decide) rfl rfl ?_
  refine z_aload_n X dX11_liveSecond_7 rfl rfl ?_
  refine c_alen X 29 (n := 10) rfl rfl rfl h11 (by decide) dX11_liveSecond_8 ?_
  refine z_istore_n (lo' := [(3, .int 10), (2, .ref (ad 29 0)), (1, .int 0), (0, .ref (ad 11 0))]) X dX11_liveSecond_9 rfl (by rw [hml]; decide) rfl rfl ?_
  refine z_iconst (v := 0) X dX11_liveSecond_10 (by decide) ?_
  refine z_istore (lo' := [(4, .int 0), (3, .int 10), (2, .ref (ad 29 0)), (1, .int 0), (0, .ref (ad 11 0))]) X dX11_liveSecond_11 (by rw [hml]; decide) rfl rfl ?_
  refine zz.pick (lo' := [(0, .ref (ad 11 0)), (1, .int 0), (2, .ref (ad 29 0)), (3, .int 10), (4, .int 0)]) [0, 1, 2, 3, 4] rfl ?_
  exact bc_liveSecond_13 X hml hr hd hd9 FU h11 hax hN0 0 rfl (by decide) h
theorem cc_liveSecond (l : Launch) {D : va_G} {dA : Nat → ClassId} {A : Nat → Prop} {n : Nat} (hst : l.stackTraces = false) (hA : ∀ q, n ≤ q → A q) {V : Rho} {L : Lst} {N : Cnt} {ad : Adr} {xs : va_W} (h11 : 0 < N 11) {o : CW × Int32} {d : Nat} (hd : o.2 = nI d) (hd9 : d ≤ 9000) (h : fc_liveSecond V L N = some o) : Met l yX11_liveSecond (.code yX11_liveSecond cX11_liveSecond 6 (some .int) :: gT) ({ frames := 13, cells := 4 * d, slots := 1826 * d, locals := 546 } : Room) (va_Pc [.ref (ad 11 0)] (zB D dA A n (cx D dA A V L N ad xs))) (va_Qi (fun r (w9 : Adr) => r = o.2 ∧ axt N ad w9 ∧ (∀ k, N k ≤ o.1.2.2 k)) (fun (w9 : Adr) t => cx D dA A o.1.1 o.1.2.1 o.1.2.2 w9 xs t.heap) A) (4 * d) (1826 * d) A :=
  z_met (by decide) hA hst (Nat.le_of_ble_eq_true rfl) rfl rfl (fun p e s m below meth c X hml hr _ => bc_liveSecond X hml hr hd hd9 h11 h)
