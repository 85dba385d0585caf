/-! CONSTRUCTORS: the zone, and what a new MeshBiller holds -/
theorem hd_yX10_init : yX10_init.name = "<init>" ∧ yX10_init.cls ≠ "java/lang/invoke/MethodHandle" ∧ yX10_init.cls ≠ "java/lang/invoke/VarHandle" ∧ (parseMethodDescriptor yX10_init.desc).map (fun d => d.parameters.length) = some 1 := by decide +kernel
theorem hN6 {N : Cnt} : hN N 6 = N 6 + 1 := by
  show nup (nup N 6) 7 6 = _
  rw [nup_ne (by decide), nup_self]
theorem hN7 {N : Cnt} : hN N 7 = N 7 + 1 := nup_self
theorem hN_le {N : Cnt} {k : Nat} : N k ≤ hN N k := Nat.le_trans nup_le nup_le
set_option maxRecDepth 100000 in
set_option maxHeartbeats 4000000 in
theorem ck_Zone (l : Launch) {D : va_G} {dA : Nat → ClassId} {A : Nat → Prop} {n : Nat} (hst : l.stackTraces = false) (hA : ∀ q, n ≤ q → A q) {V : Rho} {L : Lst} {N : Cnt} {ad : Adr} {xs : va_W} {q : Nat} {a1 : Int32} (h11 : N 11 = 0) (hb6 : N 6 < 900) (hb7 : N 7 < 900) : Met l yX10_init (.code yX10_init cX10_init 2 none :: gT) ({ frames := 10, cells := 8, slots := 34, locals := 420 } : Room) (va_Pc [.ref q, .int a1] (zB D dA A n (cx D dA A V L N ad (xs ++ [(q, .inr (13, [.int 0, .null, .null]))])))) (va_Qv (fun (u : Adr) => axt N ad u) (fun u t => cx D dA A (hV (hV V N (20 * (a1 + 1))) (hN N) (10 * (a1 + 1))) (hL (hL L N) (hN N)) (hN (hN N)) u (xs ++ [(q, .inr (13, [.int a1, .ref (u 6 (N 6)), .ref (u 6 (N 6 + 1))]))]) t.heap) A) 8 34 A := by
  refine z_met (by decide) hA hst (Nat.le_of_ble_eq_true rfl) rfl rfl (fun p e s m below meth c X hml hr hnm => ?_)
  refine z_aload_n X dX10_init_0 rfl rfl ?_
  refine z_objInit X g_82 g_42 g_43 ⟨Nat.le_of_ble_eq_true rfl, Nat.le_of_ble_eq_true rfl⟩ dX10_init_1 ?_
  refine z_aload_n X dX10_init_4 rfl rfl ?_
  refine z_iload_n X dX10_init_5 rfl rfl ?_
  refine c_putX X xs.length 13 0 (v := .int a1) (xs' := xs ++ [(q, .inr (13, [.int a1, .null, .null]))]) (ty := .int) rx10_ws rfl tyX10_ok nmX10 rfl xa1 rfl (Or.inr ⟨rfl, hnm, rfl⟩) g_180 rfl rfl rfl xe1 dX10_init_6 ?_
  refine z_aload_n X dX10_init_9 rfl rfl ?_
  refine c_new X 9 (fs := [.null, .int 0]) tyX6 rx6_ws rfl tyX6_ok g_83 g_84 g_6 (fun j hj => by rcases (show j = 0 ∨ j = 1 by omega) with rfl | rfl <;> rfl) ⟨by show _ ≤ 8; omega, by show _ ≤ 34; omega⟩ dX10_init_10 (fun q1 => ?_)
  refine z_dup X dX10_init_13 rfl ?_
  refine z_bipush (v := 20) X dX10_init_14 (by decide) ?_
  refine z_iload_n X dX10_init_16 rfl rfl ?_
  refine z_iconst (v := 1) X dX10_init_17 (by decide) ?_
  refine z_iadd X dX10_init_18 ?_
  refine z_imul X dX10_init_19 ?_
  refine z_callI (As := [.int (20 * (a1 + 1))]) (rest := [.ref q1, .ref q]) (nA := 1) (mc := 3) (ms := 15) (rm := ({ frames := 9, cells := 3, slots := 15, locals := 378 } : Room)) (pu := fun (u : Adr) => axt N ad u ∧ u 6 (N 6) = q1) (G1 := fun u => cx D dA A (hV V N (20 * (a1 + 1))) (hL L N) (hN N) u (xs ++ [(q, .inr (13, [.int a1, .null, .null]))])) X (ck_Hist l X.2.2.2.2.2.2.2.2 X.2.2.2.2.2.2.1 h11 (by omega) (by omega)) g_85 g_86 g_6 g_87 hd_yX6_init ⟨rfl, rfl, Nat.le_of_ble_eq_true rfl, Nat.le_of_ble_eq_true rfl⟩ rfl rfl (Nat.le_of_ble_eq_true rfl) dX10_init_20 ⟨by show _ ≤ 8; omega, by show _ ≤ 34; omega⟩ (fun u1 hu1 => ?_)
  refine c_putX X xs.length 13 1 (v := .ref q1) (xs' := xs ++ [(q, .inr (13, [.int a1, .ref q1, .null]))]) (ty := .object "MeshBiller$RateHistory") rx10_ws rfl tyX10_ok nmX10 rfl xa1 rfl (Or.inr ⟨rfl, hnm, rfl⟩) g_183 rfl rfl rfl xe1 dX10_init_23 ?_
  refine z_aload_n X dX10_init_26 rfl rfl ?_
  refine c_new X 9 (fs := [.null, .int 0]) tyX6 rx6_ws rfl tyX6_ok g_83 g_84 g_6 (fun j hj => by rcases (show j = 0 ∨ j = 1 by omega) with rfl | rfl <;> rfl) ⟨by show _ ≤ 8; omega, by show _ ≤ 34; omega⟩ dX10_init_27 (fun q2 => ?_)
  refine z_dup X dX10_init_30 rfl ?_
  refine z_bipush (v := 10) X dX10_init_31 (by decide) ?_
  refine z_iload_n X dX10_init_33 rfl rfl ?_
  refine z_iconst (v := 1) X dX10_init_34 (by decide) ?_
  refine z_iadd X dX10_init_35 ?_
  refine z_imul X dX10_init_36 ?_
  refine z_callI (As := [.int (10 * (a1 + 1))]) (rest := [.ref q2, .ref q]) (nA := 1) (mc := 3) (ms := 15) (rm := ({ frames := 9, cells := 3, slots := 15, locals := 378 } : Room)) (pu := fun (u : Adr) => axt (hN N) u1 u ∧ u 6 (hN N 6) = q2) (G1 := fun u => cx D dA A (hV (hV V N (20 * (a1 + 1))) (hN N) (10 * (a1 + 1))) (hL (hL L N) (hN N)) (hN (hN N)) u (xs ++ [(q, .inr (13, [.int a1, .ref q1, .null]))])) X (ck_Hist l X.2.2.2.2.2.2.2.2 X.2.2.2.2.2.2.1 (N := hN N) h11 (by rw [hN6]; omega) (by rw [hN7]; omega)) g_85 g_86 g_6 g_87 hd_yX6_init ⟨rfl, rfl, Nat.le_of_ble_eq_true rfl, Nat.le_of_ble_eq_true rfl⟩ rfl rfl (Nat.le_of_ble_eq_true rfl) dX10_init_37 ⟨by show _ ≤ 8; omega, by show _ ≤ 34; omega⟩ (fun u2 hu2 => ?_)
  refine c_putX X xs.length 13 2 (v := .ref q2) (xs' := xs ++ [(q, .inr (13, [.int a1, .ref q1, .ref q2]))]) (ty := .object "MeshBiller$RateHistory") rx10_ws rfl tyX10_ok nmX10 rfl xa1 rfl (Or.inr ⟨rfl, hnm, rfl⟩) g_184 rfl rfl rfl xe1 dX10_init_40 ?_
  refine zz.widen (k := 8) (n := 34) (by omega) (by omega) ?_
  have e1 : u2 6 (N 6) = q1 := (hu2.1 6 (N 6) (ex_k (by decide) (by rw [hN6]; omega)) (by decide)).trans hu1.2
  have e2 : u2 6 (N 6 + 1) = q2 := by rw [← hN6]; exact hu2.2
  exact z_vret X hr (fun t hG hF _ => ⟨⟨u2, rfl, hu1.1.comp (hu2.1.mono (fun _ => hN_le)), by rw [← e1, ← e2] at hG; exact hG⟩, hF⟩) dX10_init_43
/-- what a new one holds -/
def VB : Rho := fun c i =>
  if c = 200 then (if i < 3 then nI i else 0)
  else if c = 121 ∨ c = 141 then (if i < 6 then (if i % 2 = 0 then 20 * (nI (i / 2) + 1) else 10 * (nI (i / 2) + 1)) else 0)
  else if c = 40 then (if i < 8 then nI i else 0)
  else if c = 41 then (if i < 8 then nI (i % 3) else 0)
  else if c = 42 then (if i < 8 then 3 else 0)
  else if c = 180 then (if i < 4 then nI i else 0)
  else if c = 100 then (if i < 10 then nI i else 0)
  else if c = 101 then (if i < 10 then nI (i % 8) else 0)
  else if c = 102 then (if i < 10 then nI (i % 4) else 0)
  else if c = 103 ∨ c = 104 then (if i < 10 then -1 else 0)
  else if c = 227 then (if i = 0 then 20 else 0)
  else 0
def LB : Lst := fun k i => if k = 16 ∧ i < 6 then [nI i] else []
def nB (h z c w p m : Nat) : Cnt := fun k => [0, 0, c, 0, 0, p, h, h, 0, w, z, m].getD k 0
theorem nB_big {h z c w p m k : Nat} (hk : 12 ≤ k) : nB h z c w p m k = 0 := by
  unfold nB
  rw [List.getD_eq_getElem?_getD, List.getElem?_eq_none (by simp; omega)]
  rfl
theorem nB_ext {f : Cnt} {h z c w p m : Nat} (hs : ∀ k, k < 12 → f k = nB h z c w p m k) (hb : ∀ k, 12 ≤ k → f k = 0) : f = nB h z c w p m := by
  funext k
  rcases Nat.lt_or_ge k 12 with q | q
  · exact hs k q
  · rw [nB_big q, hb k q]

theorem nB_z {h z c w p m : Nat} : nup (nB h z c w p m) 10 = nB h (z + 1) c w p m := by
  refine nB_ext (fun k hk => ?_) (fun k hk => ?_)
  · have : k = 0 ∨ k = 1 ∨ k = 2 ∨ k = 3 ∨ k = 4 ∨ k = 5 ∨ k = 6 ∨ k = 7 ∨ k = 8 ∨ k = 9 ∨ k = 10 ∨ k = 11 := by omega
    rcases this with rfl | rfl | rfl | rfl | rfl | rfl | rfl | rfl | rfl | rfl | rfl | rfl <;> rfl
  · rw [nup_ne (by omega), nB_big hk]
theorem nB_c {h z c w p m : Nat} : nup (nB h z c w p m) 2 = nB h z (c + 1) w p m := by
  refine nB_ext (fun k hk => ?_) (fun k hk => ?_)
  · have : k = 0 ∨ k = 1 ∨ k = 2 ∨ k = 3 ∨ k = 4 ∨ k = 5 ∨ k = 6 ∨ k = 7 ∨ k = 8 ∨ k = 9 ∨ k = 10 ∨ k = 11 := by omega
    rcases this with rfl | rfl | rfl | rfl | rfl | rfl | rfl | rfl | rfl | rfl | rfl | rfl <;> rfl
  · rw [nup_ne (by omega), nB_big hk]
theorem nB_w {h z c w p m : Nat} : nup (nB h z c w p m) 9 = nB h z c (w + 1) p m := by
  refine nB_ext (fun k hk => ?_) (fun k hk => ?_)
  · have : k = 0 ∨ k = 1 ∨ k = 2 ∨ k = 3 ∨ k = 4 ∨ k = 5 ∨ k = 6 ∨ k = 7 ∨ k = 8 ∨ k = 9 ∨ k = 10 ∨ k = 11 := by omega
    rcases this with rfl | rfl | rfl | rfl | rfl | rfl | rfl | rfl | rfl | rfl | rfl | rfl <;> rfl
  · rw [nup_ne (by omega), nB_big hk]
theorem nB_p {h z c w p m : Nat} : nup (nB h z c w p m) 5 = nB h z c w (p + 1) m := by
  refine nB_ext (fun k hk => ?_) (fun k hk => ?_)
  · have : k = 0 ∨ k = 1 ∨ k = 2 ∨ k = 3 ∨ k = 4 ∨ k = 5 ∨ k = 6 ∨ k = 7 ∨ k = 8 ∨ k = 9 ∨ k = 10 ∨ k = 11 := by omega
    rcases this with rfl | rfl | rfl | rfl | rfl | rfl | rfl | rfl | rfl | rfl | rfl | rfl <;> rfl
  · rw [nup_ne (by omega), nB_big hk]
theorem nB_m {h z c w p m : Nat} : nup (nB h z c w p m) 11 = nB h z c w p (m + 1) := by
  refine nB_ext (fun k hk => ?_) (fun k hk => ?_)
  · have : k = 0 ∨ k = 1 ∨ k = 2 ∨ k = 3 ∨ k = 4 ∨ k = 5 ∨ k = 6 ∨ k = 7 ∨ k = 8 ∨ k = 9 ∨ k = 10 ∨ k = 11 := by omega
    rcases this with rfl | rfl | rfl | rfl | rfl | rfl | rfl | rfl | rfl | rfl | rfl | rfl <;> rfl
  · rw [nup_ne (by omega), nB_big hk]
theorem nB_h {h z c w p m : Nat} : hN (nB h z c w p m) = nB (h + 1) z c w p m := by
  refine nB_ext (fun k hk => ?_) (fun k hk => ?_)
  · have : k = 0 ∨ k = 1 ∨ k = 2 ∨ k = 3 ∨ k = 4 ∨ k = 5 ∨ k = 6 ∨ k = 7 ∨ k = 8 ∨ k = 9 ∨ k = 10 ∨ k = 11 := by omega
    rcases this with rfl | rfl | rfl | rfl | rfl | rfl | rfl | rfl | rfl | rfl | rfl | rfl <;> rfl
  · show nup (nup _ 6) 7 k = 0
    rw [nup_ne (by omega), nup_ne (by omega), nB_big hk]
theorem cs_own {V : Rho} {k i : Nat} {x : Int32} (h : V k i = x) : cs V k i x = V := by
  funext c j
  unfold cs
  by_cases q : c = k ∧ j = i
  · rw [if_pos q, q.1, q.2, h]
  · rw [if_neg q]
theorem hV_own {V : Rho} {N : Cnt} {a : Int32} (h1 : V 121 (N 6) = a) (h2 : V 140 (N 7) = 0) (h3 : V 141 (N 7) = a) : hV V N a = V := by
  unfold hV
  rw [cs_own h1, cs_own h2, cs_own h3]
theorem hL_own {L : Lst} {N : Cnt} (h : L 16 (N 6) = [nI (N 7)]) : hL L N = L := by
  funext k i
  unfold hL lput
  by_cases q : k = 16 ∧ i = N 6
  · rw [if_pos q, q.1, q.2, h]
  · rw [if_neg q, if_neg q]
theorem lput_own {L : Lst} {k i : Nat} {v : List Int32} (h : L k i = v) : lput L k i v = L := by
  funext a b
  unfold lput
  by_cases q : a = k ∧ b = i
  · rw [if_pos q, q.1, q.2, h]
  · rw [if_neg q]
/-- the two histories of a zone, in VB -/
theorem zone_own {z : Nat} (hz : z < 3) {N : Cnt} (h6 : N 6 = 2 * z) (h7 : N 7 = 2 * z) : hV (hV VB N (20 * (nI z + 1))) (hN N) (10 * (nI z + 1)) = VB ∧ hL (hL LB N) (hN N) = LB := by
  have e : hV VB N (20 * (nI z + 1)) = VB := by
    refine hV_own ?_ ?_ ?_
    · rw [h6]; rcases (show z = 0 ∨ z = 1 ∨ z = 2 by omega) with rfl | rfl | rfl <;> decide
    · rw [h7]; rfl
    · rw [h7]; rcases (show z = 0 ∨ z = 1 ∨ z = 2 by omega) with rfl | rfl | rfl <;> decide
  rw [e]
  have e2 : hL LB N = LB := hL_own (by rw [h6, h7]; rcases (show z = 0 ∨ z = 1 ∨ z = 2 by omega) with rfl | rfl | rfl <;> decide)
  rw [e2]
  refine ⟨hV_own ?_ ?_ ?_, hL_own ?_⟩
  · rw [hN6, h6]; rcases (show z = 0 ∨ z = 1 ∨ z = 2 by omega) with rfl | rfl | rfl <;> decide
  · rw [hN7, h7]; rfl
  · rw [hN7, h7]; rcases (show z = 0 ∨ z = 1 ∨ z = 2 by omega) with rfl | rfl | rfl <;> decide
  · rw [hN6, hN7, h6, h7]; rcases (show z = 0 ∨ z = 1 ∨ z = 2 by omega) with rfl | rfl | rfl <;> decide
section MB
variable {D : va_G} {dA : Nat → ClassId} {A : Nat → Prop} {ad ad' : Adr} {xs : va_W} {H : Heap} {q q2 : Nat} {z c w p : Nat}
theorem mk_Zone (hz : z < 3) (ead : ad' = adu ad 10 z q) (hG : cx D dA A VB LB (nB (2 * z + 2) z 0 0 0 0) ad (xs ++ [(q, .inr (13, [.int (nI z), .ref (ad 6 (2 * z)), .ref (ad 6 (2 * z + 1))]))]) H) : cx D dA A VB LB (nB (2 * z + 2) (z + 1) 0 0 0 0) ad' xs H := by
  subst ead
  have h := cx_new1 (k := 10) (V' := VB) (by omega) hG (fun _ _ _ _ _ _ => rfl) ?_ (fun f hf => ?_) (cnum_nup hG.2.2.2.2.2.2.2.2.1 (by show ¬ 100000 ≤ z; omega) (by decide) (fun y => absurd y (by show ¬ 0 < 0; omega)) (fun y => absurd y (by decide)) (fun _ => Nat.le_refl _))
  · rw [nB_z] at h
    exact h
  · show _ = [cv (adu ad 10 z q) 0 (VB 200 z) z, cv (adu ad 10 z q) 4006 (VB 201 z) z, cv (adu ad 10 z q) 5006 (VB 202 z) z]
    have e : VB 200 z = nI z := if_pos hz
    rw [e]
    show _ = ([.int (nI z), .ref (adu ad 10 z q 6 (2 * z)), .ref (adu ad 10 z q 6 (2 * z + 1))] : List Value)
    rw [adu_ne (by omega), adu_ne (by omega)]
  · have hf : f < 3 := hf
    rcases (show f = 0 ∨ f = 1 ∨ f = 2 by omega) with rfl | rfl | rfl <;> trivial
theorem mk_Cell (hc : c < 8) (ead : ad' = adu ad 2 c q) (hG : cx D dA A VB LB (nB 6 3 c 0 0 0) ad (xs ++ [(q, .inr (5, [.int (nI c), .ref (ad 10 (nI (c % 3)).toNatClampNeg), .int 3, .int 0]))]) H) : cx D dA A VB LB (nB 6 3 (c + 1) 0 0 0) ad' xs H := by
  subst ead
  have e1 : VB 41 c = nI (c % 3) := if_pos hc
  have h := cx_new1 (k := 2) (V' := VB) (by omega) hG (fun _ _ _ _ _ _ => rfl) ?_ (fun f hf => ?_) (cnum_nup hG.2.2.2.2.2.2.2.2.1 (by show ¬ 100000 ≤ c; omega) (by decide) (fun y => absurd y (by show ¬ 0 < 0; omega)) (fun y => absurd y (by decide)) (fun y => absurd y (by decide)))
  · rw [nB_c] at h
    exact h
  · show _ = [cv (adu ad 2 c q) 0 (VB 40 c) c, cv (adu ad 2 c q) 1010 (VB 41 c) c, cv (adu ad 2 c q) 0 (VB 42 c) c, cv (adu ad 2 c q) 0 (VB 43 c) c]
    have e : VB 40 c = nI c := if_pos hc
    have e2 : VB 42 c = 3 := if_pos hc
    rw [e, e1, e2]
    show _ = ([.int (nI c), .ref (adu ad 2 c q 10 (nI (c % 3)).toNatClampNeg), .int 3, .int 0] : List Value)
    rw [adu_ne (by omega)]
  · have hf : f < 4 := hf
    rcases (show f = 0 ∨ f = 1 ∨ f = 2 ∨ f = 3 by omega) with rfl | rfl | rfl | rfl
    · trivial
    · show vp_in (VB 41 c) 3
      rw [e1]
      exact vp_in_nI (Nat.mod_lt _ (by decide)) (by omega)
    · trivial
    · trivial
theorem mk_Wallet (hw : w < 4) (ead : ad' = adu (adu ad 9 w q) 15 w q2) (hG : cx D dA A VB LB (nB 6 3 8 w 0 0) ad (xs ++ [(q, .inr (12, [.int (nI w), .ref q2, .int 0, .int 0]))] ++ [(q2, .inr (2, [.int 0, .ref (dA 99), .int 0]))]) H) : cx D dA A VB LB (nB 6 3 8 (w + 1) 0 0) ad' xs H := by
  subst ead
  have h := cx_new2 (k := 9) (lk := 15) (V' := VB) (by omega) hG (fun _ _ _ _ _ _ => rfl) ?_ (fun f hf => ?_) (cnum_nup hG.2.2.2.2.2.2.2.2.1 (by show ¬ 100000 ≤ w; omega) (by decide) (fun y => absurd y (by show ¬ 0 < 0; omega)) (fun y => absurd y (by decide)) (fun y => absurd y (by decide)))
  · rw [nB_w, lput_own (show LB 15 _ = [] from if_neg (fun y => by omega))] at h
    exact h
  · show _ = [cv (adu (adu ad 9 w q) 15 w q2) 0 (VB 180 w) w, cv (adu (adu ad 9 w q) 15 w q2) 3015 (VB 181 w) w, cv (adu (adu ad 9 w q) 15 w q2) 0 (VB 182 w) w, cv (adu (adu ad 9 w q) 15 w q2) 0 (VB 183 w) w]
    have e : VB 180 w = nI w := if_pos hw
    rw [e]
    show _ = ([.int (nI w), .ref (adu (adu ad 9 w q) 15 w q2 15 w), .int 0, .int 0] : List Value)
    rw [adu_self]
  · have hf : f < 4 := hf
    rcases (show f = 0 ∨ f = 1 ∨ f = 2 ∨ f = 3 by omega) with rfl | rfl | rfl | rfl <;> trivial
theorem mk_Phone (hp : p < 10) (ead : ad' = adu ad 5 p q) (hG : cx D dA A VB LB (nB 6 3 8 4 p 0) ad (xs ++ [(q, .inr (8, [.int (nI p), .ref (ad 2 (nI (p % 8)).toNatClampNeg), .ref (ad 9 (nI (p % 4)).toNatClampNeg), .int (-1), .null, .int 0, .int 0]))]) H) : cx D dA A VB LB (nB 6 3 8 4 (p + 1) 0) ad' xs H := by
  subst ead
  have e1 : VB 101 p = nI (p % 8) := if_pos hp
  have e2 : VB 102 p = nI (p % 4) := if_pos hp
  have e4 : VB 104 p = -1 := if_pos hp
  have h := cx_new1 (k := 5) (V' := VB) (by omega) hG (fun _ _ _ _ _ _ => rfl) ?_ (fun f hf => ?_) (cnum_nup hG.2.2.2.2.2.2.2.2.1 (by show ¬ 100000 ≤ p; omega) (by decide) (fun y => absurd y (by show ¬ 0 < 0; omega)) (fun y => absurd y (by decide)) (fun y => absurd y (by decide)))
  · rw [nB_p] at h
    exact h
  · show _ = [cv (adu ad 5 p q) 0 (VB 100 p) p, cv (adu ad 5 p q) 1002 (VB 101 p) p, cv (adu ad 5 p q) 1009 (VB 102 p) p, cv (adu ad 5 p q) 0 (VB 103 p) p, cv (adu ad 5 p q) 2004 (VB 104 p) p, cv (adu ad 5 p q) 0 (VB 105 p) p, cv (adu ad 5 p q) 0 (VB 106 p) p]
    have e : VB 100 p = nI p := if_pos hp
    have e3 : VB 103 p = -1 := if_pos hp
    rw [e, e1, e2, e3, e4]
    show _ = ([.int (nI p), .ref (adu ad 5 p q 2 (nI (p % 8)).toNatClampNeg), .ref (adu ad 5 p q 9 (nI (p % 4)).toNatClampNeg), .int (-1), .null, .int 0, .int 0] : List Value)
    rw [adu_ne (by omega), adu_ne (by omega)]
  · have hf : f < 7 := hf
    rcases (show f = 0 ∨ f = 1 ∨ f = 2 ∨ f = 3 ∨ f = 4 ∨ f = 5 ∨ f = 6 by omega) with rfl | rfl | rfl | rfl | rfl | rfl | rfl
    · trivial
    · show vp_in (VB 101 p) 8
      rw [e1]
      exact vp_in_nI (Nat.mod_lt _ (by decide)) (by omega)
    · show vp_in (VB 102 p) 4
      rw [e2]
      exact vp_in_nI (Nat.mod_lt _ (by decide)) (by omega)
    · trivial
    · show VB 104 p = -1 ∨ _
      exact Or.inl e4
    · trivial
    · trivial
end MB
