/-! THE LAW'S OWN WALK: a net from its start to its end -/
theorem nB_none {k : Nat} : nB 0 0 0 0 0 0 k = 0 := by
  rcases Nat.lt_or_ge k 12 with q | q
  · have : k = 0 ∨ k = 1 ∨ k = 2 ∨ k = 3 ∨ k = 4 ∨ k = 5 ∨ k = 6 ∨ k = 7 ∨ k = 8 ∨ k = 9 ∨ k = 10 ∨ k = 11 := by omega
    rcases this with rfl | rfl | rfl | rfl | rfl | rfl | rfl | rfl | rfl | rfl | rfl | rfl <;> rfl
  · exact nB_big q
theorem cx_void {D : va_G} {dA : Nat → ClassId} {A : Nat → Prop} {H : Heap} : cx D dA A VB LB (nB 0 0 0 0 0 0) (fun _ _ => 0) [] H := by
  have no : ∀ {i k : Nat}, i < nB 0 0 0 0 0 0 k → False := fun h => by rw [nB_none] at h; exact Nat.not_lt_zero _ h
  refine ⟨fun k i _ h => (no h).elim, fun k i _ _ h => (no h).elim, fun k _ _ h => (no h).elim, fun k i _ _ h => (no h.1.2).elim, fun k i h => (no h.1.2).elim, fun k i f _ h => (no h).elim, fun k i x _ _ h => (no h).elim, fun k i _ _ h => (no h).elim, ⟨fun h => (no h).elim, Nat.le_refl _, Nat.le_refl _, fun k => by rw [nB_none]; exact Nat.zero_le _⟩, fun j q hj => (by cases hj), ⟨fun i j p q hi => (by cases hi), fun j q hj => (by cases hj)⟩, fun j q hj => (by cases hj)⟩
/-- a new net keeps what stays -/
theorem JK_new : JK ((VB, LB, nB 6 3 8 4 10 1), fun _ _ => 0) (ρS 8 3 10) 0 := by
  have n0 : nlg (ρS 8 3 10) = 0 := by decide
  have n1 : nbd (ρS 8 3 10) = 0 := by decide
  refine ⟨fun _ _ => 0, fun _ => 0, 0, 0, 0, ⟨⟨Rel_new, ⟨fun k hk => ?_, ⟨?_, ?_, fun w hw => ?_⟩, fun b hb => ?_⟩, ⟨fun c hc => ?_, fun p hp => ?_⟩⟩, fun k hk => ?_, ⟨?_, ?_, ?_, ?_, ?_⟩, ?_⟩, Nat.le_refl _, Nat.le_refl _, Nat.le_refl _⟩
  · rw [n0] at hk
    exact absurd hk (Nat.not_lt_zero k)
  · rw [n0]; decide
  · rw [n0]; decide
  · show ¬ (0 : Int32) < 0
    decide
  · rw [n1] at hb
    exact absurd hb (Nat.not_lt_zero b)
  · have e : cntN (ptR (ρS 8 3 10) (nI c)) 10 = cntN (fun _ => false) 10 := cntN_congr (fun p hp => by
      unfold ptR
      rw [show ρS 8 3 10 9 p = -1 from if_pos hp, show decide (¬ (-1 : Int32) = -1) = false by decide, Bool.false_and])
    rw [e]
    decide
  · rw [show ρS 8 3 10 8 p = -1 from if_pos hp]
    decide
  · exact absurd hk (Nat.not_lt_zero k)
  · show (0 : Int32) = nI 0
    decide
  · show (0 : Int32) = nI 0
    decide
  · show (0 : Int32) = nI 0
    decide
  · show (0 : Int32) = nI 0
    decide
  · show (0 : Int32) = nI 0
    decide
  · show (0 : Nat) ≤ 64
    decide
set_option maxRecDepth 100000 in
set_option maxHeartbeats 4000000 in
theorem ll_net (l : Launch) {D : va_G} {dA : Nat → ClassId} {A : Nat → Prop} {n : Nat} {b Ls : Nat} {sc : Nat → Int32} (hst : l.stackTraces = false) (hA : ∀ q, n ≤ q → A q) (hbA : ¬ A b) (hL : Ls < 2 ^ 31) {at0 : Nat} (hat : at0 ≤ 1000) : Met l yL_net (.code yL_net cL_net 9 (some .boolean) :: gT) nRm (va_Pc [.ref b, .int (nI at0)] (zBL D dA A n b Ls sc (fun _ => True))) (va_Qi (fun r (_ : Unit) => r = 1 ∧ True) (fun _ _ => True) A) 23264 1785057 A := by
  refine z_metL (by decide) hA hbA hst (Nat.le_of_ble_eq_true rfl) rfl rfl (fun p e s m below meth c X Y hml hr => ?_)
  refine zz.conseq (G' := cx D dA A VB LB (nB 0 0 0 0 0 0) (fun _ _ => 0) []) (fun H _ => cx_void) ?_
  refine c_new X 14 (fs := [.null, .null, .null, .null, .null, .null, .null, .int 0, .int 0]) tyX11 rx11_ws rfl tyX11_ok n_38 n_39 n_1 (fun j hj => by rcases (show j = 0 ∨ j = 1 ∨ j = 2 ∨ j = 3 ∨ j = 4 ∨ j = 5 ∨ j = 6 ∨ j = 7 ∨ j = 8 by omega) with rfl | rfl | rfl | rfl | rfl | rfl | rfl | rfl | rfl <;> rfl) ⟨by show _ ≤ 23264; omega, by show _ ≤ 1785057; omega⟩ dL_net_0 (fun q1 => ?_)
  refine z_dup X dL_net_3 rfl ?_
  refine z_callI (As := []) (rest := [.ref q1]) (nA := 0) (mc := 60) (ms := 275) (pu := fun (u : Adr) => u 11 0 = q1) (G1 := fun u => cx D dA A VB LB (nB 6 3 8 4 10 1) u []) X (ck_Mesh l X.2.2.2.2.2.2.2.2 X.2.2.2.2.2.2.1 (xs := [])) n_40 n_41 n_1 n_42 hd_yX11_init ⟨rfl, rfl, Nat.le_of_ble_eq_true rfl, Nat.le_of_ble_eq_true rfl⟩ rfl rfl (Nat.le_of_ble_eq_true rfl) dL_net_4 ⟨by show _ ≤ 23264; omega, by show _ ≤ 1785057; omega⟩ (fun u hu => ?_)
  rw [← hu]
  refine z_astore_n X dL_net_7 rfl (by rw [hml]; decide) rfl rfl ?_
  refine z_bipush (v := 64) X dL_net_8 (by decide) ?_
  refine c_newIX X (N' := 64) (by decide) (by decide) (by decide) ⟨by show _ ≤ 23264; omega, by show _ ≤ 1785057; omega⟩ dL_net_10 (fun qa => ?_)
  refine z_astore_n X dL_net_12 rfl (by rw [hml]; decide) rfl rfl ?_
  refine z_bipush (v := 64) X dL_net_13 (by decide) ?_
  refine c_newIX X (N' := 64) (by decide) (by decide) (by decide) ⟨by show _ ≤ 23264; omega, by show _ ≤ 1785057; omega⟩ dL_net_15 (fun qb => ?_)
  refine z_astore X dL_net_17 (by rw [hml]; decide) rfl rfl ?_
  refine z_iconst (v := 5) X dL_net_19 (by decide) ?_
  refine c_newIX X (N' := 5) (by decide) (by decide) (by decide) ⟨by show _ ≤ 23264; omega, by show _ ≤ 1785057; omega⟩ dL_net_20 (fun qc => ?_)
  refine z_astore X dL_net_22 (by rw [hml]; decide) rfl rfl ?_
  refine z_iconst (v := nI 0) X dL_net_24 (by decide) ?_
  refine z_istore X dL_net_25 (by rw [hml]; decide) rfl rfl ?_
  obtain ⟨ar, har0, har1, har2⟩ : ∃ ar : Nat → Nat, ar 0 = qa ∧ ar 1 = qb ∧ ar 2 = qc := ⟨fun i => [qa, qb, qc].getD i 0, rfl, rfl, rfl⟩
  subst har0 har1 har2
  refine zz.conseq (G' := gw D dA A ((VB, LB, nB 6 3 8 4 10 1), fun _ _ => 0) (u 11 0) ar) (fun H hG => ⟨u, ⟨rfl, Nat.zero_lt_one⟩, hG⟩) ?_
  refine zz.pick (lo' := [(0, .ref b), (1, .int (nI at0)), (2, .ref (u 11 0)), (3, .ref (ar 0)), (4, .ref (ar 1)), (5, .ref (ar 2)), (6, .int (nI 0))]) [0, 1, 2, 3, 4, 5, 6] rfl ?_
  refine n_27 X Y hml hL hat (fun σ ρ cells slots hK hc => ?_) 80 0 _ (ρS 8 3 10) _ _ (by omega) JK_new ⟨by omega, by omega⟩
  -- the end of a net
  have hE80 : E26 ρ ≤ 80 := E26_le
  obtain ⟨hc1, hc2⟩ := hc
  obtain ⟨γ, ε, M, t, nw, hJ, b1, b2, b3⟩ := hK
  obtain ⟨⟨V, L, N⟩, a⟩ := σ
  refine z_aload_n X dL_net_217 rfl rfl ?_
  refine z_aload X dL_net_218 rfl ?_
  refine z_lSi (As := [.ref (u 11 0), .ref (ar 2)]) (rest := []) (nA := 2) (mc := 0) (ms := 0) (r0 := 1) (pu := fun (_ : Unit) => True) (G1 := fun _ => gw D dA A ((V, L, N), a) (u 11 0) ar) X Y (ll_isWhole l X.2.2.2.2.2.2.2.2 X.2.2.2.2.2.2.1 Y.2.2.2 (w_isWhole hJ (by omega) (by omega))) n_941 n_942 n_0 n_943 nh_yL_isWhole ⟨rfl, rfl, Nat.le_of_ble_eq_true rfl, Nat.le_of_ble_eq_true rfl⟩ rfl rfl (Nat.le_of_ble_eq_true rfl) dL_net_220 ⟨by show _ ≤ 23264; omega, by show _ ≤ 1785057; omega⟩ (fun _ _ => ?_)
  refine z_if_eq (tgt := 240) X dL_net_223 (by decide) (fun z => absurd z (by decide)) (fun _ => ?_)
  refine z_aload_n X dL_net_226 rfl rfl ?_
  refine z_aload_n X dL_net_227 rfl rfl ?_
  refine z_aload X dL_net_228 rfl ?_
  refine z_lSi (As := [.ref (u 11 0), .ref (ar 0), .ref (ar 2)]) (rest := []) (nA := 3) (mc := 0) (ms := 0) (r0 := 1) (pu := fun (_ : Unit) => True) (G1 := fun _ => gw D dA A ((V, L, N), a) (u 11 0) ar) X Y (ll_areCalls l X.2.2.2.2.2.2.2.2 X.2.2.2.2.2.2.1 Y.2.2.2 (w_areCalls hJ (by omega))) n_960 n_961 n_0 n_962 nh_yL_areCalls ⟨rfl, rfl, Nat.le_of_ble_eq_true rfl, Nat.le_of_ble_eq_true rfl⟩ rfl rfl (Nat.le_of_ble_eq_true rfl) dL_net_230 ⟨by show _ ≤ 23264; omega, by show _ ≤ 1785057; omega⟩ (fun _ _ => ?_)
  refine z_if_eq (tgt := 240) X dL_net_233 (by decide) (fun z => absurd z (by decide)) (fun _ => ?_)
  refine z_iconst (v := 1) X dL_net_236 (by decide) ?_
  refine z_goto (tgt := 241) X dL_net_237 (by decide) ?_
  refine zz.widen (k := 23264) (n := 1785057) (by omega) (by omega) ?_
  exact z_iret X hr (by decide) (fun t _ hF _ => ⟨⟨_, (), rfl, ⟨rfl, trivial⟩, trivial⟩, hF⟩) dL_net_241
abbrev lRm : Room := { frames := 19, cells := 600074, slots := 7301550, locals := 808 }
/-- the law: three nets -/
theorem law_walk {p : Program} {l : Launch} {e : Env} {s : State} {m : MethodId} {args : Array Value} {below : List Frame} {meth : Method} {c : Code} {D : va_G} {dA : Nat → ClassId} {A : Nat → Prop} {b Ls : Nat} {sc : Nat → Int32} {Q : State → Prop} (X : zc p l s m args meth c cL_law RL D dA A) (Y : zY s A b Ls sc) (hL : Ls < 2 ^ 31)
    (kend : ∀ (lo : List (Nat × Value)) (cells slots : Nat), cells ≤ 600074 → slots ≤ 7301550 → zz p l e lRm s m args below meth c A (fun _ => True) cells slots Q 28 lo [] []) : zz p l e lRm s m args below meth c A (fun _ => True) 0 0 Q 0 [(0, .ref b)] [] [] := by
  refine z_aload_n X dL_law_0 rfl rfl ?_
  refine z_iconst (v := nI 0) X dL_law_1 (by decide) ?_
  refine z_lSi (As := [.ref b, .int (nI 0)]) (rest := []) (nA := 2) (mc := 23264) (ms := 1785057) (r0 := 1) (pu := fun (_ : Unit) => True) (G1 := fun _ _ => True) X Y (ll_net l X.2.2.2.2.2.2.2.2 X.2.2.2.2.2.2.1 Y.2.2.2 hL (by decide)) n_35 n_36 n_0 n_37 nh_yL_net ⟨rfl, rfl, Nat.le_of_ble_eq_true rfl, Nat.le_of_ble_eq_true rfl⟩ rfl rfl (Nat.le_of_ble_eq_true rfl) dL_law_2 ⟨by show _ ≤ 600074; omega, by show _ ≤ 7301550; omega⟩ (fun _ _ => ?_)
  refine z_if_eq (tgt := 32) X dL_law_5 (by decide) (fun z => absurd z (by decide)) (fun _ => ?_)
  refine z_aload_n X dL_law_8 rfl rfl ?_
  refine z_sipush (v := nI 245) X dL_law_9 (by decide) ?_
  refine z_lSi (As := [.ref b, .int (nI 245)]) (rest := []) (nA := 2) (mc := 23264) (ms := 1785057) (r0 := 1) (pu := fun (_ : Unit) => True) (G1 := fun _ _ => True) X Y (ll_net l X.2.2.2.2.2.2.2.2 X.2.2.2.2.2.2.1 Y.2.2.2 hL (by decide)) n_35 n_36 n_0 n_37 nh_yL_net ⟨rfl, rfl, Nat.le_of_ble_eq_true rfl, Nat.le_of_ble_eq_true rfl⟩ rfl rfl (Nat.le_of_ble_eq_true rfl) dL_law_12 ⟨by show _ ≤ 600074; omega, by show _ ≤ 7301550; omega⟩ (fun _ _ => ?_)
  refine z_if_eq (tgt := 32) X dL_law_15 (by decide) (fun z => absurd z (by decide)) (fun _ => ?_)
  refine z_aload_n X dL_law_18 rfl rfl ?_
  refine z_sipush (v := nI 490) X dL_law_19 (by decide) ?_
  refine z_lSi (As := [.ref b, .int (nI 490)]) (rest := []) (nA := 2) (mc := 23264) (ms := 1785057) (r0 := 1) (pu := fun (_ : Unit) => True) (G1 := fun _ _ => True) X Y (ll_net l X.2.2.2.2.2.2.2.2 X.2.2.2.2.2.2.1 Y.2.2.2 hL (by decide)) n_35 n_36 n_0 n_37 nh_yL_net ⟨rfl, rfl, Nat.le_of_ble_eq_true rfl, Nat.le_of_ble_eq_true rfl⟩ rfl rfl (Nat.le_of_ble_eq_true rfl) dL_law_22 ⟨by show _ ≤ 600074; omega, by show _ ≤ 7301550; omega⟩ (fun _ _ => ?_)
  refine z_if_eq (tgt := 32) X dL_law_25 (by decide) (fun z => absurd z (by decide)) (fun _ => ?_)
  exact kend _ _ _ (by omega) (by omega)
