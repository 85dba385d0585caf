/-! THE LAW: lineAt's static method -/
theorem g_1258 : Cond.methodLink RL 115 yX11_lineAt ∈ gT := gT_t 1258 (by decide +kernel) rfl
theorem g_1259 : Cond.instanceMethod yX11_lineAt ∈ gT := gT_t 1259 (by decide +kernel) rfl
theorem g_1260 : Cond.selects RX11 yX11_lineAt yX11_lineAt ∈ gT := gT_t 1260 (by decide +kernel) rfl
theorem g_1261 : Cond.code yX11_lineAt cX11_lineAt 5 (some .int) ∈ gT := gT_t 1261 (by decide +kernel) rfl
theorem hd_yX11_lineAt : yX11_lineAt.cls = RX11 ∧ yX11_lineAt.cls ≠ "java/lang/invoke/MethodHandle" ∧ yX11_lineAt.cls ≠ "java/lang/invoke/VarHandle" ∧ (parseMethodDescriptor yX11_lineAt.desc).map (fun d => d.parameters.length) = some 2 := by decide +kernel
-- lineAt
set_option maxRecDepth 100000 in
set_option maxHeartbeats 4000000 in
theorem cw_lineAt (l : Launch) {D : va_G} {dA : Nat → ClassId} {A : Nat → Prop} {n : Nat} (hst : l.stackTraces = false) (hA : ∀ q, n ≤ q → A q) {V : Rho} {L : Lst} {N : Cnt} {ad : Adr} {xs : va_W} {XC : String → State → State → Prop} (h11 : 0 < N 11) {q : Nat} {f : Nat → Int64} {a1 : Int32} {a2 : Int32} {o : (Int32) ⊕ Nat} (hcd : ∀ e, o = .inr e → ¬ cd1 e = 0) (h : fc_lineAt V L N a1 a2 = some o) : vx_Met l yL_lineAt (.codeWith yL_lineAt cL_lineAt 5 (some .int) (hdT [(1, 13, 13, 10)]) :: gT) ({ frames := 260, cells := 14, slots := 400, locals := 2600 } : Room) (va_Pc [.ref (ad 11 0), .int a1, .int a2, .ref q] (zBN D dA A n (cx D dA A V L N ad ((q, .inl (dA 7, 1, .inr (.inl f))) :: xs)))) (va_Qi (fun r (u : CW × (Nat → Int64) × Adr) => wQ V L N f cd1 o = (u.1, u.2.1, r) ∧ axt N ad u.2.2 ∧ ∀ k, N k ≤ u.1.2.2 k) (fun u t => cx D dA A u.1.1 u.1.2.1 u.1.2.2 u.2.2 ((q, .inl (dA 7, 1, .inr (.inl u.2.1))) :: xs) t.heap) A) XC (14) (400) A := by
  refine z_metH (by decide) hA hst (Nat.le_of_ble_eq_true rfl) rfl rfl (fun p e s m below meth c X hNc hml hr hh => ?_)
  refine z_aload_n X dL_lineAt_0 rfl rfl ?_
  refine z_iconst (v := 0) X dL_lineAt_1 (by decide) ?_
  refine z_aload_n X dL_lineAt_2 rfl rfl ?_
  refine z_iload_n X dL_lineAt_3 rfl rfl ?_
  refine z_iload_n X dL_lineAt_4 rfl rfl ?_
  refine z_xVc (As := [.int a1, .int a2]) (rest := [.int 0, .ref q]) (nA := 2) (mc := 14) (ms := 400) (rm := ({ frames := 240, cells := 14, slots := 400, locals := 2400 } : Room)) (S := Int32) (r0 := fun w9 => w9) (px := fun u => o = .inr u) (pu := fun w9 => o = .inl w9 ∧ True) (GX := cx D dA A V L N ad ((q, .inl (dA 7, 1, .inr (.inl f))) :: xs)) (G1 := fun w9 => cx D dA A V L N ad ((q, .inl (dA 7, 1, .inr (.inl f))) :: xs)) X hNc [(1, 13, 13, 10)] hh (by decide) (by
    intro z hz
    simp only [List.mem_cons, List.not_mem_nil, or_false] at hz
    subst hz; exact g_315) (cc_lineAt l X.2.2.2.2.2.2.2.2 X.2.2.2.2.2.2.1 h11 h) g_1258 g_1259 g_1260 g_1 g_1261 hd_yX11_lineAt ⟨rfl, rfl, Nat.le_of_ble_eq_true rfl, Nat.le_of_ble_eq_true rfl⟩ rfl (fun _ hG => cx_recv X (k := 11) rfl rfl h11 hG) rfl (Nat.le_of_ble_eq_true rfl) dL_lineAt_5 ⟨by show _ ≤ 14; omega, by show _ ≤ 400; omega⟩ (fun u hu => ?_) (fun w9 hw => ?_)
  · have hc := hcd u hu
    have hu3 : u = 1 := Decidable.byContradiction (fun z => hc (by unfold cd1; (try simp only [not_or] at z); simp [z]))
    subst hu3
    refine ⟨[], 13, 13, 10, [], rfl, by decide, fun q9 => ?_⟩
    refine z_astore X dL_lineAt_13 (by rw [hml]; decide) rfl rfl ?_
    refine z_iconst (v := 1) X dL_lineAt_15 (by decide) ?_
    refine zz.widen (k := 14) (n := 400) (by omega) (by omega) ?_
    exact z_iret X hr rfl (fun t hG hF _ => ⟨⟨1, ((V, L, N), f, ad), rfl, ⟨by rw [hu]; rfl, axt.rf N ad, fun _ => Nat.le_refl _⟩, hG⟩, hF⟩) dL_lineAt_16
  · refine z_i2l X dL_lineAt_8 ?_
    refine c_lastX X 0 (xs' := (q, .inl (dA 7, 1, .inr (.inl (vp_updL f 0 (w9).toInt64)))) :: xs) rfl (fun z => z.elim (fun y => absurd y (by decide)) (fun y => absurd y (by decide))) rfl dL_lineAt_9 ?_
    refine z_goto (tgt := 17) X dL_lineAt_10 (by decide) ?_
    refine z_iconst (v := 0) X dL_lineAt_17 (by decide) ?_
    refine zz.widen (k := 14) (n := 400) (by omega) (by omega) ?_
    exact z_iret X hr rfl (fun t hG hF _ => ⟨⟨0, ((V, L, N), vp_updL f 0 (Int32.toInt64 w9), ad), rfl, ⟨by rw [hw.1]; rfl, axt.rf N ad, fun _ => Nat.le_refl _⟩, hG⟩, hF⟩) dL_lineAt_18
