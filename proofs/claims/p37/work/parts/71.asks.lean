/-! THE LAW: what it asks of the class, as functions of the class's state -/
def qo (x : Option (Int32 ⊕ Nat)) : Option Int32 := x.bind (Sum.elim some (fun _ => none))
theorem qo_eq {x : Option (Int32 ⊕ Nat)} {r : Int32} (h : qo x = some r) : x = some (.inl r) := by
  cases x with
  | none => exact nomatch h
  | some v =>
    cases v with
    | inl u => obtain rfl := Option.some.inj (show some u = some r from h); rfl
    | inr u => exact nomatch h
def vo (W : CW) (x : Option ((Rho × Int32) ⊕ Nat)) : Option (CW × Int32) := x.bind (Sum.elim (fun u => some ((u.1, W.2), u.2)) (fun _ => none))
theorem vo_eq {W : CW} {x : Option ((Rho × Int32) ⊕ Nat)} {r : CW × Int32} (h : vo W x = some r) : ∃ u : Rho × Int32, x = some (.inl u) ∧ r = ((u.1, W.2), u.2) := by
  cases x with
  | none => exact nomatch h
  | some v =>
    cases v with
    | inl u => exact ⟨u, rfl, (Option.some.inj (show some ((u.1, W.2), u.2) = some r from h)).symm⟩
    | inr u => exact nomatch h
def ao (x : Option ((CW × Int32) ⊕ Nat)) : Option (CW × Int32) := x.bind (Sum.elim some (fun _ => none))
theorem ao_eq {x : Option ((CW × Int32) ⊕ Nat)} {r : CW × Int32} (h : ao x = some r) : x = some (.inl r) := by
  cases x with
  | none => exact nomatch h
  | some v =>
    cases v with
    | inl u => obtain rfl := Option.some.inj (show some u = some r from h); rfl
    | inr u => exact nomatch h
/-- what is caught: 2 and 3 -/
def ex2 (W : CW) (k : Nat) : Option (CW × Int32) := if k = 2 then some (W, -109) else if k = 3 then some (W, -108) else none
def ex3 (W : CW) (k : Nat) : Option (CW × Int32) := if k = 3 then some (W, -108) else none
def aq_free (W : CW) (a1 : Int32) : Option Int32 := qo (fc_free W.1 W.2.1 W.2.2 a1)
def aq_aside (W : CW) (a1 : Int32) : Option Int32 := qo (fc_aside W.1 W.2.1 W.2.2 a1)
def aq_spent (W : CW) (a1 : Int32) : Option Int32 := qo (fc_spent W.1 W.2.1 W.2.2 a1)
def aq_left (W : CW) (a1 : Int32) : Option Int32 := qo (fc_left W.1 W.2.1 W.2.2 a1)
def aq_cellOf (W : CW) (a1 : Int32) : Option Int32 := qo (fc_cellOf W.1 W.2.1 W.2.2 a1)
def aq_legOf (W : CW) (a1 : Int32) : Option Int32 := qo (fc_legOf W.1 W.2.1 W.2.2 a1)
def aq_sliceOf (W : CW) (a1 : Int32) : Option Int32 := qo (fc_sliceOf W.1 W.2.1 W.2.2 a1)
def aq_parties (W : CW) (a1 : Int32) : Option Int32 := qo (fc_parties W.1 W.2.1 W.2.2 a1)
def aq_stateOf (W : CW) (a1 : Int32) : Option Int32 := qo (fc_stateOf W.1 W.2.1 W.2.2 a1)
def aq_seconds (W : CW) (a1 : Int32) : Option Int32 := qo (fc_seconds W.1 W.2.1 W.2.2 a1)
def aq_charged (W : CW) (a1 : Int32) : Option Int32 := qo (fc_charged W.1 W.2.1 W.2.2 a1)
def aq_covered (W : CW) (a1 : Int32) : Option Int32 := qo (fc_covered W.1 W.2.1 W.2.2 a1)
def aq_ratedByEvents (W : CW) (a1 : Int32) : Option Int32 := qo (fc_ratedByEvents W.1 W.2.1 W.2.2 a1)
def aq_tag (W : CW) (a1 : Int32) : Option Int32 := qo (fc_tag W.1 W.2.1 W.2.2 a1)
def aq_seal (W : CW) (a1 : Int32) : Option Int32 := qo (fc_seal W.1 W.2.1 W.2.2 a1)
def aq_stamp (W : CW) (a1 : Int32) : Option Int32 := qo (fc_stamp W.1 W.2.1 W.2.2 a1)
def aq_lineAt (W : CW) (a1 : Int32) (a2 : Int32) : Option Int32 := qo (fc_lineAt W.1 W.2.1 W.2.2 a1 a2)
def aq_now (W : CW) : Option Int32 := fc_now W.1 W.2.1 W.2.2
def aq_legs (W : CW) : Option Int32 := fc_legs W.1 W.2.1 W.2.2
def dv_setChannels (W : CW) (a1 : Int32) (a2 : Int32) (a3 : Int32) : Option (CW × Int32) := vo W (fc_setChannels W.1 W.2.1 W.2.2 a1 a2 a3)
def dv_setSlice (W : CW) (a1 : Int32) : Option (CW × Int32) := vo W (fc_setSlice W.1 W.2.1 W.2.2 a1)
def dv_setCap (W : CW) (a1 : Int32) (a2 : Int32) : Option (CW × Int32) := vo W (fc_setCap W.1 W.2.1 W.2.2 a1 a2)
def dv_setWallet (W : CW) (a1 : Int32) (a2 : Int32) : Option (CW × Int32) := vo W (fc_setWallet W.1 W.2.1 W.2.2 a1 a2)
def dv_setZone (W : CW) (a1 : Int32) (a2 : Int32) : Option (CW × Int32) := vo W (fc_setZone W.1 W.2.1 W.2.2 a1 a2)
def dv_top (W : CW) (a1 : Int32) (a2 : Int32) : Option (CW × Int32) := vo W (fc_top W.1 W.2.1 W.2.2 a1 a2)
def da_setRate (W : CW) (a1 : Int32) (a2 : Int32) (a3 : Int32) : Option (CW × Int32) := ao (fc_setRate W.1 W.2.1 W.2.2 a1 a2 a3)
def da_move (W : CW) (a1 : Int32) (a2 : Int32) : Option (CW × Int32) := ao (fc_move W.1 W.2.1 W.2.2 a1 a2)
def ak_begin (W : CW) (a1 a2 a3 : Int32) : Option (CW × Int32) := (fc_begin W.1 W.2.1 W.2.2 a1 a2 (if a3 ≤ 0 then 0 else 1)).bind (Sum.elim (fun u => some u) (ex2 W))
def ak_join (W : CW) (a1 a2 a3 : Int32) : Option (CW × Int32) := (fc_join W.1 W.2.1 W.2.2 a1 a2 (if a3 ≤ 0 then 0 else 1)).bind (Sum.elim (fun u => some u) (ex2 W))
def ak_leave (W : CW) (a1 a2 a3 : Int32) : Option (CW × Int32) := (fc_leave W.1 W.2.1 W.2.2 a1).bind (Sum.elim (fun u => some u) (ex2 W))
def ak_give (W : CW) (a1 a2 a3 : Int32) : Option (CW × Int32) := (fc_give W.1 W.2.1 W.2.2 a1 a2 a3).bind (Sum.elim (fun u => some ((u.1, W.2), u.2)) (ex2 W))
def ak_setWallet (W : CW) (a1 a2 a3 : Int32) : Option (CW × Int32) := (fc_setWallet W.1 W.2.1 W.2.2 a1 a2).bind (Sum.elim (fun u => some ((u.1, W.2), u.2)) (ex2 W))
def ak_setZone (W : CW) (a1 a2 a3 : Int32) : Option (CW × Int32) := (fc_setZone W.1 W.2.1 W.2.2 a1 a2).bind (Sum.elim (fun u => some ((u.1, W.2), u.2)) (ex2 W))
def ak_pass (W : CW) (a1 a2 a3 : Int32) : Option (CW × Int32) := (fc_pass W.1 W.2.1 W.2.2 a1).bind (Sum.elim (fun u => some u) (ex2 W))
def ak_buy (W : CW) (a1 a2 a3 a4 a5 a6 : Int32) : Option (CW × Int32) := (fc_buy W.1 W.2.1 W.2.2 a1 a2 a3 a4 a5 a6).bind (Sum.elim some (ex3 W))
theorem n_1 : Cond.initialized RX11 ∈ gT := gT_t 1 (by decide +kernel) rfl
theorem n_393 : Cond.classLink RL 37 "java/lang/IllegalArgumentException" ∈ gT := gT_t 393 (by decide +kernel) rfl
theorem n_394 : Cond.classLink RL 39 "java/lang/IllegalStateException" ∈ gT := gT_t 394 (by decide +kernel) rfl
theorem n_395 : Cond.methodLink RL 10 yX11_begin ∈ gT := gT_t 395 (by decide +kernel) rfl
theorem n_396 : Cond.instanceMethod yX11_begin ∈ gT := gT_t 396 (by decide +kernel) rfl
theorem n_397 : Cond.selects RX11 yX11_begin yX11_begin ∈ gT := gT_t 397 (by decide +kernel) rfl
theorem n_398 : Cond.code yX11_begin cX11_begin 10 (some .int) ∈ gT := gT_t 398 (by decide +kernel) rfl
theorem n_677 : Cond.methodLink RL 16 yX11_join ∈ gT := gT_t 677 (by decide +kernel) rfl
theorem n_678 : Cond.instanceMethod yX11_join ∈ gT := gT_t 678 (by decide +kernel) rfl
theorem n_679 : Cond.selects RX11 yX11_join yX11_join ∈ gT := gT_t 679 (by decide +kernel) rfl
theorem n_680 : Cond.code yX11_join cX11_join 8 (some .int) ∈ gT := gT_t 680 (by decide +kernel) rfl
theorem n_693 : Cond.methodLink RL 19 yX11_leave ∈ gT := gT_t 693 (by decide +kernel) rfl
theorem n_694 : Cond.instanceMethod yX11_leave ∈ gT := gT_t 694 (by decide +kernel) rfl
theorem n_695 : Cond.selects RX11 yX11_leave yX11_leave ∈ gT := gT_t 695 (by decide +kernel) rfl
theorem n_696 : Cond.code yX11_leave cX11_leave 3 (some .int) ∈ gT := gT_t 696 (by decide +kernel) rfl
theorem n_698 : Cond.methodLink RL 23 yX11_give ∈ gT := gT_t 698 (by decide +kernel) rfl
theorem n_699 : Cond.instanceMethod yX11_give ∈ gT := gT_t 699 (by decide +kernel) rfl
theorem n_700 : Cond.selects RX11 yX11_give yX11_give ∈ gT := gT_t 700 (by decide +kernel) rfl
theorem n_701 : Cond.code yX11_give cX11_give 6 (some .int) ∈ gT := gT_t 701 (by decide +kernel) rfl
theorem n_713 : Cond.methodLink RL 27 yX11_setWallet ∈ gT := gT_t 713 (by decide +kernel) rfl
theorem n_714 : Cond.instanceMethod yX11_setWallet ∈ gT := gT_t 714 (by decide +kernel) rfl
theorem n_715 : Cond.selects RX11 yX11_setWallet yX11_setWallet ∈ gT := gT_t 715 (by decide +kernel) rfl
theorem n_716 : Cond.code yX11_setWallet cX11_setWallet 6 (some .int) ∈ gT := gT_t 716 (by decide +kernel) rfl
theorem n_718 : Cond.methodLink RL 31 yX11_setZone ∈ gT := gT_t 718 (by decide +kernel) rfl
theorem n_719 : Cond.instanceMethod yX11_setZone ∈ gT := gT_t 719 (by decide +kernel) rfl
theorem n_720 : Cond.selects RX11 yX11_setZone yX11_setZone ∈ gT := gT_t 720 (by decide +kernel) rfl
theorem n_721 : Cond.code yX11_setZone cX11_setZone 5 (some .int) ∈ gT := gT_t 721 (by decide +kernel) rfl
theorem n_733 : Cond.methodLink RL 34 yX11_pass ∈ gT := gT_t 733 (by decide +kernel) rfl
theorem n_734 : Cond.instanceMethod yX11_pass ∈ gT := gT_t 734 (by decide +kernel) rfl
theorem n_735 : Cond.selects RX11 yX11_pass yX11_pass ∈ gT := gT_t 735 (by decide +kernel) rfl
theorem n_736 : Cond.code yX11_pass cX11_pass 4 (some .int) ∈ gT := gT_t 736 (by decide +kernel) rfl
theorem n_813 : Cond.methodLink RL 41 yX11_buy ∈ gT := gT_t 813 (by decide +kernel) rfl
theorem n_814 : Cond.instanceMethod yX11_buy ∈ gT := gT_t 814 (by decide +kernel) rfl
theorem n_815 : Cond.selects RX11 yX11_buy yX11_buy ∈ gT := gT_t 815 (by decide +kernel) rfl
theorem n_816 : Cond.code yX11_buy cX11_buy 10 (some .int) ∈ gT := gT_t 816 (by decide +kernel) rfl
theorem nh_yX11_begin : yX11_begin.cls = RX11 ∧ yX11_begin.cls ≠ "java/lang/invoke/MethodHandle" ∧ yX11_begin.cls ≠ "java/lang/invoke/VarHandle" ∧ (parseMethodDescriptor yX11_begin.desc).map (fun d => d.parameters.length) = some 3 := by decide +kernel
theorem nh_yX11_buy : yX11_buy.cls = RX11 ∧ yX11_buy.cls ≠ "java/lang/invoke/MethodHandle" ∧ yX11_buy.cls ≠ "java/lang/invoke/VarHandle" ∧ (parseMethodDescriptor yX11_buy.desc).map (fun d => d.parameters.length) = some 6 := by decide +kernel
theorem nh_yX11_give : yX11_give.cls = RX11 ∧ yX11_give.cls ≠ "java/lang/invoke/MethodHandle" ∧ yX11_give.cls ≠ "java/lang/invoke/VarHandle" ∧ (parseMethodDescriptor yX11_give.desc).map (fun d => d.parameters.length) = some 3 := by decide +kernel
theorem nh_yX11_join : yX11_join.cls = RX11 ∧ yX11_join.cls ≠ "java/lang/invoke/MethodHandle" ∧ yX11_join.cls ≠ "java/lang/invoke/VarHandle" ∧ (parseMethodDescriptor yX11_join.desc).map (fun d => d.parameters.length) = some 3 := by decide +kernel
theorem nh_yX11_leave : yX11_leave.cls = RX11 ∧ yX11_leave.cls ≠ "java/lang/invoke/MethodHandle" ∧ yX11_leave.cls ≠ "java/lang/invoke/VarHandle" ∧ (parseMethodDescriptor yX11_leave.desc).map (fun d => d.parameters.length) = some 1 := by decide +kernel
theorem nh_yX11_pass : yX11_pass.cls = RX11 ∧ yX11_pass.cls ≠ "java/lang/invoke/MethodHandle" ∧ yX11_pass.cls ≠ "java/lang/invoke/VarHandle" ∧ (parseMethodDescriptor yX11_pass.desc).map (fun d => d.parameters.length) = some 1 := by decide +kernel
theorem nh_yX11_setWallet : yX11_setWallet.cls = RX11 ∧ yX11_setWallet.cls ≠ "java/lang/invoke/MethodHandle" ∧ yX11_setWallet.cls ≠ "java/lang/invoke/VarHandle" ∧ (parseMethodDescriptor yX11_setWallet.desc).map (fun d => d.parameters.length) = some 2 := by decide +kernel
theorem nh_yX11_setZone : yX11_setZone.cls = RX11 ∧ yX11_setZone.cls ≠ "java/lang/invoke/MethodHandle" ∧ yX11_setZone.cls ≠ "java/lang/invoke/VarHandle" ∧ (parseMethodDescriptor yX11_setZone.desc).map (fun d => d.parameters.length) = some 2 := by decide +kernel
-- begin
set_option maxRecDepth 100000 in
set_option maxHeartbeats 4000000 in
theorem la_begin (l : Launch) {D : va_G} {dA : Nat → ClassId} {A : Nat → Prop} {n : Nat} (hst : l.stackTraces = false) (hA : ∀ q, n ≤ q → A q) {σ : GS} {ob : Nat} {ar : Nat → Nat} {a1 a2 a3 : Int32} {o : CW × Int32} (h : ak_begin σ.1 a1 a2 a3 = some o) : vx_Met l yL_asks (.codeWith yL_asks cL_asks 6 (some .int) (hdT [(2, 110, 37, 109), (3, 115, 39, 109)]) :: gT) ({ frames := 15, cells := 27, slots := 13082, locals := 630 } : Room) (va_Pc [.ref ob, .int 0, .int a1, .int a2, .int a3] (zBN D dA A n (gw D dA A σ ob ar))) (va_Qi (fun r (_ : Unit) => r = o.2 ∧ True) (fun _ t => gw D dA A (o.1, σ.2) ob ar t.heap) A) (vx_X (fun (_ : Unit) => False) (fun _ _ _ => False) A) (27) (13082) A := by
  refine z_metH (by decide) hA hst (Nat.le_of_ble_eq_true rfl) rfl rfl (fun p e s m below meth c X hNc hml hr hh => ?_)
  refine zz.ex (G' := fun ad H => (ad 11 0 = ob ∧ 0 < σ.1.2.2 11) ∧ cx D dA A σ.1.1 σ.1.2.1 σ.1.2.2 ad (lx dA σ.2 ar) H) (fun ad => ?_)
  refine zz.pre (fun H hG => hG.1) (fun hoh => ?_)
  refine zz.conseq (fun H hG => hG.2) ?_
  obtain ⟨rfl, h11⟩ := hoh
  unfold ak_begin at h
  refine z_iload_n X dL_asks_0 rfl rfl ?_
  refine z_if_ne (tgt := 23) X dL_asks_1 (by decide) (fun _ => ?_) (fun q => absurd rfl q)
  refine z_aload_n X dL_asks_4 rfl rfl ?_
  refine z_iload_n X dL_asks_5 rfl rfl ?_
  refine z_iload_n X dL_asks_6 rfl rfl ?_
  refine z_iload X dL_asks_7 rfl ?_
  refine z_if_le (tgt := 16) X dL_asks_9 (by decide) (fun q => ?_) (fun q => ?_)
  · rw [if_pos q] at h
    obtain ⟨o1, co1, h⟩ := zb2 h
    refine z_iconst (v := 0) X dL_asks_16 (by decide) ?_
    refine z_xVc (As := [.int a1, .int a2, .int 0]) (rest := []) (nA := 3) (mc := 27) (ms := 13082) (rm := ({ frames := 13, cells := 27, slots := 13082, locals := 546 } : Room)) (S := (CW × Int32) × Adr) (r0 := fun w9 => w9.1.2) (px := fun u => o1 = .inr u) (pu := fun w9 => o1 = .inl w9.1 ∧ axt σ.1.2.2 ad w9.2 ∧ (∀ k, σ.1.2.2 k ≤ w9.1.1.2.2 k)) (GX := cx D dA A σ.1.1 σ.1.2.1 σ.1.2.2 ad (lx dA σ.2 ar)) (G1 := fun w9 => cx D dA A w9.1.1.1 w9.1.1.2.1 w9.1.1.2.2 w9.2 (lx dA σ.2 ar)) X hNc [(2, 110, 37, 109), (3, 115, 39, 109)] hh (by decide) (by
      intro z hz
      simp only [List.mem_cons, List.not_mem_nil, or_false] at hz
      rcases hz with rfl | rfl
      · exact n_393
      · exact n_394) (cc_begin l X.2.2.2.2.2.2.2.2 X.2.2.2.2.2.2.1 h11 co1) n_395 n_396 n_397 n_1 n_398 nh_yX11_begin ⟨rfl, rfl, Nat.le_of_ble_eq_true rfl, Nat.le_of_ble_eq_true rfl⟩ rfl (fun _ hG => cx_recv X (k := 11) (n := 9) rfl rfl h11 hG) rfl (Nat.le_of_ble_eq_true rfl) dL_asks_17 ⟨by show _ ≤ 27; omega, by show _ ≤ 13082; omega⟩ (fun u hu => ?_) (fun w9 hw => ?_)
    · rw [hu] at h
      replace h : ex2 σ.1 u = some o := h
      unfold ex2 at h
      by_cases q2 : u = 2
      · subst q2
        obtain rfl := Option.some.inj (show some (σ.1, (-109 : Int32)) = some o from h)
        refine ⟨[], 110, 37, 109, [(3, 115, 39, 109)], rfl, by decide, fun q9 => ?_⟩
        refine z_astore X dL_asks_110 (by rw [hml]; decide) rfl rfl ?_
        refine z_bipush (v := -109) X dL_asks_112 (by decide) ?_
        refine zz.widen (k := 27) (n := 13082) (by omega) (by omega) ?_
        exact z_iret X hr rfl (fun t hG hF _ => ⟨⟨_, (), rfl, ⟨rfl, trivial⟩, ⟨ad, ⟨rfl, h11⟩, hG⟩⟩, hF⟩) dL_asks_114
      · rw [if_neg q2] at h
        by_cases q3 : u = 3
        · subst q3
          obtain rfl := Option.some.inj (show some (σ.1, (-108 : Int32)) = some o from h)
          refine ⟨[(2, 110, 37, 109)], 115, 39, 109, [], rfl, by decide, fun q9 => ?_⟩
          refine z_astore X dL_asks_115 (by rw [hml]; decide) rfl rfl ?_
          refine z_bipush (v := -108) X dL_asks_117 (by decide) ?_
          refine zz.widen (k := 27) (n := 13082) (by omega) (by omega) ?_
          exact z_iret X hr rfl (fun t hG hF _ => ⟨⟨_, (), rfl, ⟨rfl, trivial⟩, ⟨ad, ⟨rfl, h11⟩, hG⟩⟩, hF⟩) dL_asks_119
        · rw [if_neg q3] at h
          exact nomatch h
    · rw [hw.1] at h
      obtain rfl := Option.some.inj (show some w9.1 = some o from h)
      refine z_goto (tgt := 109) X dL_asks_20 (by decide) ?_
      refine zz.widen (k := 27) (n := 13082) (by omega) (by omega) ?_
      exact z_iret X hr rfl (fun t hG hF _ => ⟨⟨_, (), rfl, ⟨rfl, trivial⟩, ⟨w9.2, ⟨axt_ob hw.2.1 h11, Nat.lt_of_lt_of_le h11 (hw.2.2 11)⟩, hG⟩⟩, hF⟩) dL_asks_109
  · rw [if_neg q] at h
    obtain ⟨o1, co1, h⟩ := zb2 h
    refine z_iconst (v := 1) X dL_asks_12 (by decide) ?_
    refine z_goto (tgt := 17) X dL_asks_13 (by decide) ?_
    refine z_xVc (As := [.int a1, .int a2, .int 1]) (rest := []) (nA := 3) (mc := 27) (ms := 13082) (rm := ({ frames := 13, cells := 27, slots := 13082, locals := 546 } : Room)) (S := (CW × Int32) × Adr) (r0 := fun w9 => w9.1.2) (px := fun u => o1 = .inr u) (pu := fun w9 => o1 = .inl w9.1 ∧ axt σ.1.2.2 ad w9.2 ∧ (∀ k, σ.1.2.2 k ≤ w9.1.1.2.2 k)) (GX := cx D dA A σ.1.1 σ.1.2.1 σ.1.2.2 ad (lx dA σ.2 ar)) (G1 := fun w9 => cx D dA A w9.1.1.1 w9.1.1.2.1 w9.1.1.2.2 w9.2 (lx dA σ.2 ar)) X hNc [(2, 110, 37, 109), (3, 115, 39, 109)] hh (by decide) (by
      intro z hz
      simp only [List.mem_cons, List.not_mem_nil, or_false] at hz
      rcases hz with rfl | rfl
      · exact n_393
      · exact n_394) (cc_begin l X.2.2.2.2.2.2.2.2 X.2.2.2.2.2.2.1 h11 co1) n_395 n_396 n_397 n_1 n_398 nh_yX11_begin ⟨rfl, rfl, Nat.le_of_ble_eq_true rfl, Nat.le_of_ble_eq_true rfl⟩ rfl (fun _ hG => cx_recv X (k := 11) (n := 9) rfl rfl h11 hG) rfl (Nat.le_of_ble_eq_true rfl) dL_asks_17 ⟨by show _ ≤ 27; omega, by show _ ≤ 13082; omega⟩ (fun u hu => ?_) (fun w9 hw => ?_)
    · rw [hu] at h
      replace h : ex2 σ.1 u = some o := h
      unfold ex2 at h
      by_cases q2 : u = 2
      · subst q2
        obtain rfl := Option.some.inj (show some (σ.1, (-109 : Int32)) = some o from h)
        refine ⟨[], 110, 37, 109, [(3, 115, 39, 109)], rfl, by decide, fun q9 => ?_⟩
        refine z_astore X dL_asks_110 (by rw [hml]; decide) rfl rfl ?_
        refine z_bipush (v := -109) X dL_asks_112 (by decide) ?_
        refine zz.widen (k := 27) (n := 13082) (by omega) (by omega) ?_
        exact z_iret X hr rfl (fun t hG hF _ => ⟨⟨_, (), rfl, ⟨rfl, trivial⟩, ⟨ad, ⟨rfl, h11⟩, hG⟩⟩, hF⟩) dL_asks_114
      · rw [if_neg q2] at h
        by_cases q3 : u = 3
        · subst q3
          obtain rfl := Option.some.inj (show some (σ.1, (-108 : Int32)) = some o from h)
          refine ⟨[(2, 110, 37, 109)], 115, 39, 109, [], rfl, by decide, fun q9 => ?_⟩
          refine z_astore X dL_asks_115 (by rw [hml]; decide) rfl rfl ?_
          refine z_bipush (v := -108) X dL_asks_117 (by decide) ?_
          refine zz.widen (k := 27) (n := 13082) (by omega) (by omega) ?_
          exact z_iret X hr rfl (fun t hG hF _ => ⟨⟨_, (), rfl, ⟨rfl, trivial⟩, ⟨ad, ⟨rfl, h11⟩, hG⟩⟩, hF⟩) dL_asks_119
        · rw [if_neg q3] at h
          exact nomatch h
    · rw [hw.1] at h
      obtain rfl := Option.some.inj (show some w9.1 = some o from h)
      refine z_goto (tgt := 109) X dL_asks_20 (by decide) ?_
      refine zz.widen (k := 27) (n := 13082) (by omega) (by omega) ?_
      exact z_iret X hr rfl (fun t hG hF _ => ⟨⟨_, (), rfl, ⟨rfl, trivial⟩, ⟨w9.2, ⟨axt_ob hw.2.1 h11, Nat.lt_of_lt_of_le h11 (hw.2.2 11)⟩, hG⟩⟩, hF⟩) dL_asks_109
-- join
set_option maxRecDepth 100000 in
set_option maxHeartbeats 4000000 in
theorem la_join (l : Launch) {D : va_G} {dA : Nat → ClassId} {A : Nat → Prop} {n : Nat} (hst : l.stackTraces = false) (hA : ∀ q, n ≤ q → A q) {σ : GS} {ob : Nat} {ar : Nat → Nat} {a1 a2 a3 : Int32} {o : CW × Int32} (h : ak_join σ.1 a1 a2 a3 = some o) : vx_Met l yL_asks (.codeWith yL_asks cL_asks 6 (some .int) (hdT [(2, 110, 37, 109), (3, 115, 39, 109)]) :: gT) ({ frames := 15, cells := 13, slots := 5789, locals := 630 } : Room) (va_Pc [.ref ob, .int 1, .int a1, .int a2, .int a3] (zBN D dA A n (gw D dA A σ ob ar))) (va_Qi (fun r (_ : Unit) => r = o.2 ∧ True) (fun _ t => gw D dA A (o.1, σ.2) ob ar t.heap) A) (vx_X (fun (_ : Unit) => False) (fun _ _ _ => False) A) (13) (5789) A := by
  refine z_metH (by decide) hA hst (Nat.le_of_ble_eq_true rfl) rfl rfl (fun p e s m below meth c X hNc hml hr hh => ?_)
  refine zz.ex (G' := fun ad H => (ad 11 0 = ob ∧ 0 < σ.1.2.2 11) ∧ cx D dA A σ.1.1 σ.1.2.1 σ.1.2.2 ad (lx dA σ.2 ar) H) (fun ad => ?_)
  refine zz.pre (fun H hG => hG.1) (fun hoh => ?_)
  refine zz.conseq (fun H hG => hG.2) ?_
  obtain ⟨rfl, h11⟩ := hoh
  unfold ak_join at h
  refine z_iload_n X dL_asks_0 rfl rfl ?_
  refine z_if_ne (tgt := 23) X dL_asks_1 (by decide) (fun q => absurd q (by decide)) (fun _ => ?_)
  refine z_iload_n X dL_asks_23 rfl rfl ?_
  refine z_iconst (v := 1) X dL_asks_24 (by decide) ?_
  refine z_icmp_ne (tgt := 47) X dL_asks_25 (by decide) (fun _ => ?_) (fun q => absurd rfl q)
  refine z_aload_n X dL_asks_28 rfl rfl ?_
  refine z_iload_n X dL_asks_29 rfl rfl ?_
  refine z_iload_n X dL_asks_30 rfl rfl ?_
  refine z_iload X dL_asks_31 rfl ?_
  refine z_if_le (tgt := 40) X dL_asks_33 (by decide) (fun q => ?_) (fun q => ?_)
  · rw [if_pos q] at h
    obtain ⟨o1, co1, h⟩ := zb2 h
    refine z_iconst (v := 0) X dL_asks_40 (by decide) ?_
    refine z_xVc (As := [.int a1, .int a2, .int 0]) (rest := []) (nA := 3) (mc := 13) (ms := 5789) (rm := ({ frames := 13, cells := 13, slots := 5789, locals := 546 } : Room)) (S := (CW × Int32) × Adr) (r0 := fun w9 => w9.1.2) (px := fun u => o1 = .inr u) (pu := fun w9 => o1 = .inl w9.1 ∧ axt σ.1.2.2 ad w9.2 ∧ (∀ k, σ.1.2.2 k ≤ w9.1.1.2.2 k)) (GX := cx D dA A σ.1.1 σ.1.2.1 σ.1.2.2 ad (lx dA σ.2 ar)) (G1 := fun w9 => cx D dA A w9.1.1.1 w9.1.1.2.1 w9.1.1.2.2 w9.2 (lx dA σ.2 ar)) X hNc [(2, 110, 37, 109), (3, 115, 39, 109)] hh (by decide) (by
      intro z hz
      simp only [List.mem_cons, List.not_mem_nil, or_false] at hz
      rcases hz with rfl | rfl
      · exact n_393
      · exact n_394) (cc_join l X.2.2.2.2.2.2.2.2 X.2.2.2.2.2.2.1 h11 co1) n_677 n_678 n_679 n_1 n_680 nh_yX11_join ⟨rfl, rfl, Nat.le_of_ble_eq_true rfl, Nat.le_of_ble_eq_true rfl⟩ rfl (fun _ hG => cx_recv X (k := 11) (n := 9) rfl rfl h11 hG) rfl (Nat.le_of_ble_eq_true rfl) dL_asks_41 ⟨by show _ ≤ 13; omega, by show _ ≤ 5789; omega⟩ (fun u hu => ?_) (fun w9 hw => ?_)
    · rw [hu] at h
      replace h : ex2 σ.1 u = some o := h
      unfold ex2 at h
      by_cases q2 : u = 2
      · subst q2
        obtain rfl := Option.some.inj (show some (σ.1, (-109 : Int32)) = some o from h)
        refine ⟨[], 110, 37, 109, [(3, 115, 39, 109)], rfl, by decide, fun q9 => ?_⟩
        refine z_astore X dL_asks_110 (by rw [hml]; decide) rfl rfl ?_
        refine z_bipush (v := -109) X dL_asks_112 (by decide) ?_
        refine zz.widen (k := 13) (n := 5789) (by omega) (by omega) ?_
        exact z_iret X hr rfl (fun t hG hF _ => ⟨⟨_, (), rfl, ⟨rfl, trivial⟩, ⟨ad, ⟨rfl, h11⟩, hG⟩⟩, hF⟩) dL_asks_114
      · rw [if_neg q2] at h
        by_cases q3 : u = 3
        · subst q3
          obtain rfl := Option.some.inj (show some (σ.1, (-108 : Int32)) = some o from h)
          refine ⟨[(2, 110, 37, 109)], 115, 39, 109, [], rfl, by decide, fun q9 => ?_⟩
          refine z_astore X dL_asks_115 (by rw [hml]; decide) rfl rfl ?_
          refine z_bipush (v := -108) X dL_asks_117 (by decide) ?_
          refine zz.widen (k := 13) (n := 5789) (by omega) (by omega) ?_
          exact z_iret X hr rfl (fun t hG hF _ => ⟨⟨_, (), rfl, ⟨rfl, trivial⟩, ⟨ad, ⟨rfl, h11⟩, hG⟩⟩, hF⟩) dL_asks_119
        · rw [if_neg q3] at h
          exact nomatch h
    · rw [hw.1] at h
      obtain rfl := Option.some.inj (show some w9.1 = some o from h)
      refine z_goto (tgt := 109) X dL_asks_44 (by decide) ?_
      refine zz.widen (k := 13) (n := 5789) (by omega) (by omega) ?_
      exact z_iret X hr rfl (fun t hG hF _ => ⟨⟨_, (), rfl, ⟨rfl, trivial⟩, ⟨w9.2, ⟨axt_ob hw.2.1 h11, Nat.lt_of_lt_of_le h11 (hw.2.2 11)⟩, hG⟩⟩, hF⟩) dL_asks_109
  · rw [if_neg q] at h
    obtain ⟨o1, co1, h⟩ := zb2 h
    refine z_iconst (v := 1) X dL_asks_36 (by decide) ?_
    refine z_goto (tgt := 41) X dL_asks_37 (by decide) ?_
    refine z_xVc (As := [.int a1, .int a2, .int 1]) (rest := []) (nA := 3) (mc := 13) (ms := 5789) (rm := ({ frames := 13, cells := 13, slots := 5789, locals := 546 } : Room)) (S := (CW × Int32) × Adr) (r0 := fun w9 => w9.1.2) (px := fun u => o1 = .inr u) (pu := fun w9 => o1 = .inl w9.1 ∧ axt σ.1.2.2 ad w9.2 ∧ (∀ k, σ.1.2.2 k ≤ w9.1.1.2.2 k)) (GX := cx D dA A σ.1.1 σ.1.2.1 σ.1.2.2 ad (lx dA σ.2 ar)) (G1 := fun w9 => cx D dA A w9.1.1.1 w9.1.1.2.1 w9.1.1.2.2 w9.2 (lx dA σ.2 ar)) X hNc [(2, 110, 37, 109), (3, 115, 39, 109)] hh (by decide) (by
      intro z hz
      simp only [List.mem_cons, List.not_mem_nil, or_false] at hz
      rcases hz with rfl | rfl
      · exact n_393
      · exact n_394) (cc_join l X.2.2.2.2.2.2.2.2 X.2.2.2.2.2.2.1 h11 co1) n_677 n_678 n_679 n_1 n_680 nh_yX11_join ⟨rfl, rfl, Nat.le_of_ble_eq_true rfl, Nat.le_of_ble_eq_true rfl⟩ rfl (fun _ hG => cx_recv X (k := 11) (n := 9) rfl rfl h11 hG) rfl (Nat.le_of_ble_eq_true rfl) dL_asks_41 ⟨by show _ ≤ 13; omega, by show _ ≤ 5789; omega⟩ (fun u hu => ?_) (fun w9 hw => ?_)
    · rw [hu] at h
      replace h : ex2 σ.1 u = some o := h
      unfold ex2 at h
      by_cases q2 : u = 2
      · subst q2
        obtain rfl := Option.some.inj (show some (σ.1, (-109 : Int32)) = some o from h)
        refine ⟨[], 110, 37, 109, [(3, 115, 39, 109)], rfl, by decide, fun q9 => ?_⟩
        refine z_astore X dL_asks_110 (by rw [hml]; decide) rfl rfl ?_
        refine z_bipush (v := -109) X dL_asks_112 (by decide) ?_
        refine zz.widen (k := 13) (n := 5789) (by omega) (by omega) ?_
        exact z_iret X hr rfl (fun t hG hF _ => ⟨⟨_, (), rfl, ⟨rfl, trivial⟩, ⟨ad, ⟨rfl, h11⟩, hG⟩⟩, hF⟩) dL_asks_114
      · rw [if_neg q2] at h
        by_cases q3 : u = 3
        · subst q3
          obtain rfl := Option.some.inj (show some (σ.1, (-108 : Int32)) = some o from h)
          refine ⟨[(2, 110, 37, 109)], 115, 39, 109, [], rfl, by decide, fun q9 => ?_⟩
          refine z_astore X dL_asks_115 (by rw [hml]; decide) rfl rfl ?_
          refine z_bipush (v := -108) X dL_asks_117 (by decide) ?_
          refine zz.widen (k := 13) (n := 5789) (by omega) (by omega) ?_
          exact z_iret X hr rfl (fun t hG hF _ => ⟨⟨_, (), rfl, ⟨rfl, trivial⟩, ⟨ad, ⟨rfl, h11⟩, hG⟩⟩, hF⟩) dL_asks_119
        · rw [if_neg q3] at h
          exact nomatch h
    · rw [hw.1] at h
      obtain rfl := Option.some.inj (show some w9.1 = some o from h)
      refine z_goto (tgt := 109) X dL_asks_44 (by decide) ?_
      refine zz.widen (k := 13) (n := 5789) (by omega) (by omega) ?_
      exact z_iret X hr rfl (fun t hG hF _ => ⟨⟨_, (), rfl, ⟨rfl, trivial⟩, ⟨w9.2, ⟨axt_ob hw.2.1 h11, Nat.lt_of_lt_of_le h11 (hw.2.2 11)⟩, hG⟩⟩, hF⟩) dL_asks_109
-- leave
set_option maxRecDepth 100000 in
set_option maxHeartbeats 4000000 in
theorem la_leave (l : Launch) {D : va_G} {dA : Nat → ClassId} {A : Nat → Prop} {n : Nat} (hst : l.stackTraces = false) (hA : ∀ q, n ≤ q → A q) {σ : GS} {ob : Nat} {ar : Nat → Nat} {a1 a2 a3 : Int32} {o : CW × Int32} (h : ak_leave σ.1 a1 a2 a3 = some o) : vx_Met l yL_asks (.codeWith yL_asks cL_asks 6 (some .int) (hdT [(2, 110, 37, 109), (3, 115, 39, 109)]) :: gT) ({ frames := 15, cells := 5, slots := 1832, locals := 630 } : Room) (va_Pc [.ref ob, .int 2, .int a1, .int a2, .int a3] (zBN D dA A n (gw D dA A σ ob ar))) (va_Qi (fun r (_ : Unit) => r = o.2 ∧ True) (fun _ t => gw D dA A (o.1, σ.2) ob ar t.heap) A) (vx_X (fun (_ : Unit) => False) (fun _ _ _ => False) A) (5) (1832) A := by
  refine z_metH (by decide) hA hst (Nat.le_of_ble_eq_true rfl) rfl rfl (fun p e s m below meth c X hNc hml hr hh => ?_)
  refine zz.ex (G' := fun ad H => (ad 11 0 = ob ∧ 0 < σ.1.2.2 11) ∧ cx D dA A σ.1.1 σ.1.2.1 σ.1.2.2 ad (lx dA σ.2 ar) H) (fun ad => ?_)
  refine zz.pre (fun H hG => hG.1) (fun hoh => ?_)
  refine zz.conseq (fun H hG => hG.2) ?_
  obtain ⟨rfl, h11⟩ := hoh
  unfold ak_leave at h
  refine z_iload_n X dL_asks_0 rfl rfl ?_
  refine z_if_ne (tgt := 23) X dL_asks_1 (by decide) (fun q => absurd q (by decide)) (fun _ => ?_)
  refine z_iload_n X dL_asks_23 rfl rfl ?_
  refine z_iconst (v := 1) X dL_asks_24 (by decide) ?_
  refine z_icmp_ne (tgt := 47) X dL_asks_25 (by decide) (fun q => absurd q (by decide)) (fun _ => ?_)
  refine z_iload_n X dL_asks_47 rfl rfl ?_
  refine z_iconst (v := 2) X dL_asks_48 (by decide) ?_
  refine z_icmp_ne (tgt := 60) X dL_asks_49 (by decide) (fun _ => ?_) (fun q => absurd rfl q)
  refine z_aload_n X dL_asks_52 rfl rfl ?_
  refine z_iload_n X dL_asks_53 rfl rfl ?_
  obtain ⟨o1, co1, h⟩ := zb2 h
  refine z_xVc (As := [.int a1]) (rest := []) (nA := 1) (mc := 5) (ms := 1832) (rm := ({ frames := 12, cells := 5, slots := 1832, locals := 504 } : Room)) (S := (CW × Int32) × Adr) (r0 := fun w9 => w9.1.2) (px := fun u => o1 = .inr u) (pu := fun w9 => o1 = .inl w9.1 ∧ axt σ.1.2.2 ad w9.2 ∧ (∀ k, σ.1.2.2 k ≤ w9.1.1.2.2 k)) (GX := cx D dA A σ.1.1 σ.1.2.1 σ.1.2.2 ad (lx dA σ.2 ar)) (G1 := fun w9 => cx D dA A w9.1.1.1 w9.1.1.2.1 w9.1.1.2.2 w9.2 (lx dA σ.2 ar)) X hNc [(2, 110, 37, 109), (3, 115, 39, 109)] hh (by decide) (by
    intro z hz
    simp only [List.mem_cons, List.not_mem_nil, or_false] at hz
    rcases hz with rfl | rfl
    · exact n_393
    · exact n_394) (cc_leave l X.2.2.2.2.2.2.2.2 X.2.2.2.2.2.2.1 h11 co1) n_693 n_694 n_695 n_1 n_696 nh_yX11_leave ⟨rfl, rfl, Nat.le_of_ble_eq_true rfl, Nat.le_of_ble_eq_true rfl⟩ rfl (fun _ hG => cx_recv X (k := 11) (n := 9) rfl rfl h11 hG) rfl (Nat.le_of_ble_eq_true rfl) dL_asks_54 ⟨by show _ ≤ 5; omega, by show _ ≤ 1832; omega⟩ (fun u hu => ?_) (fun w9 hw => ?_)
  · rw [hu] at h
    replace h : ex2 σ.1 u = some o := h
    unfold ex2 at h
    by_cases q2 : u = 2
    · subst q2
      obtain rfl := Option.some.inj (show some (σ.1, (-109 : Int32)) = some o from h)
      refine ⟨[], 110, 37, 109, [(3, 115, 39, 109)], rfl, by decide, fun q9 => ?_⟩
      refine z_astore X dL_asks_110 (by rw [hml]; decide) rfl rfl ?_
      refine z_bipush (v := -109) X dL_asks_112 (by decide) ?_
      refine zz.widen (k := 5) (n := 1832) (by omega) (by omega) ?_
      exact z_iret X hr rfl (fun t hG hF _ => ⟨⟨_, (), rfl, ⟨rfl, trivial⟩, ⟨ad, ⟨rfl, h11⟩, hG⟩⟩, hF⟩) dL_asks_114
    · rw [if_neg q2] at h
      by_cases q3 : u = 3
      · subst q3
        obtain rfl := Option.some.inj (show some (σ.1, (-108 : Int32)) = some o from h)
        refine ⟨[(2, 110, 37, 109)], 115, 39, 109, [], rfl, by decide, fun q9 => ?_⟩
        refine z_astore X dL_asks_115 (by rw [hml]; decide) rfl rfl ?_
        refine z_bipush (v := -108) X dL_asks_117 (by decide) ?_
        refine zz.widen (k := 5) (n := 1832) (by omega) (by omega) ?_
        exact z_iret X hr rfl (fun t hG hF _ => ⟨⟨_, (), rfl, ⟨rfl, trivial⟩, ⟨ad, ⟨rfl, h11⟩, hG⟩⟩, hF⟩) dL_asks_119
      · rw [if_neg q3] at h
        exact nomatch h
  · rw [hw.1] at h
    obtain rfl := Option.some.inj (show some w9.1 = some o from h)
    refine z_goto (tgt := 109) X dL_asks_57 (by decide) ?_
    refine zz.widen (k := 5) (n := 1832) (by omega) (by omega) ?_
    exact z_iret X hr rfl (fun t hG hF _ => ⟨⟨_, (), rfl, ⟨rfl, trivial⟩, ⟨w9.2, ⟨axt_ob hw.2.1 h11, Nat.lt_of_lt_of_le h11 (hw.2.2 11)⟩, hG⟩⟩, hF⟩) dL_asks_109
-- give
set_option maxRecDepth 100000 in
set_option maxHeartbeats 4000000 in
theorem la_give (l : Launch) {D : va_G} {dA : Nat → ClassId} {A : Nat → Prop} {n : Nat} (hst : l.stackTraces = false) (hA : ∀ q, n ≤ q → A q) {σ : GS} {ob : Nat} {ar : Nat → Nat} {a1 a2 a3 : Int32} {o : CW × Int32} (h : ak_give σ.1 a1 a2 a3 = some o) : vx_Met l yL_asks (.codeWith yL_asks cL_asks 6 (some .int) (hdT [(2, 110, 37, 109), (3, 115, 39, 109)]) :: gT) ({ frames := 15, cells := 3, slots := 18, locals := 630 } : Room) (va_Pc [.ref ob, .int 3, .int a1, .int a2, .int a3] (zBN D dA A n (gw D dA A σ ob ar))) (va_Qi (fun r (_ : Unit) => r = o.2 ∧ True) (fun _ t => gw D dA A (o.1, σ.2) ob ar t.heap) A) (vx_X (fun (_ : Unit) => False) (fun _ _ _ => False) A) (3) (18) A := by
  refine z_metH (by decide) hA hst (Nat.le_of_ble_eq_true rfl) rfl rfl (fun p e s m below meth c X hNc hml hr hh => ?_)
  refine zz.ex (G' := fun ad H => (ad 11 0 = ob ∧ 0 < σ.1.2.2 11) ∧ cx D dA A σ.1.1 σ.1.2.1 σ.1.2.2 ad (lx dA σ.2 ar) H) (fun ad => ?_)
  refine zz.pre (fun H hG => hG.1) (fun hoh => ?_)
  refine zz.conseq (fun H hG => hG.2) ?_
  obtain ⟨rfl, h11⟩ := hoh
  unfold ak_give at h
  refine z_iload_n X dL_asks_0 rfl rfl ?_
  refine z_if_ne (tgt := 23) X dL_asks_1 (by decide) (fun q => absurd q (by decide)) (fun _ => ?_)
  refine z_iload_n X dL_asks_23 rfl rfl ?_
  refine z_iconst (v := 1) X dL_asks_24 (by decide) ?_
  refine z_icmp_ne (tgt := 47) X dL_asks_25 (by decide) (fun q => absurd q (by decide)) (fun _ => ?_)
  refine z_iload_n X dL_asks_47 rfl rfl ?_
  refine z_iconst (v := 2) X dL_asks_48 (by decide) ?_
  refine z_icmp_ne (tgt := 60) X dL_asks_49 (by decide) (fun q => absurd q (by decide)) (fun _ => ?_)
  refine z_iload_n X dL_asks_60 rfl rfl ?_
  refine z_iconst (v := 3) X dL_asks_61 (by decide) ?_
  refine z_icmp_ne (tgt := 76) X dL_asks_62 (by decide) (fun _ => ?_) (fun q => absurd rfl q)
  refine z_aload_n X dL_asks_65 rfl rfl ?_
  refine z_iload_n X dL_asks_66 rfl rfl ?_
  refine z_iload_n X dL_asks_67 rfl rfl ?_
  refine z_iload X dL_asks_68 rfl ?_
  obtain ⟨o1, co1, h⟩ := zb2 h
  refine z_xVc (As := [.int a1, .int a2, .int a3]) (rest := []) (nA := 3) (mc := 3) (ms := 18) (rm := ({ frames := 7, cells := 3, slots := 18, locals := 294 } : Room)) (S := Rho × Int32) (r0 := fun w9 => w9.2) (px := fun u => o1 = .inr u) (pu := fun w9 => o1 = .inl w9 ∧ True) (GX := cx D dA A σ.1.1 σ.1.2.1 σ.1.2.2 ad (lx dA σ.2 ar)) (G1 := fun w9 => cx D dA A w9.1 σ.1.2.1 σ.1.2.2 ad (lx dA σ.2 ar)) X hNc [(2, 110, 37, 109), (3, 115, 39, 109)] hh (by decide) (by
    intro z hz
    simp only [List.mem_cons, List.not_mem_nil, or_false] at hz
    rcases hz with rfl | rfl
    · exact n_393
    · exact n_394) (cc_give l X.2.2.2.2.2.2.2.2 X.2.2.2.2.2.2.1 h11 co1) n_698 n_699 n_700 n_1 n_701 nh_yX11_give ⟨rfl, rfl, Nat.le_of_ble_eq_true rfl, Nat.le_of_ble_eq_true rfl⟩ rfl (fun _ hG => cx_recv X (k := 11) (n := 9) rfl rfl h11 hG) rfl (Nat.le_of_ble_eq_true rfl) dL_asks_70 ⟨by show _ ≤ 3; omega, by show _ ≤ 18; omega⟩ (fun u hu => ?_) (fun w9 hw => ?_)
  · rw [hu] at h
    replace h : ex2 σ.1 u = some o := h
    unfold ex2 at h
    by_cases q2 : u = 2
    · subst q2
      obtain rfl := Option.some.inj (show some (σ.1, (-109 : Int32)) = some o from h)
      refine ⟨[], 110, 37, 109, [(3, 115, 39, 109)], rfl, by decide, fun q9 => ?_⟩
      refine z_astore X dL_asks_110 (by rw [hml]; decide) rfl rfl ?_
      refine z_bipush (v := -109) X dL_asks_112 (by decide) ?_
      refine zz.widen (k := 3) (n := 18) (by omega) (by omega) ?_
      exact z_iret X hr rfl (fun t hG hF _ => ⟨⟨_, (), rfl, ⟨rfl, trivial⟩, ⟨ad, ⟨rfl, h11⟩, hG⟩⟩, hF⟩) dL_asks_114
    · rw [if_neg q2] at h
      by_cases q3 : u = 3
      · subst q3
        obtain rfl := Option.some.inj (show some (σ.1, (-108 : Int32)) = some o from h)
        refine ⟨[(2, 110, 37, 109)], 115, 39, 109, [], rfl, by decide, fun q9 => ?_⟩
        refine z_astore X dL_asks_115 (by rw [hml]; decide) rfl rfl ?_
        refine z_bipush (v := -108) X dL_asks_117 (by decide) ?_
        refine zz.widen (k := 3) (n := 18) (by omega) (by omega) ?_
        exact z_iret X hr rfl (fun t hG hF _ => ⟨⟨_, (), rfl, ⟨rfl, trivial⟩, ⟨ad, ⟨rfl, h11⟩, hG⟩⟩, hF⟩) dL_asks_119
      · rw [if_neg q3] at h
        exact nomatch h
  · rw [hw.1] at h
    obtain rfl := Option.some.inj (show some ((w9.1, σ.1.2), w9.2) = some o from h)
    refine z_goto (tgt := 109) X dL_asks_73 (by decide) ?_
    refine zz.widen (k := 3) (n := 18) (by omega) (by omega) ?_
    exact z_iret X hr rfl (fun t hG hF _ => ⟨⟨_, (), rfl, ⟨rfl, trivial⟩, ⟨ad, ⟨rfl, h11⟩, hG⟩⟩, hF⟩) dL_asks_109
-- setWallet
set_option maxRecDepth 100000 in
set_option maxHeartbeats 4000000 in
theorem la_setWallet (l : Launch) {D : va_G} {dA : Nat → ClassId} {A : Nat → Prop} {n : Nat} (hst : l.stackTraces = false) (hA : ∀ q, n ≤ q → A q) {σ : GS} {ob : Nat} {ar : Nat → Nat} {a1 a2 a3 : Int32} {o : CW × Int32} (h : ak_setWallet σ.1 a1 a2 a3 = some o) : vx_Met l yL_asks (.codeWith yL_asks cL_asks 6 (some .int) (hdT [(2, 110, 37, 109), (3, 115, 39, 109)]) :: gT) ({ frames := 15, cells := 3, slots := 18, locals := 630 } : Room) (va_Pc [.ref ob, .int 4, .int a1, .int a2, .int a3] (zBN D dA A n (gw D dA A σ ob ar))) (va_Qi (fun r (_ : Unit) => r = o.2 ∧ True) (fun _ t => gw D dA A (o.1, σ.2) ob ar t.heap) A) (vx_X (fun (_ : Unit) => False) (fun _ _ _ => False) A) (3) (18) A := by
  refine z_metH (by decide) hA hst (Nat.le_of_ble_eq_true rfl) rfl rfl (fun p e s m below meth c X hNc hml hr hh => ?_)
  refine zz.ex (G' := fun ad H => (ad 11 0 = ob ∧ 0 < σ.1.2.2 11) ∧ cx D dA A σ.1.1 σ.1.2.1 σ.1.2.2 ad (lx dA σ.2 ar) H) (fun ad => ?_)
  refine zz.pre (fun H hG => hG.1) (fun hoh => ?_)
  refine zz.conseq (fun H hG => hG.2) ?_
  obtain ⟨rfl, h11⟩ := hoh
  unfold ak_setWallet at h
  refine z_iload_n X dL_asks_0 rfl rfl ?_
  refine z_if_ne (tgt := 23) X dL_asks_1 (by decide) (fun q => absurd q (by decide)) (fun _ => ?_)
  refine z_iload_n X dL_asks_23 rfl rfl ?_
  refine z_iconst (v := 1) X dL_asks_24 (by decide) ?_
  refine z_icmp_ne (tgt := 47) X dL_asks_25 (by decide) (fun q => absurd q (by decide)) (fun _ => ?_)
  refine z_iload_n X dL_asks_47 rfl rfl ?_
  refine z_iconst (v := 2) X dL_asks_48 (by decide) ?_
  refine z_icmp_ne (tgt := 60) X dL_asks_49 (by decide) (fun q => absurd q (by decide)) (fun _ => ?_)
  refine z_iload_n X dL_asks_60 rfl rfl ?_
  refine z_iconst (v := 3) X dL_asks_61 (by decide) ?_
  refine z_icmp_ne (tgt := 76) X dL_asks_62 (by decide) (fun q => absurd q (by decide)) (fun _ => ?_)
  refine z_iload_n X dL_asks_76 rfl rfl ?_
  refine z_iconst (v := 4) X dL_asks_77 (by decide) ?_
  refine z_icmp_ne (tgt := 90) X dL_asks_78 (by decide) (fun _ => ?_) (fun q => absurd rfl q)
  refine z_aload_n X dL_asks_81 rfl rfl ?_
  refine z_iload_n X dL_asks_82 rfl rfl ?_
  refine z_iload_n X dL_asks_83 rfl rfl ?_
  obtain ⟨o1, co1, h⟩ := zb2 h
  refine z_xVc (As := [.int a1, .int a2]) (rest := []) (nA := 2) (mc := 3) (ms := 18) (rm := ({ frames := 7, cells := 3, slots := 18, locals := 294 } : Room)) (S := Rho × Int32) (r0 := fun w9 => w9.2) (px := fun u => o1 = .inr u) (pu := fun w9 => o1 = .inl w9 ∧ True) (GX := cx D dA A σ.1.1 σ.1.2.1 σ.1.2.2 ad (lx dA σ.2 ar)) (G1 := fun w9 => cx D dA A w9.1 σ.1.2.1 σ.1.2.2 ad (lx dA σ.2 ar)) X hNc [(2, 110, 37, 109), (3, 115, 39, 109)] hh (by decide) (by
    intro z hz
    simp only [List.mem_cons, List.not_mem_nil, or_false] at hz
    rcases hz with rfl | rfl
    · exact n_393
    · exact n_394) (cc_setWallet l X.2.2.2.2.2.2.2.2 X.2.2.2.2.2.2.1 h11 co1) n_713 n_714 n_715 n_1 n_716 nh_yX11_setWallet ⟨rfl, rfl, Nat.le_of_ble_eq_true rfl, Nat.le_of_ble_eq_true rfl⟩ rfl (fun _ hG => cx_recv X (k := 11) (n := 9) rfl rfl h11 hG) rfl (Nat.le_of_ble_eq_true rfl) dL_asks_84 ⟨by show _ ≤ 3; omega, by show _ ≤ 18; omega⟩ (fun u hu => ?_) (fun w9 hw => ?_)
  · rw [hu] at h
    replace h : ex2 σ.1 u = some o := h
    unfold ex2 at h
    by_cases q2 : u = 2
    · subst q2
      obtain rfl := Option.some.inj (show some (σ.1, (-109 : Int32)) = some o from h)
      refine ⟨[], 110, 37, 109, [(3, 115, 39, 109)], rfl, by decide, fun q9 => ?_⟩
      refine z_astore X dL_asks_110 (by rw [hml]; decide) rfl rfl ?_
      refine z_bipush (v := -109) X dL_asks_112 (by decide) ?_
      refine zz.widen (k := 3) (n := 18) (by omega) (by omega) ?_
      exact z_iret X hr rfl (fun t hG hF _ => ⟨⟨_, (), rfl, ⟨rfl, trivial⟩, ⟨ad, ⟨rfl, h11⟩, hG⟩⟩, hF⟩) dL_asks_114
    · rw [if_neg q2] at h
      by_cases q3 : u = 3
      · subst q3
        obtain rfl := Option.some.inj (show some (σ.1, (-108 : Int32)) = some o from h)
        refine ⟨[(2, 110, 37, 109)], 115, 39, 109, [], rfl, by decide, fun q9 => ?_⟩
        refine z_astore X dL_asks_115 (by rw [hml]; decide) rfl rfl ?_
        refine z_bipush (v := -108) X dL_asks_117 (by decide) ?_
        refine zz.widen (k := 3) (n := 18) (by omega) (by omega) ?_
        exact z_iret X hr rfl (fun t hG hF _ => ⟨⟨_, (), rfl, ⟨rfl, trivial⟩, ⟨ad, ⟨rfl, h11⟩, hG⟩⟩, hF⟩) dL_asks_119
      · rw [if_neg q3] at h
        exact nomatch h
  · rw [hw.1] at h
    obtain rfl := Option.some.inj (show some ((w9.1, σ.1.2), w9.2) = some o from h)
    refine z_goto (tgt := 109) X dL_asks_87 (by decide) ?_
    refine zz.widen (k := 3) (n := 18) (by omega) (by omega) ?_
    exact z_iret X hr rfl (fun t hG hF _ => ⟨⟨_, (), rfl, ⟨rfl, trivial⟩, ⟨ad, ⟨rfl, h11⟩, hG⟩⟩, hF⟩) dL_asks_109
-- setZone
set_option maxRecDepth 100000 in
set_option maxHeartbeats 4000000 in
theorem la_setZone (l : Launch) {D : va_G} {dA : Nat → ClassId} {A : Nat → Prop} {n : Nat} (hst : l.stackTraces = false) (hA : ∀ q, n ≤ q → A q) {σ : GS} {ob : Nat} {ar : Nat → Nat} {a1 a2 a3 : Int32} {o : CW × Int32} (h : ak_setZone σ.1 a1 a2 a3 = some o) : vx_Met l yL_asks (.codeWith yL_asks cL_asks 6 (some .int) (hdT [(2, 110, 37, 109), (3, 115, 39, 109)]) :: gT) ({ frames := 15, cells := 2, slots := 12, locals := 630 } : Room) (va_Pc [.ref ob, .int 5, .int a1, .int a2, .int a3] (zBN D dA A n (gw D dA A σ ob ar))) (va_Qi (fun r (_ : Unit) => r = o.2 ∧ True) (fun _ t => gw D dA A (o.1, σ.2) ob ar t.heap) A) (vx_X (fun (_ : Unit) => False) (fun _ _ _ => False) A) (2) (12) A := by
  refine z_metH (by decide) hA hst (Nat.le_of_ble_eq_true rfl) rfl rfl (fun p e s m below meth c X hNc hml hr hh => ?_)
  refine zz.ex (G' := fun ad H => (ad 11 0 = ob ∧ 0 < σ.1.2.2 11) ∧ cx D dA A σ.1.1 σ.1.2.1 σ.1.2.2 ad (lx dA σ.2 ar) H) (fun ad => ?_)
  refine zz.pre (fun H hG => hG.1) (fun hoh => ?_)
  refine zz.conseq (fun H hG => hG.2) ?_
  obtain ⟨rfl, h11⟩ := hoh
  unfold ak_setZone at h
  refine z_iload_n X dL_asks_0 rfl rfl ?_
  refine z_if_ne (tgt := 23) X dL_asks_1 (by decide) (fun q => absurd q (by decide)) (fun _ => ?_)
  refine z_iload_n X dL_asks_23 rfl rfl ?_
  refine z_iconst (v := 1) X dL_asks_24 (by decide) ?_
  refine z_icmp_ne (tgt := 47) X dL_asks_25 (by decide) (fun q => absurd q (by decide)) (fun _ => ?_)
  refine z_iload_n X dL_asks_47 rfl rfl ?_
  refine z_iconst (v := 2) X dL_asks_48 (by decide) ?_
  refine z_icmp_ne (tgt := 60) X dL_asks_49 (by decide) (fun q => absurd q (by decide)) (fun _ => ?_)
  refine z_iload_n X dL_asks_60 rfl rfl ?_
  refine z_iconst (v := 3) X dL_asks_61 (by decide) ?_
  refine z_icmp_ne (tgt := 76) X dL_asks_62 (by decide) (fun q => absurd q (by decide)) (fun _ => ?_)
  refine z_iload_n X dL_asks_76 rfl rfl ?_
  refine z_iconst (v := 4) X dL_asks_77 (by decide) ?_
  refine z_icmp_ne (tgt := 90) X dL_asks_78 (by decide) (fun q => absurd q (by decide)) (fun _ => ?_)
  refine z_iload_n X dL_asks_90 rfl rfl ?_
  refine z_iconst (v := 5) X dL_asks_91 (by decide) ?_
  refine z_icmp_ne (tgt := 104) X dL_asks_92 (by decide) (fun _ => ?_) (fun q => absurd rfl q)
  refine z_aload_n X dL_asks_95 rfl rfl ?_
  refine z_iload_n X dL_asks_96 rfl rfl ?_
  refine z_iload_n X dL_asks_97 rfl rfl ?_
  obtain ⟨o1, co1, h⟩ := zb2 h
  refine z_xVc (As := [.int a1, .int a2]) (rest := []) (nA := 2) (mc := 2) (ms := 12) (rm := ({ frames := 9, cells := 2, slots := 12, locals := 378 } : Room)) (S := Rho × Int32) (r0 := fun w9 => w9.2) (px := fun u => o1 = .inr u) (pu := fun w9 => o1 = .inl w9 ∧ True) (GX := cx D dA A σ.1.1 σ.1.2.1 σ.1.2.2 ad (lx dA σ.2 ar)) (G1 := fun w9 => cx D dA A w9.1 σ.1.2.1 σ.1.2.2 ad (lx dA σ.2 ar)) X hNc [(2, 110, 37, 109), (3, 115, 39, 109)] hh (by decide) (by
    intro z hz
    simp only [List.mem_cons, List.not_mem_nil, or_false] at hz
    rcases hz with rfl | rfl
    · exact n_393
    · exact n_394) (cc_setZone l X.2.2.2.2.2.2.2.2 X.2.2.2.2.2.2.1 h11 co1) n_718 n_719 n_720 n_1 n_721 nh_yX11_setZone ⟨rfl, rfl, Nat.le_of_ble_eq_true rfl, Nat.le_of_ble_eq_true rfl⟩ rfl (fun _ hG => cx_recv X (k := 11) (n := 9) rfl rfl h11 hG) rfl (Nat.le_of_ble_eq_true rfl) dL_asks_98 ⟨by show _ ≤ 2; omega, by show _ ≤ 12; omega⟩ (fun u hu => ?_) (fun w9 hw => ?_)
  · rw [hu] at h
    replace h : ex2 σ.1 u = some o := h
    unfold ex2 at h
    by_cases q2 : u = 2
    · subst q2
      obtain rfl := Option.some.inj (show some (σ.1, (-109 : Int32)) = some o from h)
      refine ⟨[], 110, 37, 109, [(3, 115, 39, 109)], rfl, by decide, fun q9 => ?_⟩
      refine z_astore X dL_asks_110 (by rw [hml]; decide) rfl rfl ?_
      refine z_bipush (v := -109) X dL_asks_112 (by decide) ?_
      refine zz.widen (k := 2) (n := 12) (by omega) (by omega) ?_
      exact z_iret X hr rfl (fun t hG hF _ => ⟨⟨_, (), rfl, ⟨rfl, trivial⟩, ⟨ad, ⟨rfl, h11⟩, hG⟩⟩, hF⟩) dL_asks_114
    · rw [if_neg q2] at h
      by_cases q3 : u = 3
      · subst q3
        obtain rfl := Option.some.inj (show some (σ.1, (-108 : Int32)) = some o from h)
        refine ⟨[(2, 110, 37, 109)], 115, 39, 109, [], rfl, by decide, fun q9 => ?_⟩
        refine z_astore X dL_asks_115 (by rw [hml]; decide) rfl rfl ?_
        refine z_bipush (v := -108) X dL_asks_117 (by decide) ?_
        refine zz.widen (k := 2) (n := 12) (by omega) (by omega) ?_
        exact z_iret X hr rfl (fun t hG hF _ => ⟨⟨_, (), rfl, ⟨rfl, trivial⟩, ⟨ad, ⟨rfl, h11⟩, hG⟩⟩, hF⟩) dL_asks_119
      · rw [if_neg q3] at h
        exact nomatch h
  · rw [hw.1] at h
    obtain rfl := Option.some.inj (show some ((w9.1, σ.1.2), w9.2) = some o from h)
    refine z_goto (tgt := 109) X dL_asks_101 (by decide) ?_
    refine zz.widen (k := 2) (n := 12) (by omega) (by omega) ?_
    exact z_iret X hr rfl (fun t hG hF _ => ⟨⟨_, (), rfl, ⟨rfl, trivial⟩, ⟨ad, ⟨rfl, h11⟩, hG⟩⟩, hF⟩) dL_asks_109
-- pass
set_option maxRecDepth 100000 in
set_option maxHeartbeats 4000000 in
theorem la_pass (l : Launch) {D : va_G} {dA : Nat → ClassId} {A : Nat → Prop} {n : Nat} (hst : l.stackTraces = false) (hA : ∀ q, n ≤ q → A q) {σ : GS} {ob : Nat} {ar : Nat → Nat} {a1 a2 a3 : Int32} {o : CW × Int32} {d : Nat} (hd : o.2 = nI d) (hd9 : d ≤ 9000000) (h : ak_pass σ.1 a1 a2 a3 = some o) : vx_Met l yL_asks (.codeWith yL_asks cL_asks 6 (some .int) (hdT [(2, 110, 37, 109), (3, 115, 39, 109)]) :: gT) ({ frames := 15, cells := 4 * d + 1, slots := 1826 * d + 6, locals := 630 } : Room) (va_Pc [.ref ob, .int 6, .int a1, .int a2, .int a3] (zBN D dA A n (gw D dA A σ ob ar))) (va_Qi (fun r (_ : Unit) => r = o.2 ∧ True) (fun _ t => gw D dA A (o.1, σ.2) ob ar t.heap) A) (vx_X (fun (_ : Unit) => False) (fun _ _ _ => False) A) (4 * d + 1) (1826 * d + 6) A := by
  refine z_metH (by decide) hA hst (Nat.le_of_ble_eq_true rfl) rfl rfl (fun p e s m below meth c X hNc hml hr hh => ?_)
  refine zz.ex (G' := fun ad H => (ad 11 0 = ob ∧ 0 < σ.1.2.2 11) ∧ cx D dA A σ.1.1 σ.1.2.1 σ.1.2.2 ad (lx dA σ.2 ar) H) (fun ad => ?_)
  refine zz.pre (fun H hG => hG.1) (fun hoh => ?_)
  refine zz.conseq (fun H hG => hG.2) ?_
  obtain ⟨rfl, h11⟩ := hoh
  unfold ak_pass at h
  refine z_iload_n X dL_asks_0 rfl rfl ?_
  refine z_if_ne (tgt := 23) X dL_asks_1 (by decide) (fun q => absurd q (by decide)) (fun _ => ?_)
  refine z_iload_n X dL_asks_23 rfl rfl ?_
  refine z_iconst (v := 1) X dL_asks_24 (by decide) ?_
  refine z_icmp_ne (tgt := 47) X dL_asks_25 (by decide) (fun q => absurd q (by decide)) (fun _ => ?_)
  refine z_iload_n X dL_asks_47 rfl rfl ?_
  refine z_iconst (v := 2) X dL_asks_48 (by decide) ?_
  refine z_icmp_ne (tgt := 60) X dL_asks_49 (by decide) (fun q => absurd q (by decide)) (fun _ => ?_)
  refine z_iload_n X dL_asks_60 rfl rfl ?_
  refine z_iconst (v := 3) X dL_asks_61 (by decide) ?_
  refine z_icmp_ne (tgt := 76) X dL_asks_62 (by decide) (fun q => absurd q (by decide)) (fun _ => ?_)
  refine z_iload_n X dL_asks_76 rfl rfl ?_
  refine z_iconst (v := 4) X dL_asks_77 (by decide) ?_
  refine z_icmp_ne (tgt := 90) X dL_asks_78 (by decide) (fun q => absurd q (by decide)) (fun _ => ?_)
  refine z_iload_n X dL_asks_90 rfl rfl ?_
  refine z_iconst (v := 5) X dL_asks_91 (by decide) ?_
  refine z_icmp_ne (tgt := 104) X dL_asks_92 (by decide) (fun q => absurd q (by decide)) (fun _ => ?_)
  refine z_aload_n X dL_asks_104 rfl rfl ?_
  refine z_iload_n X dL_asks_105 rfl rfl ?_
  obtain ⟨o1, co1, h⟩ := zb2 h
  have hd7 : ∀ u, o1 = .inl u → u.2 = nI d := fun u hu => by
    rw [hu] at h
    obtain rfl := Option.some.inj (show some u = some o from h)
    exact hd
  refine z_xVc (As := [.int a1]) (rest := []) (nA := 1) (mc := 4 * d + 1) (ms := 1826 * d + 6) (rm := ({ frames := 14, cells := 4 * d + 1, slots := 1826 * d + 6, locals := 588 } : Room)) (S := (CW × Int32) × Adr) (r0 := fun w9 => w9.1.2) (px := fun u => o1 = .inr u) (pu := fun w9 => o1 = .inl w9.1 ∧ axt σ.1.2.2 ad w9.2 ∧ (∀ k, σ.1.2.2 k ≤ w9.1.1.2.2 k)) (GX := cx D dA A σ.1.1 σ.1.2.1 σ.1.2.2 ad (lx dA σ.2 ar)) (G1 := fun w9 => cx D dA A w9.1.1.1 w9.1.1.2.1 w9.1.1.2.2 w9.2 (lx dA σ.2 ar)) X hNc [(2, 110, 37, 109), (3, 115, 39, 109)] hh (by decide) (by
    intro z hz
    simp only [List.mem_cons, List.not_mem_nil, or_false] at hz
    rcases hz with rfl | rfl
    · exact n_393
    · exact n_394) (cc_pass l X.2.2.2.2.2.2.2.2 X.2.2.2.2.2.2.1 h11 hd7 hd9 co1) n_733 n_734 n_735 n_1 n_736 nh_yX11_pass ⟨rfl, rfl, Nat.le_of_ble_eq_true rfl, Nat.le_of_ble_eq_true rfl⟩ rfl (fun _ hG => cx_recv X (k := 11) (n := 9) rfl rfl h11 hG) rfl (Nat.le_of_ble_eq_true rfl) dL_asks_106 ⟨by show _ ≤ 4 * d + 1; omega, by show _ ≤ 1826 * d + 6; omega⟩ (fun u hu => ?_) (fun w9 hw => ?_)
  · rw [hu] at h
    replace h : ex2 σ.1 u = some o := h
    unfold ex2 at h
    by_cases q2 : u = 2
    · subst q2
      obtain rfl := Option.some.inj (show some (σ.1, (-109 : Int32)) = some o from h)
      refine ⟨[], 110, 37, 109, [(3, 115, 39, 109)], rfl, by decide, fun q9 => ?_⟩
      refine z_astore X dL_asks_110 (by rw [hml]; decide) rfl rfl ?_
      refine z_bipush (v := -109) X dL_asks_112 (by decide) ?_
      refine zz.widen (k := 4 * d + 1) (n := 1826 * d + 6) (by omega) (by omega) ?_
      exact z_iret X hr rfl (fun t hG hF _ => ⟨⟨_, (), rfl, ⟨rfl, trivial⟩, ⟨ad, ⟨rfl, h11⟩, hG⟩⟩, hF⟩) dL_asks_114
    · rw [if_neg q2] at h
      by_cases q3 : u = 3
      · subst q3
        obtain rfl := Option.some.inj (show some (σ.1, (-108 : Int32)) = some o from h)
        refine ⟨[(2, 110, 37, 109)], 115, 39, 109, [], rfl, by decide, fun q9 => ?_⟩
        refine z_astore X dL_asks_115 (by rw [hml]; decide) rfl rfl ?_
        refine z_bipush (v := -108) X dL_asks_117 (by decide) ?_
        refine zz.widen (k := 4 * d + 1) (n := 1826 * d + 6) (by omega) (by omega) ?_
        exact z_iret X hr rfl (fun t hG hF _ => ⟨⟨_, (), rfl, ⟨rfl, trivial⟩, ⟨ad, ⟨rfl, h11⟩, hG⟩⟩, hF⟩) dL_asks_119
      · rw [if_neg q3] at h
        exact nomatch h
  · rw [hw.1] at h
    obtain rfl := Option.some.inj (show some w9.1 = some o from h)
    refine zz.widen (k := 4 * d + 1) (n := 1826 * d + 6) (by omega) (by omega) ?_
    exact z_iret X hr rfl (fun t hG hF _ => ⟨⟨_, (), rfl, ⟨rfl, trivial⟩, ⟨w9.2, ⟨axt_ob hw.2.1 h11, Nat.lt_of_lt_of_le h11 (hw.2.2 11)⟩, hG⟩⟩, hF⟩) dL_asks_109
-- buy
set_option maxRecDepth 100000 in
set_option maxHeartbeats 4000000 in
theorem la_buy (l : Launch) {D : va_G} {dA : Nat → ClassId} {A : Nat → Prop} {n : Nat} (hst : l.stackTraces = false) (hA : ∀ q, n ≤ q → A q) {σ : GS} {ob : Nat} {ar : Nat → Nat} {a1 a2 a3 a4 a5 a6 : Int32} {o : CW × Int32} (h : ak_buy σ.1 a1 a2 a3 a4 a5 a6 = some o) : vx_Met l yL_buys (.codeWith yL_buys cL_buys 8 (some .int) (hdT [(3, 14, 39, 13)]) :: gT) ({ frames := 15, cells := 4, slots := 3030, locals := 630 } : Room) (va_Pc [.ref ob, .int a1, .int a2, .int a3, .int a4, .int a5, .int a6] (zBN D dA A n (gw D dA A σ ob ar))) (va_Qi (fun r (_ : Unit) => r = o.2 ∧ True) (fun _ t => gw D dA A (o.1, σ.2) ob ar t.heap) A) (vx_X (fun (_ : Unit) => False) (fun _ _ _ => False) A) 4 3030 A := by
  refine z_metH (by decide) hA hst (Nat.le_of_ble_eq_true rfl) rfl rfl (fun p e s m below meth c X hNc hml hr hh => ?_)
  refine zz.ex (G' := fun ad H => (ad 11 0 = ob ∧ 0 < σ.1.2.2 11) ∧ cx D dA A σ.1.1 σ.1.2.1 σ.1.2.2 ad (lx dA σ.2 ar) H) (fun ad => ?_)
  refine zz.pre (fun H hG => hG.1) (fun hoh => ?_)
  refine zz.conseq (fun H hG => hG.2) ?_
  obtain ⟨rfl, h11⟩ := hoh
  unfold ak_buy at h
  obtain ⟨o1, co1, h⟩ := zb2 h
  refine z_aload_n X dL_buys_0 rfl rfl ?_
  refine z_iload_n X dL_buys_1 rfl rfl ?_
  refine z_iload_n X dL_buys_2 rfl rfl ?_
  refine z_iload_n X dL_buys_3 rfl rfl ?_
  refine z_iload X dL_buys_4 rfl ?_
  refine z_iload X dL_buys_6 rfl ?_
  refine z_iload X dL_buys_8 rfl ?_
  refine z_xVc (As := [.int a1, .int a2, .int a3, .int a4, .int a5, .int a6]) (rest := []) (nA := 6) (mc := 4) (ms := 3030) (rm := ({ frames := 10, cells := 4, slots := 3030, locals := 420 } : Room)) (S := (CW × Int32) × Adr) (r0 := fun w9 => w9.1.2) (px := fun u => o1 = .inr u) (pu := fun w9 => o1 = .inl w9.1 ∧ axt σ.1.2.2 ad w9.2 ∧ (∀ k, σ.1.2.2 k ≤ w9.1.1.2.2 k)) (GX := cx D dA A σ.1.1 σ.1.2.1 σ.1.2.2 ad (lx dA σ.2 ar)) (G1 := fun w9 => cx D dA A w9.1.1.1 w9.1.1.2.1 w9.1.1.2.2 w9.2 (lx dA σ.2 ar)) X hNc [(3, 14, 39, 13)] hh (by decide) (by
    intro z hz
    simp only [List.mem_cons, List.not_mem_nil, or_false] at hz
    subst hz
    exact n_394) (cc_buy l X.2.2.2.2.2.2.2.2 X.2.2.2.2.2.2.1 h11 co1) n_813 n_814 n_815 n_1 n_816 nh_yX11_buy ⟨rfl, rfl, Nat.le_of_ble_eq_true rfl, Nat.le_of_ble_eq_true rfl⟩ rfl (fun _ hG => cx_recv X (k := 11) (n := 9) rfl rfl h11 hG) rfl (Nat.le_of_ble_eq_true rfl) dL_buys_10 ⟨by show _ ≤ 4; omega, by show _ ≤ 3030; omega⟩ (fun u hu => ?_) (fun w9 hw => ?_)
  · rw [hu] at h
    replace h : ex3 σ.1 u = some o := h
    unfold ex3 at h
    by_cases q3 : u = 3
    · subst q3
      obtain rfl := Option.some.inj (show some (σ.1, (-108 : Int32)) = some o from h)
      refine ⟨[], 14, 39, 13, [], rfl, by decide, fun q9 => ?_⟩
      refine z_astore X dL_buys_14 (by rw [hml]; decide) rfl rfl ?_
      refine z_bipush (v := -108) X dL_buys_16 (by decide) ?_
      refine zz.widen (k := 4) (n := 3030) (by omega) (by omega) ?_
      exact z_iret X hr rfl (fun t hG hF _ => ⟨⟨_, (), rfl, ⟨rfl, trivial⟩, ⟨ad, ⟨rfl, h11⟩, hG⟩⟩, hF⟩) dL_buys_18
    · rw [if_neg q3] at h
      exact nomatch h
  · rw [hw.1] at h
    obtain rfl := Option.some.inj (show some w9.1 = some o from h)
    refine zz.widen (k := 4) (n := 3030) (by omega) (by omega) ?_
    exact z_iret X hr rfl (fun t hG hF _ => ⟨⟨_, (), rfl, ⟨rfl, trivial⟩, ⟨w9.2, ⟨axt_ob hw.2.1 h11, Nat.lt_of_lt_of_le h11 (hw.2.2 11)⟩, hG⟩⟩, hF⟩) dL_buys_13
