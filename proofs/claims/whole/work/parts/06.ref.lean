-- thrown()I
def fr_thrown (ρ : Rho)  : Option (Int32) := some ((ρ 39 0))
set_option maxRecDepth 100000 in
set_option maxHeartbeats 4000000 in
theorem br_thrown {p : Program} {l : Launch} {e : Env} {s : State} {m : MethodId} {args : Array Value} {below : List Frame} {meth : Method} {c : Code} {D : va_G} {dA : Nat → ClassId} {A : Nat → Prop} {ad : Nat → Nat} {o : Int32} (X : zc p l s m args meth c cX12_thrown RX12 D dA A) (hml : c.maxLocals = 1) (hr : meth.sig.returnType = (some .int)) {ρ : Rho}  (h : fr_thrown ρ = some o) : zz p l e ({ frames := 20, cells := 0, slots := 0, locals := 200 } : Room) s m args below meth c A (rw D dA A ρ ad) 0 0 (MQ below (va_Qi (fun r (_ : Unit) => r = o ∧ True) (fun _ t => rw D dA A ρ ad t.heap) A) args s 0 0 A) 0 [(0, .ref (ad 40))] [] [] := by
  unfold fr_thrown at h
  refine z_aload_n X dX12_thrown_0 rfl rfl ?_
  refine r_getS X 39 rfl rfl g_1345 dX12_thrown_1 ?_
  obtain rfl := Option.some.inj h
  exact z_iret X hr rfl (fun t hG hF _ => ⟨⟨_, (), rfl, ⟨rfl, trivial⟩, hG⟩, hF⟩) dX12_thrown_4
theorem cr_thrown (l : Launch) {D : va_G} {dA : Nat → ClassId} {A : Nat → Prop} {n : Nat} {ad : Nat → Nat} (hst : l.stackTraces = false) (hA : ∀ q, n ≤ q → A q) {ρ : Rho}  {o : Int32} (h : fr_thrown ρ = some o) : Met l yX12_thrown (.code yX12_thrown cX12_thrown 1 (some .int) :: gT) ({ frames := 20, cells := 0, slots := 0, locals := 200 } : Room) (va_Pc [.ref (ad 40)] (zB D dA A n (rw D dA A ρ ad))) (va_Qi (fun r (_ : Unit) => r = o ∧ True) (fun _ t => rw D dA A ρ ad t.heap) A) 0 0 A :=
  z_met (by decide) hA hst (Nat.le_of_ble_eq_true rfl) rfl rfl (fun p e s m below meth c X hml hr _ => br_thrown X hml hr h)
-- can(I)Z
def fr_can (ρ : Rho) (a1 : Int32) : Option (Rho × Int32) := (some (cs ρ 39 0 (a1))).bind fun ρ1 => (if a1 = 0 then some (ρ1, 1)
  else some (ρ1, 0))
set_option maxRecDepth 100000 in
set_option maxHeartbeats 4000000 in
theorem br_can {p : Program} {l : Launch} {e : Env} {s : State} {m : MethodId} {args : Array Value} {below : List Frame} {meth : Method} {c : Code} {D : va_G} {dA : Nat → ClassId} {A : Nat → Prop} {ad : Nat → Nat} {o : Rho × Int32} (X : zc p l s m args meth c cX12_can RX12 D dA A) (hml : c.maxLocals = 2) (hr : meth.sig.returnType = (some .boolean)) {ρ : Rho} {a1 : Int32} (h : fr_can ρ a1 = some o) : zz p l e ({ frames := 20, cells := 0, slots := 0, locals := 200 } : Room) s m args below meth c A (rw D dA A ρ ad) 0 0 (MQ below (va_Qi (fun r (_ : Unit) => r = o.2 ∧ True) (fun _ t => rw D dA A o.1 ad t.heap) A) args s 0 0 A) 0 [(0, .ref (ad 40)), (1, .int (a1))] [] [] := by
  unfold fr_can at h
  refine z_aload_n X dX12_can_0 rfl rfl ?_
  refine z_iload_n X dX12_can_1 rfl rfl ?_
  obtain ⟨ρ1, eρ1, h⟩ := zb h
  refine r_putS X 39 rfl rfl rfl g_1345 eρ1 dX12_can_2 ?_
  refine z_iload_n X dX12_can_5 rfl rfl ?_
  refine z_if_ne (tgt := 13) X dX12_can_6 (by decide) (fun q => ?_) (fun q => ?_)
  · have h := zp q h
    refine z_iconst (v := 1) X dX12_can_9 (by decide) ?_
    refine z_goto (tgt := 14) X dX12_can_10 (by decide) ?_
    obtain rfl := Option.some.inj h
    exact z_iret X hr rfl (fun t hG hF _ => ⟨⟨_, (), rfl, ⟨rfl, trivial⟩, hG⟩, hF⟩) dX12_can_14
  · have h := zn q h
    refine z_iconst (v := 0) X dX12_can_13 (by decide) ?_
    obtain rfl := Option.some.inj h
    exact z_iret X hr rfl (fun t hG hF _ => ⟨⟨_, (), rfl, ⟨rfl, trivial⟩, hG⟩, hF⟩) dX12_can_14
theorem cr_can (l : Launch) {D : va_G} {dA : Nat → ClassId} {A : Nat → Prop} {n : Nat} {ad : Nat → Nat} (hst : l.stackTraces = false) (hA : ∀ q, n ≤ q → A q) {ρ : Rho} {a1 : Int32} {o : Rho × Int32} (h : fr_can ρ a1 = some o) : Met l yX12_can (.code yX12_can cX12_can 2 (some .boolean) :: gT) ({ frames := 20, cells := 0, slots := 0, locals := 200 } : Room) (va_Pc [.ref (ad 40), .int a1] (zB D dA A n (rw D dA A ρ ad))) (va_Qi (fun r (_ : Unit) => r = o.2 ∧ True) (fun _ t => rw D dA A o.1 ad t.heap) A) 0 0 A :=
  z_met (by decide) hA hst (Nat.le_of_ble_eq_true rfl) rfl rfl (fun p e s m below meth c X hml hr _ => br_can X hml hr h)
-- isIn(III)Z
def fr_isIn (ρ : Rho) (a1 : Int32) (a2 : Int32) (a3 : Int32) : Option (Int32) := (if a1 < a2 then some (0)
  else (if a3 < a1 then some (0)
  else some (1)))
set_option maxRecDepth 100000 in
set_option maxHeartbeats 4000000 in
theorem br_isIn {p : Program} {l : Launch} {e : Env} {s : State} {m : MethodId} {args : Array Value} {below : List Frame} {meth : Method} {c : Code} {D : va_G} {dA : Nat → ClassId} {A : Nat → Prop} {ad : Nat → Nat} {o : Int32} (X : zc p l s m args meth c cX12_isIn RX12 D dA A) (hml : c.maxLocals = 3) (hr : meth.sig.returnType = (some .boolean)) {ρ : Rho} {a1 : Int32} {a2 : Int32} {a3 : Int32} (h : fr_isIn ρ a1 a2 a3 = some o) : zz p l e ({ frames := 20, cells := 0, slots := 0, locals := 200 } : Room) s m args below meth c A (rw D dA A ρ ad) 0 0 (MQ below (va_Qi (fun r (_ : Unit) => r = o ∧ True) (fun _ t => rw D dA A ρ ad t.heap) A) args s 0 0 A) 0 [(0, .int (a1)), (1, .int (a2)), (2, .int (a3))] [] [] := by
  unfold fr_isIn at h
  refine z_iload_n X dX12_isIn_0 rfl rfl ?_
  refine z_iload_n X dX12_isIn_1 rfl rfl ?_
  refine z_icmp_lt (tgt := 14) X dX12_isIn_2 (by decide) (fun q => ?_) (fun q => ?_)
  · have h := zp q h
    refine z_iconst (v := 0) X dX12_isIn_14 (by decide) ?_
    obtain rfl := Option.some.inj h
    exact z_iret X hr rfl (fun t hG hF _ => ⟨⟨_, (), rfl, ⟨rfl, trivial⟩, hG⟩, hF⟩) dX12_isIn_15
  · have h := zn q h
    refine z_iload_n X dX12_isIn_5 rfl rfl ?_
    refine z_iload_n X dX12_isIn_6 rfl rfl ?_
    refine z_icmp_gt (tgt := 14) X dX12_isIn_7 (by decide) (fun q => ?_) (fun q => ?_)
    · have h := zp q h
      refine z_iconst (v := 0) X dX12_isIn_14 (by decide) ?_
      obtain rfl := Option.some.inj h
      exact z_iret X hr rfl (fun t hG hF _ => ⟨⟨_, (), rfl, ⟨rfl, trivial⟩, hG⟩, hF⟩) dX12_isIn_15
    · have h := zn q h
      refine z_iconst (v := 1) X dX12_isIn_10 (by decide) ?_
      refine z_goto (tgt := 15) X dX12_isIn_11 (by decide) ?_
      obtain rfl := Option.some.inj h
      exact z_iret X hr rfl (fun t hG hF _ => ⟨⟨_, (), rfl, ⟨rfl, trivial⟩, hG⟩, hF⟩) dX12_isIn_15
theorem cr_isIn (l : Launch) {D : va_G} {dA : Nat → ClassId} {A : Nat → Prop} {n : Nat} {ad : Nat → Nat} (hst : l.stackTraces = false) (hA : ∀ q, n ≤ q → A q) {ρ : Rho} {a1 : Int32} {a2 : Int32} {a3 : Int32} {o : Int32} (h : fr_isIn ρ a1 a2 a3 = some o) : Met l yX12_isIn (.code yX12_isIn cX12_isIn 3 (some .boolean) :: gT) ({ frames := 20, cells := 0, slots := 0, locals := 200 } : Room) (va_Pc [.int a1, .int a2, .int a3] (zB D dA A n (rw D dA A ρ ad))) (va_Qi (fun r (_ : Unit) => r = o ∧ True) (fun _ t => rw D dA A ρ ad t.heap) A) 0 0 A :=
  z_met (by decide) hA hst (Nat.le_of_ble_eq_true rfl) rfl rfl (fun p e s m below meth c X hml hr _ => br_isIn X hml hr h)
-- isCell(I)Z
def fr_isCell (ρ : Rho) (a1 : Int32) : Option (Int32) := (fr_isIn ρ (a1) (0) (7)).bind fun o1 => if o1 = 0 ∨ o1 = 1 then some (o1) else none
set_option maxRecDepth 100000 in
set_option maxHeartbeats 4000000 in
theorem br_isCell {p : Program} {l : Launch} {e : Env} {s : State} {m : MethodId} {args : Array Value} {below : List Frame} {meth : Method} {c : Code} {D : va_G} {dA : Nat → ClassId} {A : Nat → Prop} {ad : Nat → Nat} {o : Int32} (X : zc p l s m args meth c cX12_isCell RX12 D dA A) (hml : c.maxLocals = 1) (hr : meth.sig.returnType = (some .boolean)) {ρ : Rho} {a1 : Int32} (h : fr_isCell ρ a1 = some o) : zz p l e ({ frames := 40, cells := 0, slots := 0, locals := 400 } : Room) s m args below meth c A (rw D dA A ρ ad) 0 0 (MQ below (va_Qi (fun r (_ : Unit) => r = o ∧ True) (fun _ t => rw D dA A ρ ad t.heap) A) args s 0 0 A) 0 [(0, .int (a1))] [] [] := by
  unfold fr_isCell at h
  refine z_iload_n X dX12_isCell_0 rfl rfl ?_
  refine z_iconst (v := 0) X dX12_isCell_1 (by decide) ?_
  refine z_bipush (v := 7) X dX12_isCell_2 (by decide) ?_
  obtain ⟨o1, co1, h⟩ := zb2 h
  refine z_callSi (As := [.int (a1), .int (0), .int (7)]) (rest := []) (nA := 3) (r0 := o1) (pu := fun (_ : Unit) => True) (G1 := fun _ => rw D dA A ρ ad) X (cr_isIn l X.2.2.2.2.2.2.2.2 X.2.2.2.2.2.2.1 co1) g_1439 g_1440 g_15 g_1441 hd_yX12_isIn ⟨rfl, rfl, Nat.le_of_ble_eq_true rfl, Nat.le_of_ble_eq_true rfl⟩ rfl rfl (Nat.le_of_ble_eq_true rfl) dX12_isCell_4 ⟨Nat.le_refl _, Nat.le_refl _⟩ (fun _ _ => ?_)
  obtain ⟨q, h⟩ := zgp h
  obtain rfl := Option.some.inj h
  exact z_iret X hr (z_nb q) (fun t hG hF _ => ⟨⟨_, (), rfl, ⟨rfl, trivial⟩, hG⟩, hF⟩) dX12_isCell_7
theorem cr_isCell (l : Launch) {D : va_G} {dA : Nat → ClassId} {A : Nat → Prop} {n : Nat} {ad : Nat → Nat} (hst : l.stackTraces = false) (hA : ∀ q, n ≤ q → A q) {ρ : Rho} {a1 : Int32} {o : Int32} (h : fr_isCell ρ a1 = some o) : Met l yX12_isCell (.code yX12_isCell cX12_isCell 1 (some .boolean) :: gT) ({ frames := 40, cells := 0, slots := 0, locals := 400 } : Room) (va_Pc [.int a1] (zB D dA A n (rw D dA A ρ ad))) (va_Qi (fun r (_ : Unit) => r = o ∧ True) (fun _ t => rw D dA A ρ ad t.heap) A) 0 0 A :=
  z_met (by decide) hA hst (Nat.le_of_ble_eq_true rfl) rfl rfl (fun p e s m below meth c X hml hr _ => br_isCell X hml hr h)
-- isPhone(I)Z
def fr_isPhone (ρ : Rho) (a1 : Int32) : Option (Int32) := (fr_isIn ρ (a1) (0) (9)).bind fun o1 => if o1 = 0 ∨ o1 = 1 then some (o1) else none
set_option maxRecDepth 100000 in
set_option maxHeartbeats 4000000 in
theorem br_isPhone {p : Program} {l : Launch} {e : Env} {s : State} {m : MethodId} {args : Array Value} {below : List Frame} {meth : Method} {c : Code} {D : va_G} {dA : Nat → ClassId} {A : Nat → Prop} {ad : Nat → Nat} {o : Int32} (X : zc p l s m args meth c cX12_isPhone RX12 D dA A) (hml : c.maxLocals = 1) (hr : meth.sig.returnType = (some .boolean)) {ρ : Rho} {a1 : Int32} (h : fr_isPhone ρ a1 = some o) : zz p l e ({ frames := 40, cells := 0, slots := 0, locals := 400 } : Room) s m args below meth c A (rw D dA A ρ ad) 0 0 (MQ below (va_Qi (fun r (_ : Unit) => r = o ∧ True) (fun _ t => rw D dA A ρ ad t.heap) A) args s 0 0 A) 0 [(0, .int (a1))] [] [] := by
  unfold fr_isPhone at h
  refine z_iload_n X dX12_isPhone_0 rfl rfl ?_
  refine z_iconst (v := 0) X dX12_isPhone_1 (by decide) ?_
  refine z_bipush (v := 9) X dX12_isPhone_2 (by decide) ?_
  obtain ⟨o1, co1, h⟩ := zb2 h
  refine z_callSi (As := [.int (a1), .int (0), .int (9)]) (rest := []) (nA := 3) (r0 := o1) (pu := fun (_ : Unit) => True) (G1 := fun _ => rw D dA A ρ ad) X (cr_isIn l X.2.2.2.2.2.2.2.2 X.2.2.2.2.2.2.1 co1) g_1439 g_1440 g_15 g_1441 hd_yX12_isIn ⟨rfl, rfl, Nat.le_of_ble_eq_true rfl, Nat.le_of_ble_eq_true rfl⟩ rfl rfl (Nat.le_of_ble_eq_true rfl) dX12_isPhone_4 ⟨Nat.le_refl _, Nat.le_refl _⟩ (fun _ _ => ?_)
  obtain ⟨q, h⟩ := zgp h
  obtain rfl := Option.some.inj h
  exact z_iret X hr (z_nb q) (fun t hG hF _ => ⟨⟨_, (), rfl, ⟨rfl, trivial⟩, hG⟩, hF⟩) dX12_isPhone_7
theorem cr_isPhone (l : Launch) {D : va_G} {dA : Nat → ClassId} {A : Nat → Prop} {n : Nat} {ad : Nat → Nat} (hst : l.stackTraces = false) (hA : ∀ q, n ≤ q → A q) {ρ : Rho} {a1 : Int32} {o : Int32} (h : fr_isPhone ρ a1 = some o) : Met l yX12_isPhone (.code yX12_isPhone cX12_isPhone 1 (some .boolean) :: gT) ({ frames := 40, cells := 0, slots := 0, locals := 400 } : Room) (va_Pc [.int a1] (zB D dA A n (rw D dA A ρ ad))) (va_Qi (fun r (_ : Unit) => r = o ∧ True) (fun _ t => rw D dA A ρ ad t.heap) A) 0 0 A :=
  z_met (by decide) hA hst (Nat.le_of_ble_eq_true rfl) rfl rfl (fun p e s m below meth c X hml hr _ => br_isPhone X hml hr h)
-- isWallet(I)Z
def fr_isWallet (ρ : Rho) (a1 : Int32) : Option (Int32) := (fr_isIn ρ (a1) (0) (3)).bind fun o1 => if o1 = 0 ∨ o1 = 1 then some (o1) else none
set_option maxRecDepth 100000 in
set_option maxHeartbeats 4000000 in
theorem br_isWallet {p : Program} {l : Launch} {e : Env} {s : State} {m : MethodId} {args : Array Value} {below : List Frame} {meth : Method} {c : Code} {D : va_G} {dA : Nat → ClassId} {A : Nat → Prop} {ad : Nat → Nat} {o : Int32} (X : zc p l s m args meth c cX12_isWallet RX12 D dA A) (hml : c.maxLocals = 1) (hr : meth.sig.returnType = (some .boolean)) {ρ : Rho} {a1 : Int32} (h : fr_isWallet ρ a1 = some o) : zz p l e ({ frames := 40, cells := 0, slots := 0, locals := 400 } : Room) s m args below meth c A (rw D dA A ρ ad) 0 0 (MQ below (va_Qi (fun r (_ : Unit) => r = o ∧ True) (fun _ t => rw D dA A ρ ad t.heap) A) args s 0 0 A) 0 [(0, .int (a1))] [] [] := by
  unfold fr_isWallet at h
  refine z_iload_n X dX12_isWallet_0 rfl rfl ?_
  refine z_iconst (v := 0) X dX12_isWallet_1 (by decide) ?_
  refine z_iconst (v := 3) X dX12_isWallet_2 (by decide) ?_
  obtain ⟨o1, co1, h⟩ := zb2 h
  refine z_callSi (As := [.int (a1), .int (0), .int (3)]) (rest := []) (nA := 3) (r0 := o1) (pu := fun (_ : Unit) => True) (G1 := fun _ => rw D dA A ρ ad) X (cr_isIn l X.2.2.2.2.2.2.2.2 X.2.2.2.2.2.2.1 co1) g_1439 g_1440 g_15 g_1441 hd_yX12_isIn ⟨rfl, rfl, Nat.le_of_ble_eq_true rfl, Nat.le_of_ble_eq_true rfl⟩ rfl rfl (Nat.le_of_ble_eq_true rfl) dX12_isWallet_3 ⟨Nat.le_refl _, Nat.le_refl _⟩ (fun _ _ => ?_)
  obtain ⟨q, h⟩ := zgp h
  obtain rfl := Option.some.inj h
  exact z_iret X hr (z_nb q) (fun t hG hF _ => ⟨⟨_, (), rfl, ⟨rfl, trivial⟩, hG⟩, hF⟩) dX12_isWallet_6
theorem cr_isWallet (l : Launch) {D : va_G} {dA : Nat → ClassId} {A : Nat → Prop} {n : Nat} {ad : Nat → Nat} (hst : l.stackTraces = false) (hA : ∀ q, n ≤ q → A q) {ρ : Rho} {a1 : Int32} {o : Int32} (h : fr_isWallet ρ a1 = some o) : Met l yX12_isWallet (.code yX12_isWallet cX12_isWallet 1 (some .boolean) :: gT) ({ frames := 40, cells := 0, slots := 0, locals := 400 } : Room) (va_Pc [.int a1] (zB D dA A n (rw D dA A ρ ad))) (va_Qi (fun r (_ : Unit) => r = o ∧ True) (fun _ t => rw D dA A ρ ad t.heap) A) 0 0 A :=
  z_met (by decide) hA hst (Nat.le_of_ble_eq_true rfl) rfl rfl (fun p e s m below meth c X hml hr _ => br_isWallet X hml hr h)
-- isZone(I)Z
def fr_isZone (ρ : Rho) (a1 : Int32) : Option (Int32) := (fr_isIn ρ (a1) (0) (2)).bind fun o1 => if o1 = 0 ∨ o1 = 1 then some (o1) else none
set_option maxRecDepth 100000 in
set_option maxHeartbeats 4000000 in
theorem br_isZone {p : Program} {l : Launch} {e : Env} {s : State} {m : MethodId} {args : Array Value} {below : List Frame} {meth : Method} {c : Code} {D : va_G} {dA : Nat → ClassId} {A : Nat → Prop} {ad : Nat → Nat} {o : Int32} (X : zc p l s m args meth c cX12_isZone RX12 D dA A) (hml : c.maxLocals = 1) (hr : meth.sig.returnType = (some .boolean)) {ρ : Rho} {a1 : Int32} (h : fr_isZone ρ a1 = some o) : zz p l e ({ frames := 40, cells := 0, slots := 0, locals := 400 } : Room) s m args below meth c A (rw D dA A ρ ad) 0 0 (MQ below (va_Qi (fun r (_ : Unit) => r = o ∧ True) (fun _ t => rw D dA A ρ ad t.heap) A) args s 0 0 A) 0 [(0, .int (a1))] [] [] := by
  unfold fr_isZone at h
  refine z_iload_n X dX12_isZone_0 rfl rfl ?_
  refine z_iconst (v := 0) X dX12_isZone_1 (by decide) ?_
  refine z_iconst (v := 2) X dX12_isZone_2 (by decide) ?_
  obtain ⟨o1, co1, h⟩ := zb2 h
  refine z_callSi (As := [.int (a1), .int (0), .int (2)]) (rest := []) (nA := 3) (r0 := o1) (pu := fun (_ : Unit) => True) (G1 := fun _ => rw D dA A ρ ad) X (cr_isIn l X.2.2.2.2.2.2.2.2 X.2.2.2.2.2.2.1 co1) g_1439 g_1440 g_15 g_1441 hd_yX12_isIn ⟨rfl, rfl, Nat.le_of_ble_eq_true rfl, Nat.le_of_ble_eq_true rfl⟩ rfl rfl (Nat.le_of_ble_eq_true rfl) dX12_isZone_3 ⟨Nat.le_refl _, Nat.le_refl _⟩ (fun _ _ => ?_)
  obtain ⟨q, h⟩ := zgp h
  obtain rfl := Option.some.inj h
  exact z_iret X hr (z_nb q) (fun t hG hF _ => ⟨⟨_, (), rfl, ⟨rfl, trivial⟩, hG⟩, hF⟩) dX12_isZone_6
theorem cr_isZone (l : Launch) {D : va_G} {dA : Nat → ClassId} {A : Nat → Prop} {n : Nat} {ad : Nat → Nat} (hst : l.stackTraces = false) (hA : ∀ q, n ≤ q → A q) {ρ : Rho} {a1 : Int32} {o : Int32} (h : fr_isZone ρ a1 = some o) : Met l yX12_isZone (.code yX12_isZone cX12_isZone 1 (some .boolean) :: gT) ({ frames := 40, cells := 0, slots := 0, locals := 400 } : Room) (va_Pc [.int a1] (zB D dA A n (rw D dA A ρ ad))) (va_Qi (fun r (_ : Unit) => r = o ∧ True) (fun _ t => rw D dA A ρ ad t.heap) A) 0 0 A :=
  z_met (by decide) hA hst (Nat.le_of_ble_eq_true rfl) rfl rfl (fun p e s m below meth c X hml hr _ => br_isZone X hml hr h)
-- isCall(I)Z
def fr_isCall (ρ : Rho) (a1 : Int32) : Option (Int32) := (fr_isIn ρ (a1) (0) (((ρ 20 0) - 1))).bind fun o1 => if o1 = 0 ∨ o1 = 1 then some (o1) else none
set_option maxRecDepth 100000 in
set_option maxHeartbeats 4000000 in
theorem br_isCall {p : Program} {l : Launch} {e : Env} {s : State} {m : MethodId} {args : Array Value} {below : List Frame} {meth : Method} {c : Code} {D : va_G} {dA : Nat → ClassId} {A : Nat → Prop} {ad : Nat → Nat} {o : Int32} (X : zc p l s m args meth c cX12_isCall RX12 D dA A) (hml : c.maxLocals = 2) (hr : meth.sig.returnType = (some .boolean)) {ρ : Rho} {a1 : Int32} (h : fr_isCall ρ a1 = some o) : zz p l e ({ frames := 40, cells := 0, slots := 0, locals := 400 } : Room) s m args below meth c A (rw D dA A ρ ad) 0 0 (MQ below (va_Qi (fun r (_ : Unit) => r = o ∧ True) (fun _ t => rw D dA A ρ ad t.heap) A) args s 0 0 A) 0 [(0, .ref (ad 40)), (1, .int (a1))] [] [] := by
  unfold fr_isCall at h
  refine z_iload_n X dX12_isCall_0 rfl rfl ?_
  refine z_iconst (v := 0) X dX12_isCall_1 (by decide) ?_
  refine z_aload_n X dX12_isCall_2 rfl rfl ?_
  refine r_getS X 20 rfl rfl g_1326 dX12_isCall_3 ?_
  refine z_iconst (v := 1) X dX12_isCall_6 (by decide) ?_
  refine z_isub X dX12_isCall_7 ?_
  obtain ⟨o1, co1, h⟩ := zb2 h
  refine z_callSi (As := [.int (a1), .int (0), .int (((ρ 20 0) - 1))]) (rest := []) (nA := 3) (r0 := o1) (pu := fun (_ : Unit) => True) (G1 := fun _ => rw D dA A ρ ad) X (cr_isIn l X.2.2.2.2.2.2.2.2 X.2.2.2.2.2.2.1 co1) g_1439 g_1440 g_15 g_1441 hd_yX12_isIn ⟨rfl, rfl, Nat.le_of_ble_eq_true rfl, Nat.le_of_ble_eq_true rfl⟩ rfl rfl (Nat.le_of_ble_eq_true rfl) dX12_isCall_8 ⟨Nat.le_refl _, Nat.le_refl _⟩ (fun _ _ => ?_)
  obtain ⟨q, h⟩ := zgp h
  obtain rfl := Option.some.inj h
  exact z_iret X hr (z_nb q) (fun t hG hF _ => ⟨⟨_, (), rfl, ⟨rfl, trivial⟩, hG⟩, hF⟩) dX12_isCall_11
theorem cr_isCall (l : Launch) {D : va_G} {dA : Nat → ClassId} {A : Nat → Prop} {n : Nat} {ad : Nat → Nat} (hst : l.stackTraces = false) (hA : ∀ q, n ≤ q → A q) {ρ : Rho} {a1 : Int32} {o : Int32} (h : fr_isCall ρ a1 = some o) : Met l yX12_isCall (.code yX12_isCall cX12_isCall 2 (some .boolean) :: gT) ({ frames := 40, cells := 0, slots := 0, locals := 400 } : Room) (va_Pc [.ref (ad 40), .int a1] (zB D dA A n (rw D dA A ρ ad))) (va_Qi (fun r (_ : Unit) => r = o ∧ True) (fun _ t => rw D dA A ρ ad t.heap) A) 0 0 A :=
  z_met (by decide) hA hst (Nat.le_of_ble_eq_true rfl) rfl rfl (fun p e s m below meth c X hml hr _ => br_isCall X hml hr h)
-- isLeg(I)Z
def fr_isLeg (ρ : Rho) (a1 : Int32) : Option (Int32) := (fr_isIn ρ (a1) (0) (((ρ 22 0) - 1))).bind fun o1 => if o1 = 0 ∨ o1 = 1 then some (o1) else none
set_option maxRecDepth 100000 in
set_option maxHeartbeats 4000000 in
theorem br_isLeg {p : Program} {l : Launch} {e : Env} {s : State} {m : MethodId} {args : Array Value} {below : List Frame} {meth : Method} {c : Code} {D : va_G} {dA : Nat → ClassId} {A : Nat → Prop} {ad : Nat → Nat} {o : Int32} (X : zc p l s m args meth c cX12_isLeg RX12 D dA A) (hml : c.maxLocals = 2) (hr : meth.sig.returnType = (some .boolean)) {ρ : Rho} {a1 : Int32} (h : fr_isLeg ρ a1 = some o) : zz p l e ({ frames := 40, cells := 0, slots := 0, locals := 400 } : Room) s m args below meth c A (rw D dA A ρ ad) 0 0 (MQ below (va_Qi (fun r (_ : Unit) => r = o ∧ True) (fun _ t => rw D dA A ρ ad t.heap) A) args s 0 0 A) 0 [(0, .ref (ad 40)), (1, .int (a1))] [] [] := by
  unfold fr_isLeg at h
  refine z_iload_n X dX12_isLeg_0 rfl rfl ?_
  refine z_iconst (v := 0) X dX12_isLeg_1 (by decide) ?_
  refine z_aload_n X dX12_isLeg_2 rfl rfl ?_
  refine r_getS X 22 rfl rfl g_1328 dX12_isLeg_3 ?_
  refine z_iconst (v := 1) X dX12_isLeg_6 (by decide) ?_
  refine z_isub X dX12_isLeg_7 ?_
  obtain ⟨o1, co1, h⟩ := zb2 h
  refine z_callSi (As := [.int (a1), .int (0), .int (((ρ 22 0) - 1))]) (rest := []) (nA := 3) (r0 := o1) (pu := fun (_ : Unit) => True) (G1 := fun _ => rw D dA A ρ ad) X (cr_isIn l X.2.2.2.2.2.2.2.2 X.2.2.2.2.2.2.1 co1) g_1439 g_1440 g_15 g_1441 hd_yX12_isIn ⟨rfl, rfl, Nat.le_of_ble_eq_true rfl, Nat.le_of_ble_eq_true rfl⟩ rfl rfl (Nat.le_of_ble_eq_true rfl) dX12_isLeg_8 ⟨Nat.le_refl _, Nat.le_refl _⟩ (fun _ _ => ?_)
  obtain ⟨q, h⟩ := zgp h
  obtain rfl := Option.some.inj h
  exact z_iret X hr (z_nb q) (fun t hG hF _ => ⟨⟨_, (), rfl, ⟨rfl, trivial⟩, hG⟩, hF⟩) dX12_isLeg_11
theorem cr_isLeg (l : Launch) {D : va_G} {dA : Nat → ClassId} {A : Nat → Prop} {n : Nat} {ad : Nat → Nat} (hst : l.stackTraces = false) (hA : ∀ q, n ≤ q → A q) {ρ : Rho} {a1 : Int32} {o : Int32} (h : fr_isLeg ρ a1 = some o) : Met l yX12_isLeg (.code yX12_isLeg cX12_isLeg 2 (some .boolean) :: gT) ({ frames := 40, cells := 0, slots := 0, locals := 400 } : Room) (va_Pc [.ref (ad 40), .int a1] (zB D dA A n (rw D dA A ρ ad))) (va_Qi (fun r (_ : Unit) => r = o ∧ True) (fun _ t => rw D dA A ρ ad t.heap) A) 0 0 A :=
  z_met (by decide) hA hst (Nat.le_of_ble_eq_true rfl) rfl rfl (fun p e s m below meth c X hml hr _ => br_isLeg X hml hr h)
-- setZone(II)I
def fr_setZone_35 (ρ : Rho) (v1 : Int32) (v2 : Int32) (s1 : Int32) : Option (Rho × Int32) := (fr_can ρ (s1)).bind fun o1 => (if o1.2 = 0 then some (o1.1, 0)
  else if v1 < 0 ∨ 8 ≤ (v1).toNatClampNeg then none else (some ((o1.1 2 (v1).toNatClampNeg))).bind fun x3 => if v1 < 0 ∨ 8 ≤ (v1).toNatClampNeg then none else (some (cs o1.1 2 (v1).toNatClampNeg (v2))).bind fun ρ4 => some (ρ4, x3))
set_option maxRecDepth 100000 in
set_option maxHeartbeats 4000000 in
theorem br_setZone_35 {p : Program} {l : Launch} {e : Env} {s : State} {m : MethodId} {args : Array Value} {below : List Frame} {meth : Method} {c : Code} {D : va_G} {dA : Nat → ClassId} {A : Nat → Prop} {ad : Nat → Nat} {o : Rho × Int32} (X : zc p l s m args meth c cX12_setZone RX12 D dA A) (hml : c.maxLocals = 4) (hr : meth.sig.returnType = (some .int)) {ρ : Rho} {v1 : Int32} {v2 : Int32} {s1 : Int32} (h : fr_setZone_35 ρ v1 v2 s1 = some o) : zz p l e ({ frames := 60, cells := 0, slots := 0, locals := 600 } : Room) s m args below meth c A (rw D dA A ρ ad) 0 0 (MQ below (va_Qi (fun r (_ : Unit) => r = o.2 ∧ True) (fun _ t => rw D dA A o.1 ad t.heap) A) args s 0 0 A) 35 [(0, .ref (ad 40)), (1, .int (v1)), (2, .int (v2))] [] [.int (s1), .ref (ad 40)] := by
  unfold fr_setZone_35 at h
  obtain ⟨o1, co1, h⟩ := zb2 h
  refine z_callVi (As := [.int (s1)]) (rest := []) (nA := 1) (r0 := o1.2) (pu := fun (_ : Unit) => True) (G1 := fun _ => rw D dA A o1.1 ad) X (cr_can l X.2.2.2.2.2.2.2.2 X.2.2.2.2.2.2.1 co1) g_1445 g_1447 gs_25 g_15 g_1448 hd_yX12_can ⟨rfl, rfl, Nat.le_of_ble_eq_true rfl, Nat.le_of_ble_eq_true rfl⟩ rfl (fun _ hG => rw_recv X hG) rfl (Nat.le_of_ble_eq_true rfl) dX12_setZone_35 ⟨Nat.le_refl _, Nat.le_refl _⟩ (fun _ _ => ?_)
  refine z_if_ne (tgt := 43) X dX12_setZone_38 (by decide) (fun q => ?_) (fun q => ?_)
  · have h := zp q h
    refine z_iconst (v := 0) X dX12_setZone_41 (by decide) ?_
    obtain rfl := Option.some.inj h
    exact z_iret X hr rfl (fun t hG hF _ => ⟨⟨_, (), rfl, ⟨rfl, trivial⟩, hG⟩, hF⟩) dX12_setZone_42
  · have h := zn q h
    refine z_aload_n X dX12_setZone_43 rfl rfl ?_
    refine r_getA X 2 rfl rfl g_1308 dX12_setZone_44 ?_
    refine z_iload_n X dX12_setZone_47 rfl rfl ?_
    obtain ⟨q2, h⟩ := zg h
    refine r_ald X 2 rfl rfl q2 dX12_setZone_48 ?_
    obtain ⟨x3, ex3, h⟩ := zb h
    rw [ex3]
    refine z_istore_n (lo' := [(3, .int (x3)), (0, .ref (ad 40)), (1, .int (v1)), (2, .int (v2))]) X dX12_setZone_49 rfl (by rw [hml]; decide) rfl rfl ?_
    refine z_aload_n X dX12_setZone_50 rfl rfl ?_
    refine r_getA X 2 rfl rfl g_1308 dX12_setZone_51 ?_
    refine z_iload_n X dX12_setZone_54 rfl rfl ?_
    refine z_iload_n X dX12_setZone_55 rfl rfl ?_
    obtain ⟨q5, h⟩ := zg h
    obtain ⟨ρ4, eρ4, h⟩ := zb h
    refine r_ast X 2 rfl rfl q5 eρ4 dX12_setZone_56 ?_
    refine z_iload_n X dX12_setZone_57 rfl rfl ?_
    obtain rfl := Option.some.inj h
    exact z_iret X hr rfl (fun t hG hF _ => ⟨⟨_, (), rfl, ⟨rfl, trivial⟩, hG⟩, hF⟩) dX12_setZone_58
def fr_setZone (ρ : Rho) (a1 : Int32) (a2 : Int32) : Option (Rho × Int32) := (fr_isCell ρ (a1)).bind fun o1 => (if o1 = 0 then fr_setZone_35 ρ a1 a2 1
  else (fr_isZone ρ (a2)).bind fun o2 => (if o2 = 0 then fr_setZone_35 ρ a1 a2 2
  else (if (ρ 20 0) ≤ 0 then fr_setZone_35 ρ a1 a2 0
  else fr_setZone_35 ρ a1 a2 3)))
set_option maxRecDepth 100000 in
set_option maxHeartbeats 4000000 in
theorem br_setZone {p : Program} {l : Launch} {e : Env} {s : State} {m : MethodId} {args : Array Value} {below : List Frame} {meth : Method} {c : Code} {D : va_G} {dA : Nat → ClassId} {A : Nat → Prop} {ad : Nat → Nat} {o : Rho × Int32} (X : zc p l s m args meth c cX12_setZone RX12 D dA A) (hml : c.maxLocals = 4) (hr : meth.sig.returnType = (some .int)) {ρ : Rho} {a1 : Int32} {a2 : Int32} (h : fr_setZone ρ a1 a2 = some o) : zz p l e ({ frames := 60, cells := 0, slots := 0, locals := 600 } : Room) s m args below meth c A (rw D dA A ρ ad) 0 0 (MQ below (va_Qi (fun r (_ : Unit) => r = o.2 ∧ True) (fun _ t => rw D dA A o.1 ad t.heap) A) args s 0 0 A) 0 [(0, .ref (ad 40)), (1, .int (a1)), (2, .int (a2))] [] [] := by
  unfold fr_setZone at h
  refine z_aload_n X dX12_setZone_0 rfl rfl ?_
  refine z_iload_n X dX12_setZone_1 rfl rfl ?_
  obtain ⟨o1, co1, h⟩ := zb2 h
  refine z_callSi (As := [.int (a1)]) (rest := [.ref (ad 40)]) (nA := 1) (r0 := o1) (pu := fun (_ : Unit) => True) (G1 := fun _ => rw D dA A ρ ad) X (cr_isCell l X.2.2.2.2.2.2.2.2 X.2.2.2.2.2.2.1 co1) g_1436 g_1437 g_15 g_1438 hd_yX12_isCell ⟨rfl, rfl, Nat.le_of_ble_eq_true rfl, Nat.le_of_ble_eq_true rfl⟩ rfl rfl (Nat.le_of_ble_eq_true rfl) dX12_setZone_2 ⟨Nat.le_refl _, Nat.le_refl _⟩ (fun _ _ => ?_)
  refine z_if_ne (tgt := 12) X dX12_setZone_5 (by decide) (fun q => ?_) (fun q => ?_)
  · have h := zp q h
    refine z_iconst (v := 1) X dX12_setZone_8 (by decide) ?_
    refine z_goto (tgt := 35) X dX12_setZone_9 (by decide) ?_
    refine zz.pick (lo' := [(0, .ref (ad 40)), (1, .int (a1)), (2, .int (a2))]) [0, 1, 2] rfl ?_
    exact br_setZone_35 X hml hr h
  · have h := zn q h
    refine z_iload_n X dX12_setZone_12 rfl rfl ?_
    obtain ⟨o2, co2, h⟩ := zb2 h
    refine z_callSi (As := [.int (a2)]) (rest := [.ref (ad 40)]) (nA := 1) (r0 := o2) (pu := fun (_ : Unit) => True) (G1 := fun _ => rw D dA A ρ ad) X (cr_isZone l X.2.2.2.2.2.2.2.2 X.2.2.2.2.2.2.1 co2) g_1442 g_1443 g_15 g_1444 hd_yX12_isZone ⟨rfl, rfl, Nat.le_of_ble_eq_true rfl, Nat.le_of_ble_eq_true rfl⟩ rfl rfl (Nat.le_of_ble_eq_true rfl) dX12_setZone_13 ⟨Nat.le_refl _, Nat.le_refl _⟩ (fun _ _ => ?_)
    refine z_if_ne (tgt := 23) X dX12_setZone_16 (by decide) (fun q => ?_) (fun q => ?_)
    · have h := zp q h
      refine z_iconst (v := 2) X dX12_setZone_19 (by decide) ?_
      refine z_goto (tgt := 35) X dX12_setZone_20 (by decide) ?_
      refine zz.pick (lo' := [(0, .ref (ad 40)), (1, .int (a1)), (2, .int (a2))]) [0, 1, 2] rfl ?_
      exact br_setZone_35 X hml hr h
    · have h := zn q h
      refine z_aload_n X dX12_setZone_23 rfl rfl ?_
      refine r_getS X 20 rfl rfl g_1326 dX12_setZone_24 ?_
      refine z_if_le (tgt := 34) X dX12_setZone_27 (by decide) (fun q => ?_) (fun q => ?_)
      · have h := zp q h
        refine z_iconst (v := 0) X dX12_setZone_34 (by decide) ?_
        refine zz.pick (lo' := [(0, .ref (ad 40)), (1, .int (a1)), (2, .int (a2))]) [0, 1, 2] rfl ?_
        exact br_setZone_35 X hml hr h
      · have h := zn q h
        refine z_iconst (v := 3) X dX12_setZone_30 (by decide) ?_
        refine z_goto (tgt := 35) X dX12_setZone_31 (by decide) ?_
        refine zz.pick (lo' := [(0, .ref (ad 40)), (1, .int (a1)), (2, .int (a2))]) [0, 1, 2] rfl ?_
        exact br_setZone_35 X hml hr h
theorem cr_setZone (l : Launch) {D : va_G} {dA : Nat → ClassId} {A : Nat → Prop} {n : Nat} {ad : Nat → Nat} (hst : l.stackTraces = false) (hA : ∀ q, n ≤ q → A q) {ρ : Rho} {a1 : Int32} {a2 : Int32} {o : Rho × Int32} (h : fr_setZone ρ a1 a2 = some o) : Met l yX12_setZone (.code yX12_setZone cX12_setZone 4 (some .int) :: gT) ({ frames := 60, cells := 0, slots := 0, locals := 600 } : Room) (va_Pc [.ref (ad 40), .int a1, .int a2] (zB D dA A n (rw D dA A ρ ad))) (va_Qi (fun r (_ : Unit) => r = o.2 ∧ True) (fun _ t => rw D dA A o.1 ad t.heap) A) 0 0 A :=
  z_met (by decide) hA hst (Nat.le_of_ble_eq_true rfl) rfl rfl (fun p e s m below meth c X hml hr _ => br_setZone X hml hr h)
-- legsIn(I)I
def fr_legsIn_36 (k4 : Rho → Int32 → Int32 → Int32 → Option (Int32)) (ρ : Rho) (v1 : Int32) (v3 : Int32) (s0 : Int32) (s1 : Int32) : Option (Int32) := (some ((s0 + s1))).bind fun x1 => (some (v3 + 1)).bind fun x2 => k4 ρ v1 x1 x2
set_option maxRecDepth 100000 in
set_option maxHeartbeats 4000000 in
theorem br_legsIn_36 {p : Program} {l : Launch} {e : Env} {s : State} {m : MethodId} {args : Array Value} {below : List Frame} {meth : Method} {c : Code} {D : va_G} {dA : Nat → ClassId} {A : Nat → Prop} {ad : Nat → Nat} {o : Int32} (X : zc p l s m args meth c cX12_legsIn RX12 D dA A) (hml : c.maxLocals = 4) (hr : meth.sig.returnType = (some .int)) {k4 : Rho → Int32 → Int32 → Int32 → Option (Int32)} (hk4 : ∀ {ρ : Rho} {v1 : Int32} {v2 : Int32} {v3 : Int32}, k4 ρ v1 v2 v3 = some o → zz p l e ({ frames := 20, cells := 0, slots := 0, locals := 200 } : Room) s m args below meth c A (rw D dA A ρ ad) 0 0 (MQ below (va_Qi (fun r (_ : Unit) => r = o ∧ True) (fun _ t => rw D dA A ρ ad t.heap) A) args s 0 0 A) 4 [(0, .ref (ad 40)), (1, .int (v1)), (2, .int (v2)), (3, .int (v3))] [] []) {ρ : Rho} {v1 : Int32} {v3 : Int32} {s0 : Int32} {s1 : Int32} (h : fr_legsIn_36 k4 ρ v1 v3 s0 s1 = some o) : zz p l e ({ frames := 20, cells := 0, slots := 0, locals := 200 } : Room) s m args below meth c A (rw D dA A ρ ad) 0 0 (MQ below (va_Qi (fun r (_ : Unit) => r = o ∧ True) (fun _ t => rw D dA A ρ ad t.heap) A) args s 0 0 A) 36 [(0, .ref (ad 40)), (1, .int (v1)), (3, .int (v3))] [] [.int (s1), .int (s0)] := by
  unfold fr_legsIn_36 at h
  refine z_iadd X dX12_legsIn_36 ?_
  obtain ⟨x1, ex1, h⟩ := zb h
  rw [ex1]
  refine z_istore_n (lo' := [(2, .int (x1)), (0, .ref (ad 40)), (1, .int (v1)), (3, .int (v3))]) X dX12_legsIn_37 rfl (by rw [hml]; decide) rfl rfl ?_
  obtain ⟨x2, ex2, h⟩ := zb h
  refine z_iinc (v := x2) (lo' := [(3, .int (x2)), (2, .int (x1)), (0, .ref (ad 40)), (1, .int (v1))]) X dX12_legsIn_38 rfl ex2 (by rw [hml]; decide) rfl rfl ?_
  refine z_goto (tgt := 4) X dX12_legsIn_41 (by decide) ?_
  refine zz.pick (lo' := [(0, .ref (ad 40)), (1, .int (v1)), (2, .int (x1)), (3, .int (x2))]) [0, 1, 2, 3] rfl ?_
  exact hk4  h
def fr_legsIn_35 (k4 : Rho → Int32 → Int32 → Int32 → Option (Int32)) (ρ : Rho) (v1 : Int32) (v3 : Int32) (s0 : Int32) : Option (Int32) := fr_legsIn_36 k4 ρ v1 v3 s0 0
set_option maxRecDepth 100000 in
set_option maxHeartbeats 4000000 in
theorem br_legsIn_35 {p : Program} {l : Launch} {e : Env} {s : State} {m : MethodId} {args : Array Value} {below : List Frame} {meth : Method} {c : Code} {D : va_G} {dA : Nat → ClassId} {A : Nat → Prop} {ad : Nat → Nat} {o : Int32} (X : zc p l s m args meth c cX12_legsIn RX12 D dA A) (hml : c.maxLocals = 4) (hr : meth.sig.returnType = (some .int)) {k4 : Rho → Int32 → Int32 → Int32 → Option (Int32)} (hk4 : ∀ {ρ : Rho} {v1 : Int32} {v2 : Int32} {v3 : Int32}, k4 ρ v1 v2 v3 = some o → zz p l e ({ frames := 20, cells := 0, slots := 0, locals := 200 } : Room) s m args below meth c A (rw D dA A ρ ad) 0 0 (MQ below (va_Qi (fun r (_ : Unit) => r = o ∧ True) (fun _ t => rw D dA A ρ ad t.heap) A) args s 0 0 A) 4 [(0, .ref (ad 40)), (1, .int (v1)), (2, .int (v2)), (3, .int (v3))] [] []) {ρ : Rho} {v1 : Int32} {v3 : Int32} {s0 : Int32} (h : fr_legsIn_35 k4 ρ v1 v3 s0 = some o) : zz p l e ({ frames := 20, cells := 0, slots := 0, locals := 200 } : Room) s m args below meth c A (rw D dA A ρ ad) 0 0 (MQ below (va_Qi (fun r (_ : Unit) => r = o ∧ True) (fun _ t => rw D dA A ρ ad t.heap) A) args s 0 0 A) 35 [(0, .ref (ad 40)), (1, .int (v1)), (3, .int (v3))] [] [.int (s0)] := by
  unfold fr_legsIn_35 at h
  refine z_iconst (v := 0) X dX12_legsIn_35 (by decide) ?_
  refine zz.pick (lo' := [(0, .ref (ad 40)), (1, .int (v1)), (3, .int (v3))]) [0, 1, 3] rfl ?_
  exact br_legsIn_36 X hml hr hk4 h
def fr_legsIn_4 : Nat → Rho → Int32 → Int32 → Int32 → Option (Int32)
  | 0, _, _, _, _ => none
  | n + 1, ρ, v1, v2, v3 => (if 10 ≤ v3 then some (v2)
  else if v3 < 0 ∨ 10 ≤ (v3).toNatClampNeg then none else (if (ρ 9 (v3).toNatClampNeg) = (-1) then fr_legsIn_35 (fr_legsIn_4 n) ρ v1 v3 v2
  else if v3 < 0 ∨ 10 ≤ (v3).toNatClampNeg then none else (if (ρ 6 (v3).toNatClampNeg) = v1 then fr_legsIn_36 (fr_legsIn_4 n) ρ v1 v3 v2 1
  else fr_legsIn_35 (fr_legsIn_4 n) ρ v1 v3 v2)))
set_option maxRecDepth 100000 in
set_option maxHeartbeats 4000000 in
theorem br_legsIn_4 {p : Program} {l : Launch} {e : Env} {s : State} {m : MethodId} {args : Array Value} {below : List Frame} {meth : Method} {c : Code} {D : va_G} {dA : Nat → ClassId} {A : Nat → Prop} {ad : Nat → Nat} {o : Int32} (X : zc p l s m args meth c cX12_legsIn RX12 D dA A) (hml : c.maxLocals = 4) (hr : meth.sig.returnType = (some .int)) : ∀ (n : Nat) {ρ : Rho} {v1 : Int32} {v2 : Int32} {v3 : Int32}, fr_legsIn_4  n ρ v1 v2 v3 = some o → zz p l e ({ frames := 20, cells := 0, slots := 0, locals := 200 } : Room) s m args below meth c A (rw D dA A ρ ad) 0 0 (MQ below (va_Qi (fun r (_ : Unit) => r = o ∧ True) (fun _ t => rw D dA A ρ ad t.heap) A) args s 0 0 A) 4 [(0, .ref (ad 40)), (1, .int (v1)), (2, .int (v2)), (3, .int (v3))] [] [] := by
  intro n
  induction n with
  | zero => intro ρ v1 v2 v3 h; exact (nomatch (show none = some o from h))
  | succ n ih =>
    intro ρ v1 v2 v3 h
    rw [fr_legsIn_4] at h
    refine z_iload_n X dX12_legsIn_4 rfl rfl ?_
    refine z_bipush (v := 10) X dX12_legsIn_5 (by decide) ?_
    refine z_icmp_ge (tgt := 44) X dX12_legsIn_7 (by decide) (fun q => ?_) (fun q => ?_)
    · have h := zp q h
      refine z_iload_n X dX12_legsIn_44 rfl rfl ?_
      obtain rfl := Option.some.inj h
      exact z_iret X hr rfl (fun t hG hF _ => ⟨⟨_, (), rfl, ⟨rfl, trivial⟩, hG⟩, hF⟩) dX12_legsIn_45
    · have h := zn q h
      refine z_iload_n X dX12_legsIn_10 rfl rfl ?_
      refine z_aload_n X dX12_legsIn_11 rfl rfl ?_
      refine r_getA X 9 rfl rfl g_1315 dX12_legsIn_12 ?_
      refine z_iload_n X dX12_legsIn_15 rfl rfl ?_
      obtain ⟨q1, h⟩ := zg h
      refine r_ald X 9 rfl rfl q1 dX12_legsIn_16 ?_
      refine z_iconst (v := (-1)) X dX12_legsIn_17 (by decide) ?_
      refine z_icmp_eq (tgt := 35) X dX12_legsIn_18 (by decide) (fun q => ?_) (fun q => ?_)
      · have h := zp q h
        refine zz.pick (lo' := [(0, .ref (ad 40)), (1, .int (v1)), (3, .int (v3))]) [0, 1, 3] rfl ?_
        exact br_legsIn_35 X hml hr ih h
      · have h := zn q h
        refine z_aload_n X dX12_legsIn_21 rfl rfl ?_
        refine r_getA X 6 rfl rfl g_1312 dX12_legsIn_22 ?_
        refine z_iload_n X dX12_legsIn_25 rfl rfl ?_
        obtain ⟨q2, h⟩ := zg h
        refine r_ald X 6 rfl rfl q2 dX12_legsIn_26 ?_
        refine z_iload_n X dX12_legsIn_27 rfl rfl ?_
        refine z_icmp_ne (tgt := 35) X dX12_legsIn_28 (by decide) (fun q => ?_) (fun q => ?_)
        · have h := zp q h
          refine z_iconst (v := 1) X dX12_legsIn_31 (by decide) ?_
          refine z_goto (tgt := 36) X dX12_legsIn_32 (by decide) ?_
          refine zz.pick (lo' := [(0, .ref (ad 40)), (1, .int (v1)), (3, .int (v3))]) [0, 1, 3] rfl ?_
          exact br_legsIn_36 X hml hr ih h
        · have h := zn q h
          refine zz.pick (lo' := [(0, .ref (ad 40)), (1, .int (v1)), (3, .int (v3))]) [0, 1, 3] rfl ?_
          exact br_legsIn_35 X hml hr ih h
def fr_legsIn (ρ : Rho) (a1 : Int32) : Option (Int32) := fr_legsIn_4 FU ρ a1 0 0
set_option maxRecDepth 100000 in
set_option maxHeartbeats 4000000 in
theorem br_legsIn {p : Program} {l : Launch} {e : Env} {s : State} {m : MethodId} {args : Array Value} {below : List Frame} {meth : Method} {c : Code} {D : va_G} {dA : Nat → ClassId} {A : Nat → Prop} {ad : Nat → Nat} {o : Int32} (X : zc p l s m args meth c cX12_legsIn RX12 D dA A) (hml : c.maxLocals = 4) (hr : meth.sig.returnType = (some .int)) {ρ : Rho} {a1 : Int32} (h : fr_legsIn ρ a1 = some o) : zz p l e ({ frames := 20, cells := 0, slots := 0, locals := 200 } : Room) s m args below meth c A (rw D dA A ρ ad) 0 0 (MQ below (va_Qi (fun r (_ : Unit) => r = o ∧ True) (fun _ t => rw D dA A ρ ad t.heap) A) args s 0 0 A) 0 [(0, .ref (ad 40)), (1, .int (a1))] [] [] := by
  unfold fr_legsIn at h
  refine z_iconst (v := 0) X dX12_legsIn_0 (by decide) ?_
  refine z_istore_n (lo' := [(2, .int (0)), (0, .ref (ad 40)), (1, .int (a1))]) X dX12_legsIn_1 rfl (by rw [hml]; decide) rfl rfl ?_
  refine z_iconst (v := 0) X dX12_legsIn_2 (by decide) ?_
  refine z_istore_n (lo' := [(3, .int (0)), (2, .int (0)), (0, .ref (ad 40)), (1, .int (a1))]) X dX12_legsIn_3 rfl (by rw [hml]; decide) rfl rfl ?_
  refine zz.pick (lo' := [(0, .ref (ad 40)), (1, .int (a1)), (2, .int (0)), (3, .int (0))]) [0, 1, 2, 3] rfl ?_
  exact br_legsIn_4 X hml hr FU h
theorem cr_legsIn (l : Launch) {D : va_G} {dA : Nat → ClassId} {A : Nat → Prop} {n : Nat} {ad : Nat → Nat} (hst : l.stackTraces = false) (hA : ∀ q, n ≤ q → A q) {ρ : Rho} {a1 : Int32} {o : Int32} (h : fr_legsIn ρ a1 = some o) : Met l yX12_legsIn (.code yX12_legsIn cX12_legsIn 4 (some .int) :: gT) ({ frames := 20, cells := 0, slots := 0, locals := 200 } : Room) (va_Pc [.ref (ad 40), .int a1] (zB D dA A n (rw D dA A ρ ad))) (va_Qi (fun r (_ : Unit) => r = o ∧ True) (fun _ t => rw D dA A ρ ad t.heap) A) 0 0 A :=
  z_met (by decide) hA hst (Nat.le_of_ble_eq_true rfl) rfl rfl (fun p e s m below meth c X hml hr _ => br_legsIn X hml hr h)
-- setChannels(III)I
def fr_setChannels_48 (ρ : Rho) (v1 : Int32) (v2 : Int32) (v3 : Int32) (s1 : Int32) : Option (Rho × Int32) := (fr_can ρ (s1)).bind fun o1 => (if o1.2 = 0 then some (o1.1, 0)
  else if v1 < 0 ∨ 8 ≤ (v1).toNatClampNeg then none else (some (cs o1.1 3 (v1).toNatClampNeg (v2))).bind fun ρ2 => if v1 < 0 ∨ 8 ≤ (v1).toNatClampNeg then none else (some (cs ρ2 4 (v1).toNatClampNeg (v3))).bind fun ρ4 => (fr_legsIn ρ4 (v1)).bind fun o6 => some (ρ4, o6))
set_option maxRecDepth 100000 in
set_option maxHeartbeats 4000000 in
theorem br_setChannels_48 {p : Program} {l : Launch} {e : Env} {s : State} {m : MethodId} {args : Array Value} {below : List Frame} {meth : Method} {c : Code} {D : va_G} {dA : Nat → ClassId} {A : Nat → Prop} {ad : Nat → Nat} {o : Rho × Int32} (X : zc p l s m args meth c cX12_setChannels RX12 D dA A) (hml : c.maxLocals = 5) (hr : meth.sig.returnType = (some .int)) {ρ : Rho} {v1 : Int32} {v2 : Int32} {v3 : Int32} {s1 : Int32} (h : fr_setChannels_48 ρ v1 v2 v3 s1 = some o) : zz p l e ({ frames := 60, cells := 0, slots := 0, locals := 600 } : Room) s m args below meth c A (rw D dA A ρ ad) 0 0 (MQ below (va_Qi (fun r (_ : Unit) => r = o.2 ∧ True) (fun _ t => rw D dA A o.1 ad t.heap) A) args s 0 0 A) 48 [(0, .ref (ad 40)), (1, .int (v1)), (2, .int (v2)), (3, .int (v3))] [] [.int (s1), .ref (ad 40)] := by
  unfold fr_setChannels_48 at h
  obtain ⟨o1, co1, h⟩ := zb2 h
  refine z_callVi (As := [.int (s1)]) (rest := []) (nA := 1) (r0 := o1.2) (pu := fun (_ : Unit) => True) (G1 := fun _ => rw D dA A o1.1 ad) X (cr_can l X.2.2.2.2.2.2.2.2 X.2.2.2.2.2.2.1 co1) g_1445 g_1447 gs_25 g_15 g_1448 hd_yX12_can ⟨rfl, rfl, Nat.le_of_ble_eq_true rfl, Nat.le_of_ble_eq_true rfl⟩ rfl (fun _ hG => rw_recv X hG) rfl (Nat.le_of_ble_eq_true rfl) dX12_setChannels_48 ⟨Nat.le_refl _, Nat.le_refl _⟩ (fun _ _ => ?_)
  refine z_if_ne (tgt := 56) X dX12_setChannels_51 (by decide) (fun q => ?_) (fun q => ?_)
  · have h := zp q h
    refine z_iconst (v := 0) X dX12_setChannels_54 (by decide) ?_
    obtain rfl := Option.some.inj h
    exact z_iret X hr rfl (fun t hG hF _ => ⟨⟨_, (), rfl, ⟨rfl, trivial⟩, hG⟩, hF⟩) dX12_setChannels_55
  · have h := zn q h
    refine z_aload_n X dX12_setChannels_56 rfl rfl ?_
    refine r_getA X 3 rfl rfl g_1309 dX12_setChannels_57 ?_
    refine z_iload_n X dX12_setChannels_60 rfl rfl ?_
    refine z_iload_n X dX12_setChannels_61 rfl rfl ?_
    obtain ⟨q3, h⟩ := zg h
    obtain ⟨ρ2, eρ2, h⟩ := zb h
    refine r_ast X 3 rfl rfl q3 eρ2 dX12_setChannels_62 ?_
    refine z_aload_n X dX12_setChannels_63 rfl rfl ?_
    refine r_getA X 4 rfl rfl g_1310 dX12_setChannels_64 ?_
    refine z_iload_n X dX12_setChannels_67 rfl rfl ?_
    refine z_iload_n X dX12_setChannels_68 rfl rfl ?_
    obtain ⟨q5, h⟩ := zg h
    obtain ⟨ρ4, eρ4, h⟩ := zb h
    refine r_ast X 4 rfl rfl q5 eρ4 dX12_setChannels_69 ?_
    refine z_aload_n X dX12_setChannels_70 rfl rfl ?_
    refine z_iload_n X dX12_setChannels_71 rfl rfl ?_
    obtain ⟨o6, co6, h⟩ := zb2 h
    refine z_callVi (As := [.int (v1)]) (rest := []) (nA := 1) (r0 := o6) (pu := fun (_ : Unit) => True) (G1 := fun _ => rw D dA A ρ4 ad) X (cr_legsIn l X.2.2.2.2.2.2.2.2 X.2.2.2.2.2.2.1 co6) g_1453 g_1455 gs_26 g_15 g_1456 hd_yX12_legsIn ⟨rfl, rfl, Nat.le_of_ble_eq_true rfl, Nat.le_of_ble_eq_true rfl⟩ rfl (fun _ hG => rw_recv X hG) rfl (Nat.le_of_ble_eq_true rfl) dX12_setChannels_72 ⟨Nat.le_refl _, Nat.le_refl _⟩ (fun _ _ => ?_)
    obtain rfl := Option.some.inj h
    exact z_iret X hr rfl (fun t hG hF _ => ⟨⟨_, (), rfl, ⟨rfl, trivial⟩, hG⟩, hF⟩) dX12_setChannels_75
def fr_setChannels_24 (ρ : Rho) (v1 : Int32) (v2 : Int32) (v3 : Int32) (s0 : Int32) : Option (Rho × Int32) := (fr_isCell ρ (v1)).bind fun o1 => (if o1 = 0 then fr_setChannels_48 ρ v1 v2 v3 1
  else (if s0 = 0 then fr_setChannels_48 ρ v1 v2 v3 2
  else fr_setChannels_48 ρ v1 v2 v3 0))
set_option maxRecDepth 100000 in
set_option maxHeartbeats 4000000 in
theorem br_setChannels_24 {p : Program} {l : Launch} {e : Env} {s : State} {m : MethodId} {args : Array Value} {below : List Frame} {meth : Method} {c : Code} {D : va_G} {dA : Nat → ClassId} {A : Nat → Prop} {ad : Nat → Nat} {o : Rho × Int32} (X : zc p l s m args meth c cX12_setChannels RX12 D dA A) (hml : c.maxLocals = 5) (hr : meth.sig.returnType = (some .int)) {ρ : Rho} {v1 : Int32} {v2 : Int32} {v3 : Int32} {s0 : Int32} (h : fr_setChannels_24 ρ v1 v2 v3 s0 = some o) : zz p l e ({ frames := 60, cells := 0, slots := 0, locals := 600 } : Room) s m args below meth c A (rw D dA A ρ ad) 0 0 (MQ below (va_Qi (fun r (_ : Unit) => r = o.2 ∧ True) (fun _ t => rw D dA A o.1 ad t.heap) A) args s 0 0 A) 24 [(0, .ref (ad 40)), (1, .int (v1)), (2, .int (v2)), (3, .int (v3))] [] [.int (s0)] := by
  unfold fr_setChannels_24 at h
  refine z_istore (lo' := [(4, .int (s0)), (0, .ref (ad 40)), (1, .int (v1)), (2, .int (v2)), (3, .int (v3))]) X dX12_setChannels_24 (by rw [hml]; decide) rfl rfl ?_
  refine z_aload_n X dX12_setChannels_26 rfl rfl ?_
  refine z_iload_n X dX12_setChannels_27 rfl rfl ?_
  obtain ⟨o1, co1, h⟩ := zb2 h
  refine z_callSi (As := [.int (v1)]) (rest := [.ref (ad 40)]) (nA := 1) (r0 := o1) (pu := fun (_ : Unit) => True) (G1 := fun _ => rw D dA A ρ ad) X (cr_isCell l X.2.2.2.2.2.2.2.2 X.2.2.2.2.2.2.1 co1) g_1436 g_1437 g_15 g_1438 hd_yX12_isCell ⟨rfl, rfl, Nat.le_of_ble_eq_true rfl, Nat.le_of_ble_eq_true rfl⟩ rfl rfl (Nat.le_of_ble_eq_true rfl) dX12_setChannels_28 ⟨Nat.le_refl _, Nat.le_refl _⟩ (fun _ _ => ?_)
  refine z_if_ne (tgt := 38) X dX12_setChannels_31 (by decide) (fun q => ?_) (fun q => ?_)
  · have h := zp q h
    refine z_iconst (v := 1) X dX12_setChannels_34 (by decide) ?_
    refine z_goto (tgt := 48) X dX12_setChannels_35 (by decide) ?_
    refine zz.pick (lo' := [(0, .ref (ad 40)), (1, .int (v1)), (2, .int (v2)), (3, .int (v3))]) [0, 1, 2, 3] rfl ?_
    exact br_setChannels_48 X hml hr h
  · have h := zn q h
    refine z_iload X dX12_setChannels_38 rfl ?_
    refine z_if_eq (tgt := 47) X dX12_setChannels_40 (by decide) (fun q => ?_) (fun q => ?_)
    · have h := zp q h
      refine z_iconst (v := 2) X dX12_setChannels_47 (by decide) ?_
      refine zz.pick (lo' := [(0, .ref (ad 40)), (1, .int (v1)), (2, .int (v2)), (3, .int (v3))]) [0, 1, 2, 3] rfl ?_
      exact br_setChannels_48 X hml hr h
    · have h := zn q h
      refine z_iconst (v := 0) X dX12_setChannels_43 (by decide) ?_
      refine z_goto (tgt := 48) X dX12_setChannels_44 (by decide) ?_
      refine zz.pick (lo' := [(0, .ref (ad 40)), (1, .int (v1)), (2, .int (v2)), (3, .int (v3))]) [0, 1, 2, 3] rfl ?_
      exact br_setChannels_48 X hml hr h
def fr_setChannels_23 (ρ : Rho) (v1 : Int32) (v2 : Int32) (v3 : Int32) : Option (Rho × Int32) := fr_setChannels_24 ρ v1 v2 v3 0
set_option maxRecDepth 100000 in
set_option maxHeartbeats 4000000 in
theorem br_setChannels_23 {p : Program} {l : Launch} {e : Env} {s : State} {m : MethodId} {args : Array Value} {below : List Frame} {meth : Method} {c : Code} {D : va_G} {dA : Nat → ClassId} {A : Nat → Prop} {ad : Nat → Nat} {o : Rho × Int32} (X : zc p l s m args meth c cX12_setChannels RX12 D dA A) (hml : c.maxLocals = 5) (hr : meth.sig.returnType = (some .int)) {ρ : Rho} {v1 : Int32} {v2 : Int32} {v3 : Int32} (h : fr_setChannels_23 ρ v1 v2 v3 = some o) : zz p l e ({ frames := 60, cells := 0, slots := 0, locals := 600 } : Room) s m args below meth c A (rw D dA A ρ ad) 0 0 (MQ below (va_Qi (fun r (_ : Unit) => r = o.2 ∧ True) (fun _ t => rw D dA A o.1 ad t.heap) A) args s 0 0 A) 23 [(0, .ref (ad 40)), (1, .int (v1)), (2, .int (v2)), (3, .int (v3))] [] [] := by
  unfold fr_setChannels_23 at h
  refine z_iconst (v := 0) X dX12_setChannels_23 (by decide) ?_
  refine zz.pick (lo' := [(0, .ref (ad 40)), (1, .int (v1)), (2, .int (v2)), (3, .int (v3))]) [0, 1, 2, 3] rfl ?_
  exact br_setChannels_24 X hml hr h
def fr_setChannels (ρ : Rho) (a1 : Int32) (a2 : Int32) (a3 : Int32) : Option (Rho × Int32) := (fr_isIn ρ (a2) (0) (10)).bind fun o1 => (if o1 = 0 then fr_setChannels_23 ρ a1 a2 a3
  else (fr_isIn ρ (a3) (0) (a2)).bind fun o2 => (if o2 = 0 then fr_setChannels_23 ρ a1 a2 a3
  else fr_setChannels_24 ρ a1 a2 a3 1))
set_option maxRecDepth 100000 in
set_option maxHeartbeats 4000000 in
theorem br_setChannels {p : Program} {l : Launch} {e : Env} {s : State} {m : MethodId} {args : Array Value} {below : List Frame} {meth : Method} {c : Code} {D : va_G} {dA : Nat → ClassId} {A : Nat → Prop} {ad : Nat → Nat} {o : Rho × Int32} (X : zc p l s m args meth c cX12_setChannels RX12 D dA A) (hml : c.maxLocals = 5) (hr : meth.sig.returnType = (some .int)) {ρ : Rho} {a1 : Int32} {a2 : Int32} {a3 : Int32} (h : fr_setChannels ρ a1 a2 a3 = some o) : zz p l e ({ frames := 60, cells := 0, slots := 0, locals := 600 } : Room) s m args below meth c A (rw D dA A ρ ad) 0 0 (MQ below (va_Qi (fun r (_ : Unit) => r = o.2 ∧ True) (fun _ t => rw D dA A o.1 ad t.heap) A) args s 0 0 A) 0 [(0, .ref (ad 40)), (1, .int (a1)), (2, .int (a2)), (3, .int (a3))] [] [] := by
  unfold fr_setChannels at h
  refine z_iload_n X dX12_setChannels_0 rfl rfl ?_
  refine z_iconst (v := 0) X dX12_setChannels_1 (by decide) ?_
  refine z_bipush (v := 10) X dX12_setChannels_2 (by decide) ?_
  obtain ⟨o1, co1, h⟩ := zb2 h
  refine z_callSi (As := [.int (a2), .int (0), .int (10)]) (rest := []) (nA := 3) (r0 := o1) (pu := fun (_ : Unit) => True) (G1 := fun _ => rw D dA A ρ ad) X (cr_isIn l X.2.2.2.2.2.2.2.2 X.2.2.2.2.2.2.1 co1) g_1439 g_1440 g_15 g_1441 hd_yX12_isIn ⟨rfl, rfl, Nat.le_of_ble_eq_true rfl, Nat.le_of_ble_eq_true rfl⟩ rfl rfl (Nat.le_of_ble_eq_true rfl) dX12_setChannels_4 ⟨Nat.le_refl _, Nat.le_refl _⟩ (fun _ _ => ?_)
  refine z_if_eq (tgt := 23) X dX12_setChannels_7 (by decide) (fun q => ?_) (fun q => ?_)
  · have h := zp q h
    refine zz.pick (lo' := [(0, .ref (ad 40)), (1, .int (a1)), (2, .int (a2)), (3, .int (a3))]) [0, 1, 2, 3] rfl ?_
    exact br_setChannels_23 X hml hr h
  · have h := zn q h
    refine z_iload_n X dX12_setChannels_10 rfl rfl ?_
    refine z_iconst (v := 0) X dX12_setChannels_11 (by decide) ?_
    refine z_iload_n X dX12_setChannels_12 rfl rfl ?_
    obtain ⟨o2, co2, h⟩ := zb2 h
    refine z_callSi (As := [.int (a3), .int (0), .int (a2)]) (rest := []) (nA := 3) (r0 := o2) (pu := fun (_ : Unit) => True) (G1 := fun _ => rw D dA A ρ ad) X (cr_isIn l X.2.2.2.2.2.2.2.2 X.2.2.2.2.2.2.1 co2) g_1439 g_1440 g_15 g_1441 hd_yX12_isIn ⟨rfl, rfl, Nat.le_of_ble_eq_true rfl, Nat.le_of_ble_eq_true rfl⟩ rfl rfl (Nat.le_of_ble_eq_true rfl) dX12_setChannels_13 ⟨Nat.le_refl _, Nat.le_refl _⟩ (fun _ _ => ?_)
    refine z_if_eq (tgt := 23) X dX12_setChannels_16 (by decide) (fun q => ?_) (fun q => ?_)
    · have h := zp q h
      refine zz.pick (lo' := [(0, .ref (ad 40)), (1, .int (a1)), (2, .int (a2)), (3, .int (a3))]) [0, 1, 2, 3] rfl ?_
      exact br_setChannels_23 X hml hr h
    · have h := zn q h
      refine z_iconst (v := 1) X dX12_setChannels_19 (by decide) ?_
      refine z_goto (tgt := 24) X dX12_setChannels_20 (by decide) ?_
      refine zz.pick (lo' := [(0, .ref (ad 40)), (1, .int (a1)), (2, .int (a2)), (3, .int (a3))]) [0, 1, 2, 3] rfl ?_
      exact br_setChannels_24 X hml hr h
theorem cr_setChannels (l : Launch) {D : va_G} {dA : Nat → ClassId} {A : Nat → Prop} {n : Nat} {ad : Nat → Nat} (hst : l.stackTraces = false) (hA : ∀ q, n ≤ q → A q) {ρ : Rho} {a1 : Int32} {a2 : Int32} {a3 : Int32} {o : Rho × Int32} (h : fr_setChannels ρ a1 a2 a3 = some o) : Met l yX12_setChannels (.code yX12_setChannels cX12_setChannels 5 (some .int) :: gT) ({ frames := 60, cells := 0, slots := 0, locals := 600 } : Room) (va_Pc [.ref (ad 40), .int a1, .int a2, .int a3] (zB D dA A n (rw D dA A ρ ad))) (va_Qi (fun r (_ : Unit) => r = o.2 ∧ True) (fun _ t => rw D dA A o.1 ad t.heap) A) 0 0 A :=
  z_met (by decide) hA hst (Nat.le_of_ble_eq_true rfl) rfl rfl (fun p e s m below meth c X hml hr _ => br_setChannels X hml hr h)
-- setRate(IZI)I
def fr_setRate_41 (ρ : Rho) (v1 : Int32) (v3 : Int32) (s0 : Int32) : Option (Rho × Int32) := (some ((s0 + v1))).bind fun x1 => if x1 < 0 ∨ 6 ≤ (x1).toNatClampNeg then none else (some ((ρ 5 (x1).toNatClampNeg))).bind fun x3 => if x1 < 0 ∨ 6 ≤ (x1).toNatClampNeg then none else (some (cs ρ 5 (x1).toNatClampNeg (v3))).bind fun ρ4 => some (ρ4, x3)
set_option maxRecDepth 100000 in
set_option maxHeartbeats 4000000 in
theorem br_setRate_41 {p : Program} {l : Launch} {e : Env} {s : State} {m : MethodId} {args : Array Value} {below : List Frame} {meth : Method} {c : Code} {D : va_G} {dA : Nat → ClassId} {A : Nat → Prop} {ad : Nat → Nat} {o : Rho × Int32} (X : zc p l s m args meth c cX12_setRate RX12 D dA A) (hml : c.maxLocals = 6) (hr : meth.sig.returnType = (some .int)) {ρ : Rho} {v1 : Int32} {v3 : Int32} {s0 : Int32} (h : fr_setRate_41 ρ v1 v3 s0 = some o) : zz p l e ({ frames := 60, cells := 0, slots := 0, locals := 600 } : Room) s m args below meth c A (rw D dA A ρ ad) 0 0 (MQ below (va_Qi (fun r (_ : Unit) => r = o.2 ∧ True) (fun _ t => rw D dA A o.1 ad t.heap) A) args s 0 0 A) 41 [(0, .ref (ad 40)), (1, .int (v1)), (3, .int (v3))] [] [.int (s0)] := by
  unfold fr_setRate_41 at h
  refine z_iload_n X dX12_setRate_41 rfl rfl ?_
  refine z_iadd X dX12_setRate_42 ?_
  obtain ⟨x1, ex1, h⟩ := zb h
  rw [ex1]
  refine z_istore (lo' := [(4, .int (x1)), (0, .ref (ad 40)), (1, .int (v1)), (3, .int (v3))]) X dX12_setRate_43 (by rw [hml]; decide) rfl rfl ?_
  refine z_aload_n X dX12_setRate_45 rfl rfl ?_
  refine r_getA X 5 rfl rfl g_1311 dX12_setRate_46 ?_
  refine z_iload X dX12_setRate_49 rfl ?_
  obtain ⟨q2, h⟩ := zg h
  refine r_ald X 5 rfl rfl q2 dX12_setRate_51 ?_
  obtain ⟨x3, ex3, h⟩ := zb h
  rw [ex3]
  refine z_istore (lo' := [(5, .int (x3)), (4, .int (x1)), (0, .ref (ad 40)), (1, .int (v1)), (3, .int (v3))]) X dX12_setRate_52 (by rw [hml]; decide) rfl rfl ?_
  refine z_aload_n X dX12_setRate_54 rfl rfl ?_
  refine r_getA X 5 rfl rfl g_1311 dX12_setRate_55 ?_
  refine z_iload X dX12_setRate_58 rfl ?_
  refine z_iload_n X dX12_setRate_60 rfl rfl ?_
  obtain ⟨q5, h⟩ := zg h
  obtain ⟨ρ4, eρ4, h⟩ := zb h
  refine r_ast X 5 rfl rfl q5 eρ4 dX12_setRate_61 ?_
  refine z_iload X dX12_setRate_62 rfl ?_
  obtain rfl := Option.some.inj h
  exact z_iret X hr rfl (fun t hG hF _ => ⟨⟨_, (), rfl, ⟨rfl, trivial⟩, hG⟩, hF⟩) dX12_setRate_64
def fr_setRate_24 (ρ : Rho) (v1 : Int32) (v2 : Int32) (v3 : Int32) (s1 : Int32) : Option (Rho × Int32) := (fr_can ρ (s1)).bind fun o1 => (if o1.2 = 0 then some (o1.1, 0)
  else (if v2 = 0 then fr_setRate_41 o1.1 v1 v3 0
  else fr_setRate_41 o1.1 v1 v3 3))
set_option maxRecDepth 100000 in
set_option maxHeartbeats 4000000 in
theorem br_setRate_24 {p : Program} {l : Launch} {e : Env} {s : State} {m : MethodId} {args : Array Value} {below : List Frame} {meth : Method} {c : Code} {D : va_G} {dA : Nat → ClassId} {A : Nat → Prop} {ad : Nat → Nat} {o : Rho × Int32} (X : zc p l s m args meth c cX12_setRate RX12 D dA A) (hml : c.maxLocals = 6) (hr : meth.sig.returnType = (some .int)) {ρ : Rho} {v1 : Int32} {v2 : Int32} {v3 : Int32} {s1 : Int32} (h : fr_setRate_24 ρ v1 v2 v3 s1 = some o) : zz p l e ({ frames := 60, cells := 0, slots := 0, locals := 600 } : Room) s m args below meth c A (rw D dA A ρ ad) 0 0 (MQ below (va_Qi (fun r (_ : Unit) => r = o.2 ∧ True) (fun _ t => rw D dA A o.1 ad t.heap) A) args s 0 0 A) 24 [(0, .ref (ad 40)), (1, .int (v1)), (2, .int (v2)), (3, .int (v3))] [] [.int (s1), .ref (ad 40)] := by
  unfold fr_setRate_24 at h
  obtain ⟨o1, co1, h⟩ := zb2 h
  refine z_callVi (As := [.int (s1)]) (rest := []) (nA := 1) (r0 := o1.2) (pu := fun (_ : Unit) => True) (G1 := fun _ => rw D dA A o1.1 ad) X (cr_can l X.2.2.2.2.2.2.2.2 X.2.2.2.2.2.2.1 co1) g_1445 g_1447 gs_25 g_15 g_1448 hd_yX12_can ⟨rfl, rfl, Nat.le_of_ble_eq_true rfl, Nat.le_of_ble_eq_true rfl⟩ rfl (fun _ hG => rw_recv X hG) rfl (Nat.le_of_ble_eq_true rfl) dX12_setRate_24 ⟨Nat.le_refl _, Nat.le_refl _⟩ (fun _ _ => ?_)
  refine z_if_ne (tgt := 32) X dX12_setRate_27 (by decide) (fun q => ?_) (fun q => ?_)
  · have h := zp q h
    refine z_iconst (v := 0) X dX12_setRate_30 (by decide) ?_
    obtain rfl := Option.some.inj h
    exact z_iret X hr rfl (fun t hG hF _ => ⟨⟨_, (), rfl, ⟨rfl, trivial⟩, hG⟩, hF⟩) dX12_setRate_31
  · have h := zn q h
    refine z_iload_n X dX12_setRate_32 rfl rfl ?_
    refine z_if_eq (tgt := 40) X dX12_setRate_33 (by decide) (fun q => ?_) (fun q => ?_)
    · have h := zp q h
      refine z_iconst (v := 0) X dX12_setRate_40 (by decide) ?_
      refine zz.pick (lo' := [(0, .ref (ad 40)), (1, .int (v1)), (3, .int (v3))]) [0, 1, 3] rfl ?_
      exact br_setRate_41 X hml hr h
    · have h := zn q h
      refine z_iconst (v := 3) X dX12_setRate_36 (by decide) ?_
      refine z_goto (tgt := 41) X dX12_setRate_37 (by decide) ?_
      refine zz.pick (lo' := [(0, .ref (ad 40)), (1, .int (v1)), (3, .int (v3))]) [0, 1, 3] rfl ?_
      exact br_setRate_41 X hml hr h
def fr_setRate_23 (ρ : Rho) (v1 : Int32) (v2 : Int32) (v3 : Int32) : Option (Rho × Int32) := fr_setRate_24 ρ v1 v2 v3 1
set_option maxRecDepth 100000 in
set_option maxHeartbeats 4000000 in
theorem br_setRate_23 {p : Program} {l : Launch} {e : Env} {s : State} {m : MethodId} {args : Array Value} {below : List Frame} {meth : Method} {c : Code} {D : va_G} {dA : Nat → ClassId} {A : Nat → Prop} {ad : Nat → Nat} {o : Rho × Int32} (X : zc p l s m args meth c cX12_setRate RX12 D dA A) (hml : c.maxLocals = 6) (hr : meth.sig.returnType = (some .int)) {ρ : Rho} {v1 : Int32} {v2 : Int32} {v3 : Int32} (h : fr_setRate_23 ρ v1 v2 v3 = some o) : zz p l e ({ frames := 60, cells := 0, slots := 0, locals := 600 } : Room) s m args below meth c A (rw D dA A ρ ad) 0 0 (MQ below (va_Qi (fun r (_ : Unit) => r = o.2 ∧ True) (fun _ t => rw D dA A o.1 ad t.heap) A) args s 0 0 A) 23 [(0, .ref (ad 40)), (1, .int (v1)), (2, .int (v2)), (3, .int (v3))] [] [.ref (ad 40)] := by
  unfold fr_setRate_23 at h
  refine z_iconst (v := 1) X dX12_setRate_23 (by decide) ?_
  refine zz.pick (lo' := [(0, .ref (ad 40)), (1, .int (v1)), (2, .int (v2)), (3, .int (v3))]) [0, 1, 2, 3] rfl ?_
  exact br_setRate_24 X hml hr h
def fr_setRate (ρ : Rho) (a1 : Int32) (a2 : Int32) (a3 : Int32) : Option (Rho × Int32) := (fr_isZone ρ (a1)).bind fun o1 => (if o1 = 0 then fr_setRate_23 ρ a1 a2 a3
  else (fr_isIn ρ (a3) (0) (1000)).bind fun o2 => (if o2 = 0 then fr_setRate_23 ρ a1 a2 a3
  else fr_setRate_24 ρ a1 a2 a3 0))
set_option maxRecDepth 100000 in
set_option maxHeartbeats 4000000 in
theorem br_setRate {p : Program} {l : Launch} {e : Env} {s : State} {m : MethodId} {args : Array Value} {below : List Frame} {meth : Method} {c : Code} {D : va_G} {dA : Nat → ClassId} {A : Nat → Prop} {ad : Nat → Nat} {o : Rho × Int32} (X : zc p l s m args meth c cX12_setRate RX12 D dA A) (hml : c.maxLocals = 6) (hr : meth.sig.returnType = (some .int)) {ρ : Rho} {a1 : Int32} {a2 : Int32} {a3 : Int32} (h : fr_setRate ρ a1 a2 a3 = some o) : zz p l e ({ frames := 60, cells := 0, slots := 0, locals := 600 } : Room) s m args below meth c A (rw D dA A ρ ad) 0 0 (MQ below (va_Qi (fun r (_ : Unit) => r = o.2 ∧ True) (fun _ t => rw D dA A o.1 ad t.heap) A) args s 0 0 A) 0 [(0, .ref (ad 40)), (1, .int (a1)), (2, .int (a2)), (3, .int (a3))] [] [] := by
  unfold fr_setRate at h
  refine z_aload_n X dX12_setRate_0 rfl rfl ?_
  refine z_iload_n X dX12_setRate_1 rfl rfl ?_
  obtain ⟨o1, co1, h⟩ := zb2 h
  refine z_callSi (As := [.int (a1)]) (rest := [.ref (ad 40)]) (nA := 1) (r0 := o1) (pu := fun (_ : Unit) => True) (G1 := fun _ => rw D dA A ρ ad) X (cr_isZone l X.2.2.2.2.2.2.2.2 X.2.2.2.2.2.2.1 co1) g_1442 g_1443 g_15 g_1444 hd_yX12_isZone ⟨rfl, rfl, Nat.le_of_ble_eq_true rfl, Nat.le_of_ble_eq_true rfl⟩ rfl rfl (Nat.le_of_ble_eq_true rfl) dX12_setRate_2 ⟨Nat.le_refl _, Nat.le_refl _⟩ (fun _ _ => ?_)
  refine z_if_eq (tgt := 23) X dX12_setRate_5 (by decide) (fun q => ?_) (fun q => ?_)
  · have h := zp q h
    refine zz.pick (lo' := [(0, .ref (ad 40)), (1, .int (a1)), (2, .int (a2)), (3, .int (a3))]) [0, 1, 2, 3] rfl ?_
    exact br_setRate_23 X hml hr h
  · have h := zn q h
    refine z_iload_n X dX12_setRate_8 rfl rfl ?_
    refine z_iconst (v := 0) X dX12_setRate_9 (by decide) ?_
    refine z_sipush (v := 1000) X dX12_setRate_10 (by decide) ?_
    obtain ⟨o2, co2, h⟩ := zb2 h
    refine z_callSi (As := [.int (a3), .int (0), .int (1000)]) (rest := [.ref (ad 40)]) (nA := 3) (r0 := o2) (pu := fun (_ : Unit) => True) (G1 := fun _ => rw D dA A ρ ad) X (cr_isIn l X.2.2.2.2.2.2.2.2 X.2.2.2.2.2.2.1 co2) g_1439 g_1440 g_15 g_1441 hd_yX12_isIn ⟨rfl, rfl, Nat.le_of_ble_eq_true rfl, Nat.le_of_ble_eq_true rfl⟩ rfl rfl (Nat.le_of_ble_eq_true rfl) dX12_setRate_13 ⟨Nat.le_refl _, Nat.le_refl _⟩ (fun _ _ => ?_)
    refine z_if_eq (tgt := 23) X dX12_setRate_16 (by decide) (fun q => ?_) (fun q => ?_)
    · have h := zp q h
      refine zz.pick (lo' := [(0, .ref (ad 40)), (1, .int (a1)), (2, .int (a2)), (3, .int (a3))]) [0, 1, 2, 3] rfl ?_
      exact br_setRate_23 X hml hr h
    · have h := zn q h
      refine z_iconst (v := 0) X dX12_setRate_19 (by decide) ?_
      refine z_goto (tgt := 24) X dX12_setRate_20 (by decide) ?_
      refine zz.pick (lo' := [(0, .ref (ad 40)), (1, .int (a1)), (2, .int (a2)), (3, .int (a3))]) [0, 1, 2, 3] rfl ?_
      exact br_setRate_24 X hml hr h
theorem cr_setRate (l : Launch) {D : va_G} {dA : Nat → ClassId} {A : Nat → Prop} {n : Nat} {ad : Nat → Nat} (hst : l.stackTraces = false) (hA : ∀ q, n ≤ q → A q) {ρ : Rho} {a1 : Int32} {a2 : Int32} {a3 : Int32} {o : Rho × Int32} (h : fr_setRate ρ a1 a2 a3 = some o) : Met l yX12_setRate (.code yX12_setRate cX12_setRate 6 (some .int) :: gT) ({ frames := 60, cells := 0, slots := 0, locals := 600 } : Room) (va_Pc [.ref (ad 40), .int a1, .int a2, .int a3] (zB D dA A n (rw D dA A ρ ad))) (va_Qi (fun r (_ : Unit) => r = o.2 ∧ True) (fun _ t => rw D dA A o.1 ad t.heap) A) 0 0 A :=
  z_met (by decide) hA hst (Nat.le_of_ble_eq_true rfl) rfl rfl (fun p e s m below meth c X hml hr _ => br_setRate X hml hr h)
-- setSlice(I)I
def fr_setSlice_16 (ρ : Rho) (v1 : Int32) (s1 : Int32) : Option (Rho × Int32) := (fr_can ρ (s1)).bind fun o1 => (if o1.2 = 0 then some (o1.1, 0)
  else (some ((o1.1 1 0))).bind fun x2 => (some (cs o1.1 1 0 (v1))).bind fun ρ3 => some (ρ3, x2))
set_option maxRecDepth 100000 in
set_option maxHeartbeats 4000000 in
theorem br_setSlice_16 {p : Program} {l : Launch} {e : Env} {s : State} {m : MethodId} {args : Array Value} {below : List Frame} {meth : Method} {c : Code} {D : va_G} {dA : Nat → ClassId} {A : Nat → Prop} {ad : Nat → Nat} {o : Rho × Int32} (X : zc p l s m args meth c cX12_setSlice RX12 D dA A) (hml : c.maxLocals = 3) (hr : meth.sig.returnType = (some .int)) {ρ : Rho} {v1 : Int32} {s1 : Int32} (h : fr_setSlice_16 ρ v1 s1 = some o) : zz p l e ({ frames := 40, cells := 0, slots := 0, locals := 400 } : Room) s m args below meth c A (rw D dA A ρ ad) 0 0 (MQ below (va_Qi (fun r (_ : Unit) => r = o.2 ∧ True) (fun _ t => rw D dA A o.1 ad t.heap) A) args s 0 0 A) 16 [(0, .ref (ad 40)), (1, .int (v1))] [] [.int (s1), .ref (ad 40)] := by
  unfold fr_setSlice_16 at h
  obtain ⟨o1, co1, h⟩ := zb2 h
  refine z_callVi (As := [.int (s1)]) (rest := []) (nA := 1) (r0 := o1.2) (pu := fun (_ : Unit) => True) (G1 := fun _ => rw D dA A o1.1 ad) X (cr_can l X.2.2.2.2.2.2.2.2 X.2.2.2.2.2.2.1 co1) g_1445 g_1447 gs_25 g_15 g_1448 hd_yX12_can ⟨rfl, rfl, Nat.le_of_ble_eq_true rfl, Nat.le_of_ble_eq_true rfl⟩ rfl (fun _ hG => rw_recv X hG) rfl (Nat.le_of_ble_eq_true rfl) dX12_setSlice_16 ⟨Nat.le_refl _, Nat.le_refl _⟩ (fun _ _ => ?_)
  refine z_if_ne (tgt := 24) X dX12_setSlice_19 (by decide) (fun q => ?_) (fun q => ?_)
  · have h := zp q h
    refine z_iconst (v := 0) X dX12_setSlice_22 (by decide) ?_
    obtain rfl := Option.some.inj h
    exact z_iret X hr rfl (fun t hG hF _ => ⟨⟨_, (), rfl, ⟨rfl, trivial⟩, hG⟩, hF⟩) dX12_setSlice_23
  · have h := zn q h
    refine z_aload_n X dX12_setSlice_24 rfl rfl ?_
    refine r_getS X 1 rfl rfl g_1307 dX12_setSlice_25 ?_
    obtain ⟨x2, ex2, h⟩ := zb h
    rw [ex2]
    refine z_istore_n (lo' := [(2, .int (x2)), (0, .ref (ad 40)), (1, .int (v1))]) X dX12_setSlice_28 rfl (by rw [hml]; decide) rfl rfl ?_
    refine z_aload_n X dX12_setSlice_29 rfl rfl ?_
    refine z_iload_n X dX12_setSlice_30 rfl rfl ?_
    obtain ⟨ρ3, eρ3, h⟩ := zb h
    refine r_putS X 1 rfl rfl rfl g_1307 eρ3 dX12_setSlice_31 ?_
    refine z_iload_n X dX12_setSlice_34 rfl rfl ?_
    obtain rfl := Option.some.inj h
    exact z_iret X hr rfl (fun t hG hF _ => ⟨⟨_, (), rfl, ⟨rfl, trivial⟩, hG⟩, hF⟩) dX12_setSlice_35
def fr_setSlice (ρ : Rho) (a1 : Int32) : Option (Rho × Int32) := (fr_isIn ρ (a1) (1) (100)).bind fun o1 => (if o1 = 0 then fr_setSlice_16 ρ a1 1
  else fr_setSlice_16 ρ a1 0)
set_option maxRecDepth 100000 in
set_option maxHeartbeats 4000000 in
theorem br_setSlice {p : Program} {l : Launch} {e : Env} {s : State} {m : MethodId} {args : Array Value} {below : List Frame} {meth : Method} {c : Code} {D : va_G} {dA : Nat → ClassId} {A : Nat → Prop} {ad : Nat → Nat} {o : Rho × Int32} (X : zc p l s m args meth c cX12_setSlice RX12 D dA A) (hml : c.maxLocals = 3) (hr : meth.sig.returnType = (some .int)) {ρ : Rho} {a1 : Int32} (h : fr_setSlice ρ a1 = some o) : zz p l e ({ frames := 40, cells := 0, slots := 0, locals := 400 } : Room) s m args below meth c A (rw D dA A ρ ad) 0 0 (MQ below (va_Qi (fun r (_ : Unit) => r = o.2 ∧ True) (fun _ t => rw D dA A o.1 ad t.heap) A) args s 0 0 A) 0 [(0, .ref (ad 40)), (1, .int (a1))] [] [] := by
  unfold fr_setSlice at h
  refine z_aload_n X dX12_setSlice_0 rfl rfl ?_
  refine z_iload_n X dX12_setSlice_1 rfl rfl ?_
  refine z_iconst (v := 1) X dX12_setSlice_2 (by decide) ?_
  refine z_bipush (v := 100) X dX12_setSlice_3 (by decide) ?_
  obtain ⟨o1, co1, h⟩ := zb2 h
  refine z_callSi (As := [.int (a1), .int (1), .int (100)]) (rest := [.ref (ad 40)]) (nA := 3) (r0 := o1) (pu := fun (_ : Unit) => True) (G1 := fun _ => rw D dA A ρ ad) X (cr_isIn l X.2.2.2.2.2.2.2.2 X.2.2.2.2.2.2.1 co1) g_1439 g_1440 g_15 g_1441 hd_yX12_isIn ⟨rfl, rfl, Nat.le_of_ble_eq_true rfl, Nat.le_of_ble_eq_true rfl⟩ rfl rfl (Nat.le_of_ble_eq_true rfl) dX12_setSlice_5 ⟨Nat.le_refl _, Nat.le_refl _⟩ (fun _ _ => ?_)
  refine z_if_eq (tgt := 15) X dX12_setSlice_8 (by decide) (fun q => ?_) (fun q => ?_)
  · have h := zp q h
    refine z_iconst (v := 1) X dX12_setSlice_15 (by decide) ?_
    refine zz.pick (lo' := [(0, .ref (ad 40)), (1, .int (a1))]) [0, 1] rfl ?_
    exact br_setSlice_16 X hml hr h
  · have h := zn q h
    refine z_iconst (v := 0) X dX12_setSlice_11 (by decide) ?_
    refine z_goto (tgt := 16) X dX12_setSlice_12 (by decide) ?_
    refine zz.pick (lo' := [(0, .ref (ad 40)), (1, .int (a1))]) [0, 1] rfl ?_
    exact br_setSlice_16 X hml hr h
theorem cr_setSlice (l : Launch) {D : va_G} {dA : Nat → ClassId} {A : Nat → Prop} {n : Nat} {ad : Nat → Nat} (hst : l.stackTraces = false) (hA : ∀ q, n ≤ q → A q) {ρ : Rho} {a1 : Int32} {o : Rho × Int32} (h : fr_setSlice ρ a1 = some o) : Met l yX12_setSlice (.code yX12_setSlice cX12_setSlice 3 (some .int) :: gT) ({ frames := 40, cells := 0, slots := 0, locals := 400 } : Room) (va_Pc [.ref (ad 40), .int a1] (zB D dA A n (rw D dA A ρ ad))) (va_Qi (fun r (_ : Unit) => r = o.2 ∧ True) (fun _ t => rw D dA A o.1 ad t.heap) A) 0 0 A :=
  z_met (by decide) hA hst (Nat.le_of_ble_eq_true rfl) rfl rfl (fun p e s m below meth c X hml hr _ => br_setSlice X hml hr h)
-- setCap(II)I
def fr_setCap_27 (ρ : Rho) (v1 : Int32) (v2 : Int32) (s1 : Int32) : Option (Rho × Int32) := (fr_can ρ (s1)).bind fun o1 => (if o1.2 = 0 then some (o1.1, 0)
  else if v1 < 0 ∨ 10 ≤ (v1).toNatClampNeg then none else (some ((o1.1 8 (v1).toNatClampNeg))).bind fun x3 => if v1 < 0 ∨ 10 ≤ (v1).toNatClampNeg then none else (some (cs o1.1 8 (v1).toNatClampNeg (v2))).bind fun ρ4 => some (ρ4, x3))
set_option maxRecDepth 100000 in
set_option maxHeartbeats 4000000 in
theorem br_setCap_27 {p : Program} {l : Launch} {e : Env} {s : State} {m : MethodId} {args : Array Value} {below : List Frame} {meth : Method} {c : Code} {D : va_G} {dA : Nat → ClassId} {A : Nat → Prop} {ad : Nat → Nat} {o : Rho × Int32} (X : zc p l s m args meth c cX12_setCap RX12 D dA A) (hml : c.maxLocals = 4) (hr : meth.sig.returnType = (some .int)) {ρ : Rho} {v1 : Int32} {v2 : Int32} {s1 : Int32} (h : fr_setCap_27 ρ v1 v2 s1 = some o) : zz p l e ({ frames := 60, cells := 0, slots := 0, locals := 600 } : Room) s m args below meth c A (rw D dA A ρ ad) 0 0 (MQ below (va_Qi (fun r (_ : Unit) => r = o.2 ∧ True) (fun _ t => rw D dA A o.1 ad t.heap) A) args s 0 0 A) 27 [(0, .ref (ad 40)), (1, .int (v1)), (2, .int (v2))] [] [.int (s1), .ref (ad 40)] := by
  unfold fr_setCap_27 at h
  obtain ⟨o1, co1, h⟩ := zb2 h
  refine z_callVi (As := [.int (s1)]) (rest := []) (nA := 1) (r0 := o1.2) (pu := fun (_ : Unit) => True) (G1 := fun _ => rw D dA A o1.1 ad) X (cr_can l X.2.2.2.2.2.2.2.2 X.2.2.2.2.2.2.1 co1) g_1445 g_1447 gs_25 g_15 g_1448 hd_yX12_can ⟨rfl, rfl, Nat.le_of_ble_eq_true rfl, Nat.le_of_ble_eq_true rfl⟩ rfl (fun _ hG => rw_recv X hG) rfl (Nat.le_of_ble_eq_true rfl) dX12_setCap_27 ⟨Nat.le_refl _, Nat.le_refl _⟩ (fun _ _ => ?_)
  refine z_if_ne (tgt := 35) X dX12_setCap_30 (by decide) (fun q => ?_) (fun q => ?_)
  · have h := zp q h
    refine z_iconst (v := 0) X dX12_setCap_33 (by decide) ?_
    obtain rfl := Option.some.inj h
    exact z_iret X hr rfl (fun t hG hF _ => ⟨⟨_, (), rfl, ⟨rfl, trivial⟩, hG⟩, hF⟩) dX12_setCap_34
  · have h := zn q h
    refine z_aload_n X dX12_setCap_35 rfl rfl ?_
    refine r_getA X 8 rfl rfl g_1314 dX12_setCap_36 ?_
    refine z_iload_n X dX12_setCap_39 rfl rfl ?_
    obtain ⟨q2, h⟩ := zg h
    refine r_ald X 8 rfl rfl q2 dX12_setCap_40 ?_
    obtain ⟨x3, ex3, h⟩ := zb h
    rw [ex3]
    refine z_istore_n (lo' := [(3, .int (x3)), (0, .ref (ad 40)), (1, .int (v1)), (2, .int (v2))]) X dX12_setCap_41 rfl (by rw [hml]; decide) rfl rfl ?_
    refine z_aload_n X dX12_setCap_42 rfl rfl ?_
    refine r_getA X 8 rfl rfl g_1314 dX12_setCap_43 ?_
    refine z_iload_n X dX12_setCap_46 rfl rfl ?_
    refine z_iload_n X dX12_setCap_47 rfl rfl ?_
    obtain ⟨q5, h⟩ := zg h
    obtain ⟨ρ4, eρ4, h⟩ := zb h
    refine r_ast X 8 rfl rfl q5 eρ4 dX12_setCap_48 ?_
    refine z_iload_n X dX12_setCap_49 rfl rfl ?_
    obtain rfl := Option.some.inj h
    exact z_iret X hr rfl (fun t hG hF _ => ⟨⟨_, (), rfl, ⟨rfl, trivial⟩, hG⟩, hF⟩) dX12_setCap_50
def fr_setCap (ρ : Rho) (a1 : Int32) (a2 : Int32) : Option (Rho × Int32) := (fr_isPhone ρ (a1)).bind fun o1 => (if o1 = 0 then fr_setCap_27 ρ a1 a2 1
  else (fr_isIn ρ (a2) ((-1)) (1000000)).bind fun o2 => (if o2 = 0 then fr_setCap_27 ρ a1 a2 2
  else fr_setCap_27 ρ a1 a2 0))
set_option maxRecDepth 100000 in
set_option maxHeartbeats 4000000 in
theorem br_setCap {p : Program} {l : Launch} {e : Env} {s : State} {m : MethodId} {args : Array Value} {below : List Frame} {meth : Method} {c : Code} {D : va_G} {dA : Nat → ClassId} {A : Nat → Prop} {ad : Nat → Nat} {o : Rho × Int32} (X : zc p l s m args meth c cX12_setCap RX12 D dA A) (hml : c.maxLocals = 4) (hr : meth.sig.returnType = (some .int)) {ρ : Rho} {a1 : Int32} {a2 : Int32} (h : fr_setCap ρ a1 a2 = some o) : zz p l e ({ frames := 60, cells := 0, slots := 0, locals := 600 } : Room) s m args below meth c A (rw D dA A ρ ad) 0 0 (MQ below (va_Qi (fun r (_ : Unit) => r = o.2 ∧ True) (fun _ t => rw D dA A o.1 ad t.heap) A) args s 0 0 A) 0 [(0, .ref (ad 40)), (1, .int (a1)), (2, .int (a2))] [] [] := by
  unfold fr_setCap at h
  refine z_aload_n X dX12_setCap_0 rfl rfl ?_
  refine z_iload_n X dX12_setCap_1 rfl rfl ?_
  obtain ⟨o1, co1, h⟩ := zb2 h
  refine z_callSi (As := [.int (a1)]) (rest := [.ref (ad 40)]) (nA := 1) (r0 := o1) (pu := fun (_ : Unit) => True) (G1 := fun _ => rw D dA A ρ ad) X (cr_isPhone l X.2.2.2.2.2.2.2.2 X.2.2.2.2.2.2.1 co1) g_1469 g_1470 g_15 g_1471 hd_yX12_isPhone ⟨rfl, rfl, Nat.le_of_ble_eq_true rfl, Nat.le_of_ble_eq_true rfl⟩ rfl rfl (Nat.le_of_ble_eq_true rfl) dX12_setCap_2 ⟨Nat.le_refl _, Nat.le_refl _⟩ (fun _ _ => ?_)
  refine z_if_ne (tgt := 12) X dX12_setCap_5 (by decide) (fun q => ?_) (fun q => ?_)
  · have h := zp q h
    refine z_iconst (v := 1) X dX12_setCap_8 (by decide) ?_
    refine z_goto (tgt := 27) X dX12_setCap_9 (by decide) ?_
    refine zz.pick (lo' := [(0, .ref (ad 40)), (1, .int (a1)), (2, .int (a2))]) [0, 1, 2] rfl ?_
    exact br_setCap_27 X hml hr h
  · have h := zn q h
    refine z_iload_n X dX12_setCap_12 rfl rfl ?_
    refine z_iconst (v := (-1)) X dX12_setCap_13 (by decide) ?_
    refine z_ldc X g_1472 dX12_setCap_14 ?_
    obtain ⟨o2, co2, h⟩ := zb2 h
    refine z_callSi (As := [.int (a2), .int ((-1)), .int (1000000)]) (rest := [.ref (ad 40)]) (nA := 3) (r0 := o2) (pu := fun (_ : Unit) => True) (G1 := fun _ => rw D dA A ρ ad) X (cr_isIn l X.2.2.2.2.2.2.2.2 X.2.2.2.2.2.2.1 co2) g_1439 g_1440 g_15 g_1441 hd_yX12_isIn ⟨rfl, rfl, Nat.le_of_ble_eq_true rfl, Nat.le_of_ble_eq_true rfl⟩ rfl rfl (Nat.le_of_ble_eq_true rfl) dX12_setCap_16 ⟨Nat.le_refl _, Nat.le_refl _⟩ (fun _ _ => ?_)
    refine z_if_eq (tgt := 26) X dX12_setCap_19 (by decide) (fun q => ?_) (fun q => ?_)
    · have h := zp q h
      refine z_iconst (v := 2) X dX12_setCap_26 (by decide) ?_
      refine zz.pick (lo' := [(0, .ref (ad 40)), (1, .int (a1)), (2, .int (a2))]) [0, 1, 2] rfl ?_
      exact br_setCap_27 X hml hr h
    · have h := zn q h
      refine z_iconst (v := 0) X dX12_setCap_22 (by decide) ?_
      refine z_goto (tgt := 27) X dX12_setCap_23 (by decide) ?_
      refine zz.pick (lo' := [(0, .ref (ad 40)), (1, .int (a1)), (2, .int (a2))]) [0, 1, 2] rfl ?_
      exact br_setCap_27 X hml hr h
theorem cr_setCap (l : Launch) {D : va_G} {dA : Nat → ClassId} {A : Nat → Prop} {n : Nat} {ad : Nat → Nat} (hst : l.stackTraces = false) (hA : ∀ q, n ≤ q → A q) {ρ : Rho} {a1 : Int32} {a2 : Int32} {o : Rho × Int32} (h : fr_setCap ρ a1 a2 = some o) : Met l yX12_setCap (.code yX12_setCap cX12_setCap 4 (some .int) :: gT) ({ frames := 60, cells := 0, slots := 0, locals := 600 } : Room) (va_Pc [.ref (ad 40), .int a1, .int a2] (zB D dA A n (rw D dA A ρ ad))) (va_Qi (fun r (_ : Unit) => r = o.2 ∧ True) (fun _ t => rw D dA A o.1 ad t.heap) A) 0 0 A :=
  z_met (by decide) hA hst (Nat.le_of_ble_eq_true rfl) rfl rfl (fun p e s m below meth c X hml hr _ => br_setCap X hml hr h)
-- setWallet(II)I
def fr_setWallet_44 (ρ : Rho) (v1 : Int32) (v2 : Int32) (s1 : Int32) : Option (Rho × Int32) := (fr_can ρ (s1)).bind fun o1 => (if o1.2 = 0 then some (o1.1, 0)
  else if v1 < 0 ∨ 10 ≤ (v1).toNatClampNeg then none else (some ((o1.1 7 (v1).toNatClampNeg))).bind fun x3 => if v1 < 0 ∨ 10 ≤ (v1).toNatClampNeg then none else (some (cs o1.1 7 (v1).toNatClampNeg (v2))).bind fun ρ4 => some (ρ4, x3))
set_option maxRecDepth 100000 in
set_option maxHeartbeats 4000000 in
theorem br_setWallet_44 {p : Program} {l : Launch} {e : Env} {s : State} {m : MethodId} {args : Array Value} {below : List Frame} {meth : Method} {c : Code} {D : va_G} {dA : Nat → ClassId} {A : Nat → Prop} {ad : Nat → Nat} {o : Rho × Int32} (X : zc p l s m args meth c cX12_setWallet RX12 D dA A) (hml : c.maxLocals = 5) (hr : meth.sig.returnType = (some .int)) {ρ : Rho} {v1 : Int32} {v2 : Int32} {s1 : Int32} (h : fr_setWallet_44 ρ v1 v2 s1 = some o) : zz p l e ({ frames := 60, cells := 0, slots := 0, locals := 600 } : Room) s m args below meth c A (rw D dA A ρ ad) 0 0 (MQ below (va_Qi (fun r (_ : Unit) => r = o.2 ∧ True) (fun _ t => rw D dA A o.1 ad t.heap) A) args s 0 0 A) 44 [(0, .ref (ad 40)), (1, .int (v1)), (2, .int (v2))] [] [.int (s1), .ref (ad 40)] := by
  unfold fr_setWallet_44 at h
  obtain ⟨o1, co1, h⟩ := zb2 h
  refine z_callVi (As := [.int (s1)]) (rest := []) (nA := 1) (r0 := o1.2) (pu := fun (_ : Unit) => True) (G1 := fun _ => rw D dA A o1.1 ad) X (cr_can l X.2.2.2.2.2.2.2.2 X.2.2.2.2.2.2.1 co1) g_1445 g_1447 gs_25 g_15 g_1448 hd_yX12_can ⟨rfl, rfl, Nat.le_of_ble_eq_true rfl, Nat.le_of_ble_eq_true rfl⟩ rfl (fun _ hG => rw_recv X hG) rfl (Nat.le_of_ble_eq_true rfl) dX12_setWallet_44 ⟨Nat.le_refl _, Nat.le_refl _⟩ (fun _ _ => ?_)
  refine z_if_ne (tgt := 52) X dX12_setWallet_47 (by decide) (fun q => ?_) (fun q => ?_)
  · have h := zp q h
    refine z_iconst (v := 0) X dX12_setWallet_50 (by decide) ?_
    obtain rfl := Option.some.inj h
    exact z_iret X hr rfl (fun t hG hF _ => ⟨⟨_, (), rfl, ⟨rfl, trivial⟩, hG⟩, hF⟩) dX12_setWallet_51
  · have h := zn q h
    refine z_aload_n X dX12_setWallet_52 rfl rfl ?_
    refine r_getA X 7 rfl rfl g_1313 dX12_setWallet_53 ?_
    refine z_iload_n X dX12_setWallet_56 rfl rfl ?_
    obtain ⟨q2, h⟩ := zg h
    refine r_ald X 7 rfl rfl q2 dX12_setWallet_57 ?_
    obtain ⟨x3, ex3, h⟩ := zb h
    rw [ex3]
    refine z_istore (lo' := [(4, .int (x3)), (0, .ref (ad 40)), (1, .int (v1)), (2, .int (v2))]) X dX12_setWallet_58 (by rw [hml]; decide) rfl rfl ?_
    refine z_aload_n X dX12_setWallet_60 rfl rfl ?_
    refine r_getA X 7 rfl rfl g_1313 dX12_setWallet_61 ?_
    refine z_iload_n X dX12_setWallet_64 rfl rfl ?_
    refine z_iload_n X dX12_setWallet_65 rfl rfl ?_
    obtain ⟨q5, h⟩ := zg h
    obtain ⟨ρ4, eρ4, h⟩ := zb h
    refine r_ast X 7 rfl rfl q5 eρ4 dX12_setWallet_66 ?_
    refine z_iload X dX12_setWallet_67 rfl ?_
    obtain rfl := Option.some.inj h
    exact z_iret X hr rfl (fun t hG hF _ => ⟨⟨_, (), rfl, ⟨rfl, trivial⟩, hG⟩, hF⟩) dX12_setWallet_69
def fr_setWallet_19 (ρ : Rho) (v1 : Int32) (v2 : Int32) (s0 : Int32) : Option (Rho × Int32) := (if s0 = 0 then fr_setWallet_44 ρ v1 v2 1
  else if v1 < 0 ∨ 10 ≤ (v1).toNatClampNeg then none else (if (ρ 9 (v1).toNatClampNeg) = (-1) then fr_setWallet_44 ρ v1 v2 0
  else fr_setWallet_44 ρ v1 v2 2))
set_option maxRecDepth 100000 in
set_option maxHeartbeats 4000000 in
theorem br_setWallet_19 {p : Program} {l : Launch} {e : Env} {s : State} {m : MethodId} {args : Array Value} {below : List Frame} {meth : Method} {c : Code} {D : va_G} {dA : Nat → ClassId} {A : Nat → Prop} {ad : Nat → Nat} {o : Rho × Int32} (X : zc p l s m args meth c cX12_setWallet RX12 D dA A) (hml : c.maxLocals = 5) (hr : meth.sig.returnType = (some .int)) {ρ : Rho} {v1 : Int32} {v2 : Int32} {s0 : Int32} (h : fr_setWallet_19 ρ v1 v2 s0 = some o) : zz p l e ({ frames := 60, cells := 0, slots := 0, locals := 600 } : Room) s m args below meth c A (rw D dA A ρ ad) 0 0 (MQ below (va_Qi (fun r (_ : Unit) => r = o.2 ∧ True) (fun _ t => rw D dA A o.1 ad t.heap) A) args s 0 0 A) 19 [(0, .ref (ad 40)), (1, .int (v1)), (2, .int (v2))] [] [.int (s0)] := by
  unfold fr_setWallet_19 at h
  refine z_istore_n (lo' := [(3, .int (s0)), (0, .ref (ad 40)), (1, .int (v1)), (2, .int (v2))]) X dX12_setWallet_19 rfl (by rw [hml]; decide) rfl rfl ?_
  refine z_aload_n X dX12_setWallet_20 rfl rfl ?_
  refine z_iload_n X dX12_setWallet_21 rfl rfl ?_
  refine z_if_ne (tgt := 29) X dX12_setWallet_22 (by decide) (fun q => ?_) (fun q => ?_)
  · have h := zp q h
    refine z_iconst (v := 1) X dX12_setWallet_25 (by decide) ?_
    refine z_goto (tgt := 44) X dX12_setWallet_26 (by decide) ?_
    refine zz.pick (lo' := [(0, .ref (ad 40)), (1, .int (v1)), (2, .int (v2))]) [0, 1, 2] rfl ?_
    exact br_setWallet_44 X hml hr h
  · have h := zn q h
    refine z_aload_n X dX12_setWallet_29 rfl rfl ?_
    refine r_getA X 9 rfl rfl g_1315 dX12_setWallet_30 ?_
    refine z_iload_n X dX12_setWallet_33 rfl rfl ?_
    obtain ⟨q1, h⟩ := zg h
    refine r_ald X 9 rfl rfl q1 dX12_setWallet_34 ?_
    refine z_iconst (v := (-1)) X dX12_setWallet_35 (by decide) ?_
    refine z_icmp_eq (tgt := 43) X dX12_setWallet_36 (by decide) (fun q => ?_) (fun q => ?_)
    · have h := zp q h
      refine z_iconst (v := 0) X dX12_setWallet_43 (by decide) ?_
      refine zz.pick (lo' := [(0, .ref (ad 40)), (1, .int (v1)), (2, .int (v2))]) [0, 1, 2] rfl ?_
      exact br_setWallet_44 X hml hr h
    · have h := zn q h
      refine z_iconst (v := 2) X dX12_setWallet_39 (by decide) ?_
      refine z_goto (tgt := 44) X dX12_setWallet_40 (by decide) ?_
      refine zz.pick (lo' := [(0, .ref (ad 40)), (1, .int (v1)), (2, .int (v2))]) [0, 1, 2] rfl ?_
      exact br_setWallet_44 X hml hr h
def fr_setWallet_18 (ρ : Rho) (v1 : Int32) (v2 : Int32) : Option (Rho × Int32) := fr_setWallet_19 ρ v1 v2 0
set_option maxRecDepth 100000 in
set_option maxHeartbeats 4000000 in
theorem br_setWallet_18 {p : Program} {l : Launch} {e : Env} {s : State} {m : MethodId} {args : Array Value} {below : List Frame} {meth : Method} {c : Code} {D : va_G} {dA : Nat → ClassId} {A : Nat → Prop} {ad : Nat → Nat} {o : Rho × Int32} (X : zc p l s m args meth c cX12_setWallet RX12 D dA A) (hml : c.maxLocals = 5) (hr : meth.sig.returnType = (some .int)) {ρ : Rho} {v1 : Int32} {v2 : Int32} (h : fr_setWallet_18 ρ v1 v2 = some o) : zz p l e ({ frames := 60, cells := 0, slots := 0, locals := 600 } : Room) s m args below meth c A (rw D dA A ρ ad) 0 0 (MQ below (va_Qi (fun r (_ : Unit) => r = o.2 ∧ True) (fun _ t => rw D dA A o.1 ad t.heap) A) args s 0 0 A) 18 [(0, .ref (ad 40)), (1, .int (v1)), (2, .int (v2))] [] [] := by
  unfold fr_setWallet_18 at h
  refine z_iconst (v := 0) X dX12_setWallet_18 (by decide) ?_
  refine zz.pick (lo' := [(0, .ref (ad 40)), (1, .int (v1)), (2, .int (v2))]) [0, 1, 2] rfl ?_
  exact br_setWallet_19 X hml hr h
def fr_setWallet (ρ : Rho) (a1 : Int32) (a2 : Int32) : Option (Rho × Int32) := (fr_isPhone ρ (a1)).bind fun o1 => (if o1 = 0 then fr_setWallet_18 ρ a1 a2
  else (fr_isWallet ρ (a2)).bind fun o2 => (if o2 = 0 then fr_setWallet_18 ρ a1 a2
  else fr_setWallet_19 ρ a1 a2 1))
set_option maxRecDepth 100000 in
set_option maxHeartbeats 4000000 in
theorem br_setWallet {p : Program} {l : Launch} {e : Env} {s : State} {m : MethodId} {args : Array Value} {below : List Frame} {meth : Method} {c : Code} {D : va_G} {dA : Nat → ClassId} {A : Nat → Prop} {ad : Nat → Nat} {o : Rho × Int32} (X : zc p l s m args meth c cX12_setWallet RX12 D dA A) (hml : c.maxLocals = 5) (hr : meth.sig.returnType = (some .int)) {ρ : Rho} {a1 : Int32} {a2 : Int32} (h : fr_setWallet ρ a1 a2 = some o) : zz p l e ({ frames := 60, cells := 0, slots := 0, locals := 600 } : Room) s m args below meth c A (rw D dA A ρ ad) 0 0 (MQ below (va_Qi (fun r (_ : Unit) => r = o.2 ∧ True) (fun _ t => rw D dA A o.1 ad t.heap) A) args s 0 0 A) 0 [(0, .ref (ad 40)), (1, .int (a1)), (2, .int (a2))] [] [] := by
  unfold fr_setWallet at h
  refine z_iload_n X dX12_setWallet_0 rfl rfl ?_
  obtain ⟨o1, co1, h⟩ := zb2 h
  refine z_callSi (As := [.int (a1)]) (rest := []) (nA := 1) (r0 := o1) (pu := fun (_ : Unit) => True) (G1 := fun _ => rw D dA A ρ ad) X (cr_isPhone l X.2.2.2.2.2.2.2.2 X.2.2.2.2.2.2.1 co1) g_1469 g_1470 g_15 g_1471 hd_yX12_isPhone ⟨rfl, rfl, Nat.le_of_ble_eq_true rfl, Nat.le_of_ble_eq_true rfl⟩ rfl rfl (Nat.le_of_ble_eq_true rfl) dX12_setWallet_1 ⟨Nat.le_refl _, Nat.le_refl _⟩ (fun _ _ => ?_)
  refine z_if_eq (tgt := 18) X dX12_setWallet_4 (by decide) (fun q => ?_) (fun q => ?_)
  · have h := zp q h
    refine zz.pick (lo' := [(0, .ref (ad 40)), (1, .int (a1)), (2, .int (a2))]) [0, 1, 2] rfl ?_
    exact br_setWallet_18 X hml hr h
  · have h := zn q h
    refine z_iload_n X dX12_setWallet_7 rfl rfl ?_
    obtain ⟨o2, co2, h⟩ := zb2 h
    refine z_callSi (As := [.int (a2)]) (rest := []) (nA := 1) (r0 := o2) (pu := fun (_ : Unit) => True) (G1 := fun _ => rw D dA A ρ ad) X (cr_isWallet l X.2.2.2.2.2.2.2.2 X.2.2.2.2.2.2.1 co2) g_1477 g_1478 g_15 g_1479 hd_yX12_isWallet ⟨rfl, rfl, Nat.le_of_ble_eq_true rfl, Nat.le_of_ble_eq_true rfl⟩ rfl rfl (Nat.le_of_ble_eq_true rfl) dX12_setWallet_8 ⟨Nat.le_refl _, Nat.le_refl _⟩ (fun _ _ => ?_)
    refine z_if_eq (tgt := 18) X dX12_setWallet_11 (by decide) (fun q => ?_) (fun q => ?_)
    · have h := zp q h
      refine zz.pick (lo' := [(0, .ref (ad 40)), (1, .int (a1)), (2, .int (a2))]) [0, 1, 2] rfl ?_
      exact br_setWallet_18 X hml hr h
    · have h := zn q h
      refine z_iconst (v := 1) X dX12_setWallet_14 (by decide) ?_
      refine z_goto (tgt := 19) X dX12_setWallet_15 (by decide) ?_
      refine zz.pick (lo' := [(0, .ref (ad 40)), (1, .int (a1)), (2, .int (a2))]) [0, 1, 2] rfl ?_
      exact br_setWallet_19 X hml hr h
theorem cr_setWallet (l : Launch) {D : va_G} {dA : Nat → ClassId} {A : Nat → Prop} {n : Nat} {ad : Nat → Nat} (hst : l.stackTraces = false) (hA : ∀ q, n ≤ q → A q) {ρ : Rho} {a1 : Int32} {a2 : Int32} {o : Rho × Int32} (h : fr_setWallet ρ a1 a2 = some o) : Met l yX12_setWallet (.code yX12_setWallet cX12_setWallet 5 (some .int) :: gT) ({ frames := 60, cells := 0, slots := 0, locals := 600 } : Room) (va_Pc [.ref (ad 40), .int a1, .int a2] (zB D dA A n (rw D dA A ρ ad))) (va_Qi (fun r (_ : Unit) => r = o.2 ∧ True) (fun _ t => rw D dA A o.1 ad t.heap) A) 0 0 A :=
  z_met (by decide) hA hst (Nat.le_of_ble_eq_true rfl) rfl rfl (fun p e s m below meth c X hml hr _ => br_setWallet X hml hr h)
-- top(II)I
def fr_top_27 (ρ : Rho) (v1 : Int32) (v2 : Int32) (s1 : Int32) : Option (Rho × Int32) := (fr_can ρ (s1)).bind fun o1 => (if o1.2 = 0 then some (o1.1, 0)
  else if v1 < 0 ∨ 4 ≤ (v1).toNatClampNeg then none else if v1 < 0 ∨ 4 ≤ (v1).toNatClampNeg then none else (some (cs o1.1 12 (v1).toNatClampNeg (((o1.1 12 (v1).toNatClampNeg) + v2)))).bind fun ρ3 => if v1 < 0 ∨ 4 ≤ (v1).toNatClampNeg then none else some (ρ3, (ρ3 12 (v1).toNatClampNeg)))
set_option maxRecDepth 100000 in
set_option maxHeartbeats 4000000 in
theorem br_top_27 {p : Program} {l : Launch} {e : Env} {s : State} {m : MethodId} {args : Array Value} {below : List Frame} {meth : Method} {c : Code} {D : va_G} {dA : Nat → ClassId} {A : Nat → Prop} {ad : Nat → Nat} {o : Rho × Int32} (X : zc p l s m args meth c cX12_top RX12 D dA A) (hml : c.maxLocals = 3) (hr : meth.sig.returnType = (some .int)) {ρ : Rho} {v1 : Int32} {v2 : Int32} {s1 : Int32} (h : fr_top_27 ρ v1 v2 s1 = some o) : zz p l e ({ frames := 60, cells := 0, slots := 0, locals := 600 } : Room) s m args below meth c A (rw D dA A ρ ad) 0 0 (MQ below (va_Qi (fun r (_ : Unit) => r = o.2 ∧ True) (fun _ t => rw D dA A o.1 ad t.heap) A) args s 0 0 A) 27 [(0, .ref (ad 40)), (1, .int (v1)), (2, .int (v2))] [] [.int (s1), .ref (ad 40)] := by
  unfold fr_top_27 at h
  obtain ⟨o1, co1, h⟩ := zb2 h
  refine z_callVi (As := [.int (s1)]) (rest := []) (nA := 1) (r0 := o1.2) (pu := fun (_ : Unit) => True) (G1 := fun _ => rw D dA A o1.1 ad) X (cr_can l X.2.2.2.2.2.2.2.2 X.2.2.2.2.2.2.1 co1) g_1445 g_1447 gs_25 g_15 g_1448 hd_yX12_can ⟨rfl, rfl, Nat.le_of_ble_eq_true rfl, Nat.le_of_ble_eq_true rfl⟩ rfl (fun _ hG => rw_recv X hG) rfl (Nat.le_of_ble_eq_true rfl) dX12_top_27 ⟨Nat.le_refl _, Nat.le_refl _⟩ (fun _ _ => ?_)
  refine z_if_ne (tgt := 35) X dX12_top_30 (by decide) (fun q => ?_) (fun q => ?_)
  · have h := zp q h
    refine z_iconst (v := 0) X dX12_top_33 (by decide) ?_
    obtain rfl := Option.some.inj h
    exact z_iret X hr rfl (fun t hG hF _ => ⟨⟨_, (), rfl, ⟨rfl, trivial⟩, hG⟩, hF⟩) dX12_top_34
  · have h := zn q h
    refine z_aload_n X dX12_top_35 rfl rfl ?_
    refine r_getA X 12 rfl rfl g_1318 dX12_top_36 ?_
    refine z_iload_n X dX12_top_39 rfl rfl ?_
    refine z_dup2 X dX12_top_40 rfl rfl ?_
    obtain ⟨q2, h⟩ := zg h
    refine r_ald X 12 rfl rfl q2 dX12_top_41 ?_
    refine z_iload_n X dX12_top_42 rfl rfl ?_
    refine z_iadd X dX12_top_43 ?_
    obtain ⟨q4, h⟩ := zg h
    obtain ⟨ρ3, eρ3, h⟩ := zb h
    refine r_ast X 12 rfl rfl q4 eρ3 dX12_top_44 ?_
    refine z_aload_n X dX12_top_45 rfl rfl ?_
    refine r_getA X 12 rfl rfl g_1318 dX12_top_46 ?_
    refine z_iload_n X dX12_top_49 rfl rfl ?_
    obtain ⟨q5, h⟩ := zg h
    refine r_ald X 12 rfl rfl q5 dX12_top_50 ?_
    obtain rfl := Option.some.inj h
    exact z_iret X hr rfl (fun t hG hF _ => ⟨⟨_, (), rfl, ⟨rfl, trivial⟩, hG⟩, hF⟩) dX12_top_51
def fr_top (ρ : Rho) (a1 : Int32) (a2 : Int32) : Option (Rho × Int32) := (fr_isWallet ρ (a1)).bind fun o1 => (if o1 = 0 then fr_top_27 ρ a1 a2 1
  else (fr_isIn ρ (a2) (1) (1000000)).bind fun o2 => (if o2 = 0 then fr_top_27 ρ a1 a2 2
  else fr_top_27 ρ a1 a2 0))
set_option maxRecDepth 100000 in
set_option maxHeartbeats 4000000 in
theorem br_top {p : Program} {l : Launch} {e : Env} {s : State} {m : MethodId} {args : Array Value} {below : List Frame} {meth : Method} {c : Code} {D : va_G} {dA : Nat → ClassId} {A : Nat → Prop} {ad : Nat → Nat} {o : Rho × Int32} (X : zc p l s m args meth c cX12_top RX12 D dA A) (hml : c.maxLocals = 3) (hr : meth.sig.returnType = (some .int)) {ρ : Rho} {a1 : Int32} {a2 : Int32} (h : fr_top ρ a1 a2 = some o) : zz p l e ({ frames := 60, cells := 0, slots := 0, locals := 600 } : Room) s m args below meth c A (rw D dA A ρ ad) 0 0 (MQ below (va_Qi (fun r (_ : Unit) => r = o.2 ∧ True) (fun _ t => rw D dA A o.1 ad t.heap) A) args s 0 0 A) 0 [(0, .ref (ad 40)), (1, .int (a1)), (2, .int (a2))] [] [] := by
  unfold fr_top at h
  refine z_aload_n X dX12_top_0 rfl rfl ?_
  refine z_iload_n X dX12_top_1 rfl rfl ?_
  obtain ⟨o1, co1, h⟩ := zb2 h
  refine z_callSi (As := [.int (a1)]) (rest := [.ref (ad 40)]) (nA := 1) (r0 := o1) (pu := fun (_ : Unit) => True) (G1 := fun _ => rw D dA A ρ ad) X (cr_isWallet l X.2.2.2.2.2.2.2.2 X.2.2.2.2.2.2.1 co1) g_1477 g_1478 g_15 g_1479 hd_yX12_isWallet ⟨rfl, rfl, Nat.le_of_ble_eq_true rfl, Nat.le_of_ble_eq_true rfl⟩ rfl rfl (Nat.le_of_ble_eq_true rfl) dX12_top_2 ⟨Nat.le_refl _, Nat.le_refl _⟩ (fun _ _ => ?_)
  refine z_if_ne (tgt := 12) X dX12_top_5 (by decide) (fun q => ?_) (fun q => ?_)
  · have h := zp q h
    refine z_iconst (v := 1) X dX12_top_8 (by decide) ?_
    refine z_goto (tgt := 27) X dX12_top_9 (by decide) ?_
    refine zz.pick (lo' := [(0, .ref (ad 40)), (1, .int (a1)), (2, .int (a2))]) [0, 1, 2] rfl ?_
    exact br_top_27 X hml hr h
  · have h := zn q h
    refine z_iload_n X dX12_top_12 rfl rfl ?_
    refine z_iconst (v := 1) X dX12_top_13 (by decide) ?_
    refine z_ldc X g_1472 dX12_top_14 ?_
    obtain ⟨o2, co2, h⟩ := zb2 h
    refine z_callSi (As := [.int (a2), .int (1), .int (1000000)]) (rest := [.ref (ad 40)]) (nA := 3) (r0 := o2) (pu := fun (_ : Unit) => True) (G1 := fun _ => rw D dA A ρ ad) X (cr_isIn l X.2.2.2.2.2.2.2.2 X.2.2.2.2.2.2.1 co2) g_1439 g_1440 g_15 g_1441 hd_yX12_isIn ⟨rfl, rfl, Nat.le_of_ble_eq_true rfl, Nat.le_of_ble_eq_true rfl⟩ rfl rfl (Nat.le_of_ble_eq_true rfl) dX12_top_16 ⟨Nat.le_refl _, Nat.le_refl _⟩ (fun _ _ => ?_)
    refine z_if_eq (tgt := 26) X dX12_top_19 (by decide) (fun q => ?_) (fun q => ?_)
    · have h := zp q h
      refine z_iconst (v := 2) X dX12_top_26 (by decide) ?_
      refine zz.pick (lo' := [(0, .ref (ad 40)), (1, .int (a1)), (2, .int (a2))]) [0, 1, 2] rfl ?_
      exact br_top_27 X hml hr h
    · have h := zn q h
      refine z_iconst (v := 0) X dX12_top_22 (by decide) ?_
      refine z_goto (tgt := 27) X dX12_top_23 (by decide) ?_
      refine zz.pick (lo' := [(0, .ref (ad 40)), (1, .int (a1)), (2, .int (a2))]) [0, 1, 2] rfl ?_
      exact br_top_27 X hml hr h
theorem cr_top (l : Launch) {D : va_G} {dA : Nat → ClassId} {A : Nat → Prop} {n : Nat} {ad : Nat → Nat} (hst : l.stackTraces = false) (hA : ∀ q, n ≤ q → A q) {ρ : Rho} {a1 : Int32} {a2 : Int32} {o : Rho × Int32} (h : fr_top ρ a1 a2 = some o) : Met l yX12_top (.code yX12_top cX12_top 3 (some .int) :: gT) ({ frames := 60, cells := 0, slots := 0, locals := 600 } : Room) (va_Pc [.ref (ad 40), .int a1, .int a2] (zB D dA A n (rw D dA A ρ ad))) (va_Qi (fun r (_ : Unit) => r = o.2 ∧ True) (fun _ t => rw D dA A o.1 ad t.heap) A) 0 0 A :=
  z_met (by decide) hA hst (Nat.le_of_ble_eq_true rfl) rfl rfl (fun p e s m below meth c X hml hr _ => br_top X hml hr h)
-- give(III)I
def fr_give_77 (ρ : Rho) (v1 : Int32) (v2 : Int32) (v3 : Int32) (s1 : Int32) : Option (Rho × Int32) := (fr_can ρ (s1)).bind fun o1 => (if o1.2 = 0 then some (o1.1, 0)
  else if v1 < 0 ∨ 4 ≤ (v1).toNatClampNeg then none else if v1 < 0 ∨ 4 ≤ (v1).toNatClampNeg then none else (some (cs o1.1 12 (v1).toNatClampNeg (((o1.1 12 (v1).toNatClampNeg) - v3)))).bind fun ρ3 => if v2 < 0 ∨ 4 ≤ (v2).toNatClampNeg then none else if v2 < 0 ∨ 4 ≤ (v2).toNatClampNeg then none else (some (cs ρ3 12 (v2).toNatClampNeg (((ρ3 12 (v2).toNatClampNeg) + v3)))).bind fun ρ6 => if v1 < 0 ∨ 4 ≤ (v1).toNatClampNeg then none else some (ρ6, (ρ6 12 (v1).toNatClampNeg)))
set_option maxRecDepth 100000 in
set_option maxHeartbeats 4000000 in
theorem br_give_77 {p : Program} {l : Launch} {e : Env} {s : State} {m : MethodId} {args : Array Value} {below : List Frame} {meth : Method} {c : Code} {D : va_G} {dA : Nat → ClassId} {A : Nat → Prop} {ad : Nat → Nat} {o : Rho × Int32} (X : zc p l s m args meth c cX12_give RX12 D dA A) (hml : c.maxLocals = 6) (hr : meth.sig.returnType = (some .int)) {ρ : Rho} {v1 : Int32} {v2 : Int32} {v3 : Int32} {s1 : Int32} (h : fr_give_77 ρ v1 v2 v3 s1 = some o) : zz p l e ({ frames := 60, cells := 0, slots := 0, locals := 600 } : Room) s m args below meth c A (rw D dA A ρ ad) 0 0 (MQ below (va_Qi (fun r (_ : Unit) => r = o.2 ∧ True) (fun _ t => rw D dA A o.1 ad t.heap) A) args s 0 0 A) 77 [(0, .ref (ad 40)), (1, .int (v1)), (2, .int (v2)), (3, .int (v3))] [] [.int (s1), .ref (ad 40)] := by
  unfold fr_give_77 at h
  obtain ⟨o1, co1, h⟩ := zb2 h
  refine z_callVi (As := [.int (s1)]) (rest := []) (nA := 1) (r0 := o1.2) (pu := fun (_ : Unit) => True) (G1 := fun _ => rw D dA A o1.1 ad) X (cr_can l X.2.2.2.2.2.2.2.2 X.2.2.2.2.2.2.1 co1) g_1445 g_1447 gs_25 g_15 g_1448 hd_yX12_can ⟨rfl, rfl, Nat.le_of_ble_eq_true rfl, Nat.le_of_ble_eq_true rfl⟩ rfl (fun _ hG => rw_recv X hG) rfl (Nat.le_of_ble_eq_true rfl) dX12_give_77 ⟨Nat.le_refl _, Nat.le_refl _⟩ (fun _ _ => ?_)
  refine z_if_ne (tgt := 85) X dX12_give_80 (by decide) (fun q => ?_) (fun q => ?_)
  · have h := zp q h
    refine z_iconst (v := 0) X dX12_give_83 (by decide) ?_
    obtain rfl := Option.some.inj h
    exact z_iret X hr rfl (fun t hG hF _ => ⟨⟨_, (), rfl, ⟨rfl, trivial⟩, hG⟩, hF⟩) dX12_give_84
  · have h := zn q h
    refine z_aload_n X dX12_give_85 rfl rfl ?_
    refine r_getA X 12 rfl rfl g_1318 dX12_give_86 ?_
    refine z_iload_n X dX12_give_89 rfl rfl ?_
    refine z_dup2 X dX12_give_90 rfl rfl ?_
    obtain ⟨q2, h⟩ := zg h
    refine r_ald X 12 rfl rfl q2 dX12_give_91 ?_
    refine z_iload_n X dX12_give_92 rfl rfl ?_
    refine z_isub X dX12_give_93 ?_
    obtain ⟨q4, h⟩ := zg h
    obtain ⟨ρ3, eρ3, h⟩ := zb h
    refine r_ast X 12 rfl rfl q4 eρ3 dX12_give_94 ?_
    refine z_aload_n X dX12_give_95 rfl rfl ?_
    refine r_getA X 12 rfl rfl g_1318 dX12_give_96 ?_
    refine z_iload_n X dX12_give_99 rfl rfl ?_
    refine z_dup2 X dX12_give_100 rfl rfl ?_
    obtain ⟨q5, h⟩ := zg h
    refine r_ald X 12 rfl rfl q5 dX12_give_101 ?_
    refine z_iload_n X dX12_give_102 rfl rfl ?_
    refine z_iadd X dX12_give_103 ?_
    obtain ⟨q7, h⟩ := zg h
    obtain ⟨ρ6, eρ6, h⟩ := zb h
    refine r_ast X 12 rfl rfl q7 eρ6 dX12_give_104 ?_
    refine z_aload_n X dX12_give_105 rfl rfl ?_
    refine r_getA X 12 rfl rfl g_1318 dX12_give_106 ?_
    refine z_iload_n X dX12_give_109 rfl rfl ?_
    obtain ⟨q8, h⟩ := zg h
    refine r_ald X 12 rfl rfl q8 dX12_give_110 ?_
    obtain rfl := Option.some.inj h
    exact z_iret X hr rfl (fun t hG hF _ => ⟨⟨_, (), rfl, ⟨rfl, trivial⟩, hG⟩, hF⟩) dX12_give_111
def fr_give_41 (ρ : Rho) (v1 : Int32) (v2 : Int32) (v3 : Int32) (v4 : Int32) (s0 : Int32) : Option (Rho × Int32) := (if v4 = 0 then fr_give_77 ρ v1 v2 v3 1
  else (if s0 = 0 then fr_give_77 ρ v1 v2 v3 2
  else if v1 < 0 ∨ 4 ≤ (v1).toNatClampNeg then none else (if v3 ≤ (ρ 12 (v1).toNatClampNeg) then fr_give_77 ρ v1 v2 v3 0
  else fr_give_77 ρ v1 v2 v3 3)))
set_option maxRecDepth 100000 in
set_option maxHeartbeats 4000000 in
theorem br_give_41 {p : Program} {l : Launch} {e : Env} {s : State} {m : MethodId} {args : Array Value} {below : List Frame} {meth : Method} {c : Code} {D : va_G} {dA : Nat → ClassId} {A : Nat → Prop} {ad : Nat → Nat} {o : Rho × Int32} (X : zc p l s m args meth c cX12_give RX12 D dA A) (hml : c.maxLocals = 6) (hr : meth.sig.returnType = (some .int)) {ρ : Rho} {v1 : Int32} {v2 : Int32} {v3 : Int32} {v4 : Int32} {s0 : Int32} (h : fr_give_41 ρ v1 v2 v3 v4 s0 = some o) : zz p l e ({ frames := 60, cells := 0, slots := 0, locals := 600 } : Room) s m args below meth c A (rw D dA A ρ ad) 0 0 (MQ below (va_Qi (fun r (_ : Unit) => r = o.2 ∧ True) (fun _ t => rw D dA A o.1 ad t.heap) A) args s 0 0 A) 41 [(0, .ref (ad 40)), (1, .int (v1)), (2, .int (v2)), (3, .int (v3)), (4, .int (v4))] [] [.int (s0)] := by
  unfold fr_give_41 at h
  refine z_istore (lo' := [(5, .int (s0)), (0, .ref (ad 40)), (1, .int (v1)), (2, .int (v2)), (3, .int (v3)), (4, .int (v4))]) X dX12_give_41 (by rw [hml]; decide) rfl rfl ?_
  refine z_aload_n X dX12_give_43 rfl rfl ?_
  refine z_iload X dX12_give_44 rfl ?_
  refine z_if_ne (tgt := 53) X dX12_give_46 (by decide) (fun q => ?_) (fun q => ?_)
  · have h := zp q h
    refine z_iconst (v := 1) X dX12_give_49 (by decide) ?_
    refine z_goto (tgt := 77) X dX12_give_50 (by decide) ?_
    refine zz.pick (lo' := [(0, .ref (ad 40)), (1, .int (v1)), (2, .int (v2)), (3, .int (v3))]) [0, 1, 2, 3] rfl ?_
    exact br_give_77 X hml hr h
  · have h := zn q h
    refine z_iload X dX12_give_53 rfl ?_
    refine z_if_ne (tgt := 62) X dX12_give_55 (by decide) (fun q => ?_) (fun q => ?_)
    · have h := zp q h
      refine z_iconst (v := 2) X dX12_give_58 (by decide) ?_
      refine z_goto (tgt := 77) X dX12_give_59 (by decide) ?_
      refine zz.pick (lo' := [(0, .ref (ad 40)), (1, .int (v1)), (2, .int (v2)), (3, .int (v3))]) [0, 1, 2, 3] rfl ?_
      exact br_give_77 X hml hr h
    · have h := zn q h
      refine z_aload_n X dX12_give_62 rfl rfl ?_
      refine r_getA X 12 rfl rfl g_1318 dX12_give_63 ?_
      refine z_iload_n X dX12_give_66 rfl rfl ?_
      obtain ⟨q1, h⟩ := zg h
      refine r_ald X 12 rfl rfl q1 dX12_give_67 ?_
      refine z_iload_n X dX12_give_68 rfl rfl ?_
      refine z_icmp_ge (tgt := 76) X dX12_give_69 (by decide) (fun q => ?_) (fun q => ?_)
      · have h := zp q h
        refine z_iconst (v := 0) X dX12_give_76 (by decide) ?_
        refine zz.pick (lo' := [(0, .ref (ad 40)), (1, .int (v1)), (2, .int (v2)), (3, .int (v3))]) [0, 1, 2, 3] rfl ?_
        exact br_give_77 X hml hr h
      · have h := zn q h
        refine z_iconst (v := 3) X dX12_give_72 (by decide) ?_
        refine z_goto (tgt := 77) X dX12_give_73 (by decide) ?_
        refine zz.pick (lo' := [(0, .ref (ad 40)), (1, .int (v1)), (2, .int (v2)), (3, .int (v3))]) [0, 1, 2, 3] rfl ?_
        exact br_give_77 X hml hr h
def fr_give_40 (ρ : Rho) (v1 : Int32) (v2 : Int32) (v3 : Int32) (v4 : Int32) : Option (Rho × Int32) := fr_give_41 ρ v1 v2 v3 v4 0
set_option maxRecDepth 100000 in
set_option maxHeartbeats 4000000 in
theorem br_give_40 {p : Program} {l : Launch} {e : Env} {s : State} {m : MethodId} {args : Array Value} {below : List Frame} {meth : Method} {c : Code} {D : va_G} {dA : Nat → ClassId} {A : Nat → Prop} {ad : Nat → Nat} {o : Rho × Int32} (X : zc p l s m args meth c cX12_give RX12 D dA A) (hml : c.maxLocals = 6) (hr : meth.sig.returnType = (some .int)) {ρ : Rho} {v1 : Int32} {v2 : Int32} {v3 : Int32} {v4 : Int32} (h : fr_give_40 ρ v1 v2 v3 v4 = some o) : zz p l e ({ frames := 60, cells := 0, slots := 0, locals := 600 } : Room) s m args below meth c A (rw D dA A ρ ad) 0 0 (MQ below (va_Qi (fun r (_ : Unit) => r = o.2 ∧ True) (fun _ t => rw D dA A o.1 ad t.heap) A) args s 0 0 A) 40 [(0, .ref (ad 40)), (1, .int (v1)), (2, .int (v2)), (3, .int (v3)), (4, .int (v4))] [] [] := by
  unfold fr_give_40 at h
  refine z_iconst (v := 0) X dX12_give_40 (by decide) ?_
  refine zz.pick (lo' := [(0, .ref (ad 40)), (1, .int (v1)), (2, .int (v2)), (3, .int (v3)), (4, .int (v4))]) [0, 1, 2, 3, 4] rfl ?_
  exact br_give_41 X hml hr h
def fr_give_19 (ρ : Rho) (v1 : Int32) (v2 : Int32) (v3 : Int32) (s0 : Int32) : Option (Rho × Int32) := (if v1 = v2 then fr_give_40 ρ v1 v2 v3 s0
  else (fr_isIn ρ (v3) (1) (1000000)).bind fun o1 => (if o1 = 0 then fr_give_40 ρ v1 v2 v3 s0
  else fr_give_41 ρ v1 v2 v3 s0 1))
set_option maxRecDepth 100000 in
set_option maxHeartbeats 4000000 in
theorem br_give_19 {p : Program} {l : Launch} {e : Env} {s : State} {m : MethodId} {args : Array Value} {below : List Frame} {meth : Method} {c : Code} {D : va_G} {dA : Nat → ClassId} {A : Nat → Prop} {ad : Nat → Nat} {o : Rho × Int32} (X : zc p l s m args meth c cX12_give RX12 D dA A) (hml : c.maxLocals = 6) (hr : meth.sig.returnType = (some .int)) {ρ : Rho} {v1 : Int32} {v2 : Int32} {v3 : Int32} {s0 : Int32} (h : fr_give_19 ρ v1 v2 v3 s0 = some o) : zz p l e ({ frames := 60, cells := 0, slots := 0, locals := 600 } : Room) s m args below meth c A (rw D dA A ρ ad) 0 0 (MQ below (va_Qi (fun r (_ : Unit) => r = o.2 ∧ True) (fun _ t => rw D dA A o.1 ad t.heap) A) args s 0 0 A) 19 [(0, .ref (ad 40)), (1, .int (v1)), (2, .int (v2)), (3, .int (v3))] [] [.int (s0)] := by
  unfold fr_give_19 at h
  refine z_istore (lo' := [(4, .int (s0)), (0, .ref (ad 40)), (1, .int (v1)), (2, .int (v2)), (3, .int (v3))]) X dX12_give_19 (by rw [hml]; decide) rfl rfl ?_
  refine z_iload_n X dX12_give_21 rfl rfl ?_
  refine z_iload_n X dX12_give_22 rfl rfl ?_
  refine z_icmp_eq (tgt := 40) X dX12_give_23 (by decide) (fun q => ?_) (fun q => ?_)
  · have h := zp q h
    refine zz.pick (lo' := [(0, .ref (ad 40)), (1, .int (v1)), (2, .int (v2)), (3, .int (v3)), (4, .int (s0))]) [0, 1, 2, 3, 4] rfl ?_
    exact br_give_40 X hml hr h
  · have h := zn q h
    refine z_iload_n X dX12_give_26 rfl rfl ?_
    refine z_iconst (v := 1) X dX12_give_27 (by decide) ?_
    refine z_ldc X g_1472 dX12_give_28 ?_
    obtain ⟨o1, co1, h⟩ := zb2 h
    refine z_callSi (As := [.int (v3), .int (1), .int (1000000)]) (rest := []) (nA := 3) (r0 := o1) (pu := fun (_ : Unit) => True) (G1 := fun _ => rw D dA A ρ ad) X (cr_isIn l X.2.2.2.2.2.2.2.2 X.2.2.2.2.2.2.1 co1) g_1439 g_1440 g_15 g_1441 hd_yX12_isIn ⟨rfl, rfl, Nat.le_of_ble_eq_true rfl, Nat.le_of_ble_eq_true rfl⟩ rfl rfl (Nat.le_of_ble_eq_true rfl) dX12_give_30 ⟨Nat.le_refl _, Nat.le_refl _⟩ (fun _ _ => ?_)
    refine z_if_eq (tgt := 40) X dX12_give_33 (by decide) (fun q => ?_) (fun q => ?_)
    · have h := zp q h
      refine zz.pick (lo' := [(0, .ref (ad 40)), (1, .int (v1)), (2, .int (v2)), (3, .int (v3)), (4, .int (s0))]) [0, 1, 2, 3, 4] rfl ?_
      exact br_give_40 X hml hr h
    · have h := zn q h
      refine z_iconst (v := 1) X dX12_give_36 (by decide) ?_
      refine z_goto (tgt := 41) X dX12_give_37 (by decide) ?_
      refine zz.pick (lo' := [(0, .ref (ad 40)), (1, .int (v1)), (2, .int (v2)), (3, .int (v3)), (4, .int (s0))]) [0, 1, 2, 3, 4] rfl ?_
      exact br_give_41 X hml hr h
def fr_give_18 (ρ : Rho) (v1 : Int32) (v2 : Int32) (v3 : Int32) : Option (Rho × Int32) := fr_give_19 ρ v1 v2 v3 0
set_option maxRecDepth 100000 in
set_option maxHeartbeats 4000000 in
theorem br_give_18 {p : Program} {l : Launch} {e : Env} {s : State} {m : MethodId} {args : Array Value} {below : List Frame} {meth : Method} {c : Code} {D : va_G} {dA : Nat → ClassId} {A : Nat → Prop} {ad : Nat → Nat} {o : Rho × Int32} (X : zc p l s m args meth c cX12_give RX12 D dA A) (hml : c.maxLocals = 6) (hr : meth.sig.returnType = (some .int)) {ρ : Rho} {v1 : Int32} {v2 : Int32} {v3 : Int32} (h : fr_give_18 ρ v1 v2 v3 = some o) : zz p l e ({ frames := 60, cells := 0, slots := 0, locals := 600 } : Room) s m args below meth c A (rw D dA A ρ ad) 0 0 (MQ below (va_Qi (fun r (_ : Unit) => r = o.2 ∧ True) (fun _ t => rw D dA A o.1 ad t.heap) A) args s 0 0 A) 18 [(0, .ref (ad 40)), (1, .int (v1)), (2, .int (v2)), (3, .int (v3))] [] [] := by
  unfold fr_give_18 at h
  refine z_iconst (v := 0) X dX12_give_18 (by decide) ?_
  refine zz.pick (lo' := [(0, .ref (ad 40)), (1, .int (v1)), (2, .int (v2)), (3, .int (v3))]) [0, 1, 2, 3] rfl ?_
  exact br_give_19 X hml hr h
def fr_give (ρ : Rho) (a1 : Int32) (a2 : Int32) (a3 : Int32) : Option (Rho × Int32) := (fr_isWallet ρ (a1)).bind fun o1 => (if o1 = 0 then fr_give_18 ρ a1 a2 a3
  else (fr_isWallet ρ (a2)).bind fun o2 => (if o2 = 0 then fr_give_18 ρ a1 a2 a3
  else fr_give_19 ρ a1 a2 a3 1))
set_option maxRecDepth 100000 in
set_option maxHeartbeats 4000000 in
theorem br_give {p : Program} {l : Launch} {e : Env} {s : State} {m : MethodId} {args : Array Value} {below : List Frame} {meth : Method} {c : Code} {D : va_G} {dA : Nat → ClassId} {A : Nat → Prop} {ad : Nat → Nat} {o : Rho × Int32} (X : zc p l s m args meth c cX12_give RX12 D dA A) (hml : c.maxLocals = 6) (hr : meth.sig.returnType = (some .int)) {ρ : Rho} {a1 : Int32} {a2 : Int32} {a3 : Int32} (h : fr_give ρ a1 a2 a3 = some o) : zz p l e ({ frames := 60, cells := 0, slots := 0, locals := 600 } : Room) s m args below meth c A (rw D dA A ρ ad) 0 0 (MQ below (va_Qi (fun r (_ : Unit) => r = o.2 ∧ True) (fun _ t => rw D dA A o.1 ad t.heap) A) args s 0 0 A) 0 [(0, .ref (ad 40)), (1, .int (a1)), (2, .int (a2)), (3, .int (a3))] [] [] := by
  unfold fr_give at h
  refine z_iload_n X dX12_give_0 rfl rfl ?_
  obtain ⟨o1, co1, h⟩ := zb2 h
  refine z_callSi (As := [.int (a1)]) (rest := []) (nA := 1) (r0 := o1) (pu := fun (_ : Unit) => True) (G1 := fun _ => rw D dA A ρ ad) X (cr_isWallet l X.2.2.2.2.2.2.2.2 X.2.2.2.2.2.2.1 co1) g_1477 g_1478 g_15 g_1479 hd_yX12_isWallet ⟨rfl, rfl, Nat.le_of_ble_eq_true rfl, Nat.le_of_ble_eq_true rfl⟩ rfl rfl (Nat.le_of_ble_eq_true rfl) dX12_give_1 ⟨Nat.le_refl _, Nat.le_refl _⟩ (fun _ _ => ?_)
  refine z_if_eq (tgt := 18) X dX12_give_4 (by decide) (fun q => ?_) (fun q => ?_)
  · have h := zp q h
    refine zz.pick (lo' := [(0, .ref (ad 40)), (1, .int (a1)), (2, .int (a2)), (3, .int (a3))]) [0, 1, 2, 3] rfl ?_
    exact br_give_18 X hml hr h
  · have h := zn q h
    refine z_iload_n X dX12_give_7 rfl rfl ?_
    obtain ⟨o2, co2, h⟩ := zb2 h
    refine z_callSi (As := [.int (a2)]) (rest := []) (nA := 1) (r0 := o2) (pu := fun (_ : Unit) => True) (G1 := fun _ => rw D dA A ρ ad) X (cr_isWallet l X.2.2.2.2.2.2.2.2 X.2.2.2.2.2.2.1 co2) g_1477 g_1478 g_15 g_1479 hd_yX12_isWallet ⟨rfl, rfl, Nat.le_of_ble_eq_true rfl, Nat.le_of_ble_eq_true rfl⟩ rfl rfl (Nat.le_of_ble_eq_true rfl) dX12_give_8 ⟨Nat.le_refl _, Nat.le_refl _⟩ (fun _ _ => ?_)
    refine z_if_eq (tgt := 18) X dX12_give_11 (by decide) (fun q => ?_) (fun q => ?_)
    · have h := zp q h
      refine zz.pick (lo' := [(0, .ref (ad 40)), (1, .int (a1)), (2, .int (a2)), (3, .int (a3))]) [0, 1, 2, 3] rfl ?_
      exact br_give_18 X hml hr h
    · have h := zn q h
      refine z_iconst (v := 1) X dX12_give_14 (by decide) ?_
      refine z_goto (tgt := 19) X dX12_give_15 (by decide) ?_
      refine zz.pick (lo' := [(0, .ref (ad 40)), (1, .int (a1)), (2, .int (a2)), (3, .int (a3))]) [0, 1, 2, 3] rfl ?_
      exact br_give_19 X hml hr h
theorem cr_give (l : Launch) {D : va_G} {dA : Nat → ClassId} {A : Nat → Prop} {n : Nat} {ad : Nat → Nat} (hst : l.stackTraces = false) (hA : ∀ q, n ≤ q → A q) {ρ : Rho} {a1 : Int32} {a2 : Int32} {a3 : Int32} {o : Rho × Int32} (h : fr_give ρ a1 a2 a3 = some o) : Met l yX12_give (.code yX12_give cX12_give 6 (some .int) :: gT) ({ frames := 60, cells := 0, slots := 0, locals := 600 } : Room) (va_Pc [.ref (ad 40), .int a1, .int a2, .int a3] (zB D dA A n (rw D dA A ρ ad))) (va_Qi (fun r (_ : Unit) => r = o.2 ∧ True) (fun _ t => rw D dA A o.1 ad t.heap) A) 0 0 A :=
  z_met (by decide) hA hst (Nat.le_of_ble_eq_true rfl) rfl rfl (fun p e s m below meth c X hml hr _ => br_give X hml hr h)
-- today()I
def fr_today (ρ : Rho)  : Option (Int32) := some (((ρ 0 0) / 2400))
set_option maxRecDepth 100000 in
set_option maxHeartbeats 4000000 in
theorem br_today {p : Program} {l : Launch} {e : Env} {s : State} {m : MethodId} {args : Array Value} {below : List Frame} {meth : Method} {c : Code} {D : va_G} {dA : Nat → ClassId} {A : Nat → Prop} {ad : Nat → Nat} {o : Int32} (X : zc p l s m args meth c cX12_today RX12 D dA A) (hml : c.maxLocals = 1) (hr : meth.sig.returnType = (some .int)) {ρ : Rho}  (h : fr_today ρ = some o) : zz p l e ({ frames := 20, cells := 0, slots := 0, locals := 200 } : Room) s m args below meth c A (rw D dA A ρ ad) 0 0 (MQ below (va_Qi (fun r (_ : Unit) => r = o ∧ True) (fun _ t => rw D dA A ρ ad t.heap) A) args s 0 0 A) 0 [(0, .ref (ad 40))] [] [] := by
  unfold fr_today at h
  refine z_aload_n X dX12_today_0 rfl rfl ?_
  refine r_getS X 0 rfl rfl g_1306 dX12_today_1 ?_
  refine z_sipush (v := 2400) X dX12_today_4 (by decide) ?_
  refine z_idiv X dX12_today_7 (by decide) ?_
  obtain rfl := Option.some.inj h
  exact z_iret X hr rfl (fun t hG hF _ => ⟨⟨_, (), rfl, ⟨rfl, trivial⟩, hG⟩, hF⟩) dX12_today_8
theorem cr_today (l : Launch) {D : va_G} {dA : Nat → ClassId} {A : Nat → Prop} {n : Nat} {ad : Nat → Nat} (hst : l.stackTraces = false) (hA : ∀ q, n ≤ q → A q) {ρ : Rho}  {o : Int32} (h : fr_today ρ = some o) : Met l yX12_today (.code yX12_today cX12_today 1 (some .int) :: gT) ({ frames := 20, cells := 0, slots := 0, locals := 200 } : Room) (va_Pc [.ref (ad 40)] (zB D dA A n (rw D dA A ρ ad))) (va_Qi (fun r (_ : Unit) => r = o ∧ True) (fun _ t => rw D dA A ρ ad t.heap) A) 0 0 A :=
  z_met (by decide) hA hst (Nat.le_of_ble_eq_true rfl) rfl rfl (fun p e s m below meth c X hml hr _ => br_today X hml hr h)
-- buy(IIIIII)I
def fr_buy_107 (ρ : Rho) (v1 : Int32) (v2 : Int32) (v3 : Int32) (v4 : Int32) (v5 : Int32) (v6 : Int32) (s1 : Int32) : Option (Rho × Int32) := (fr_can ρ (s1)).bind fun o1 => (if o1.2 = 0 then some (o1.1, 0)
  else if v1 < 0 ∨ 4 ≤ (v1).toNatClampNeg then none else if v1 < 0 ∨ 4 ≤ (v1).toNatClampNeg then none else (some (cs o1.1 12 (v1).toNatClampNeg (((o1.1 12 (v1).toNatClampNeg) - v6)))).bind fun ρ3 => if (ρ3 14 0) < 0 ∨ 40 ≤ ((ρ3 14 0)).toNatClampNeg then none else (some (cs ρ3 15 ((ρ3 14 0)).toNatClampNeg (v1))).bind fun ρ5 => if (ρ5 14 0) < 0 ∨ 40 ≤ ((ρ5 14 0)).toNatClampNeg then none else (some (cs ρ5 16 ((ρ5 14 0)).toNatClampNeg (v2))).bind fun ρ7 => if (ρ7 14 0) < 0 ∨ 40 ≤ ((ρ7 14 0)).toNatClampNeg then none else (some (cs ρ7 17 ((ρ7 14 0)).toNatClampNeg (v3))).bind fun ρ9 => (fr_today ρ9).bind fun o11 => if (ρ9 14 0) < 0 ∨ 40 ≤ ((ρ9 14 0)).toNatClampNeg then none else (some (cs ρ9 18 ((ρ9 14 0)).toNatClampNeg ((o11 + v4)))).bind fun ρ12 => if (ρ12 14 0) < 0 ∨ 40 ≤ ((ρ12 14 0)).toNatClampNeg then none else (some (cs ρ12 19 ((ρ12 14 0)).toNatClampNeg (v5))).bind fun ρ14 => (some (cs ρ14 14 0 (((ρ14 14 0) + 1)))).bind fun ρ16 => some (ρ16, ((ρ16 14 0) - 1)))
set_option maxRecDepth 100000 in
set_option maxHeartbeats 4000000 in
theorem br_buy_107 {p : Program} {l : Launch} {e : Env} {s : State} {m : MethodId} {args : Array Value} {below : List Frame} {meth : Method} {c : Code} {D : va_G} {dA : Nat → ClassId} {A : Nat → Prop} {ad : Nat → Nat} {o : Rho × Int32} (X : zc p l s m args meth c cX12_buy RX12 D dA A) (hml : c.maxLocals = 8) (hr : meth.sig.returnType = (some .int)) {ρ : Rho} {v1 : Int32} {v2 : Int32} {v3 : Int32} {v4 : Int32} {v5 : Int32} {v6 : Int32} {s1 : Int32} (h : fr_buy_107 ρ v1 v2 v3 v4 v5 v6 s1 = some o) : zz p l e ({ frames := 60, cells := 0, slots := 0, locals := 600 } : Room) s m args below meth c A (rw D dA A ρ ad) 0 0 (MQ below (va_Qi (fun r (_ : Unit) => r = o.2 ∧ True) (fun _ t => rw D dA A o.1 ad t.heap) A) args s 0 0 A) 107 [(0, .ref (ad 40)), (1, .int (v1)), (2, .int (v2)), (3, .int (v3)), (4, .int (v4)), (5, .int (v5)), (6, .int (v6))] [] [.int (s1), .ref (ad 40)] := by
  unfold fr_buy_107 at h
  obtain ⟨o1, co1, h⟩ := zb2 h
  refine z_callVi (As := [.int (s1)]) (rest := []) (nA := 1) (r0 := o1.2) (pu := fun (_ : Unit) => True) (G1 := fun _ => rw D dA A o1.1 ad) X (cr_can l X.2.2.2.2.2.2.2.2 X.2.2.2.2.2.2.1 co1) g_1445 g_1447 gs_25 g_15 g_1448 hd_yX12_can ⟨rfl, rfl, Nat.le_of_ble_eq_true rfl, Nat.le_of_ble_eq_true rfl⟩ rfl (fun _ hG => rw_recv X hG) rfl (Nat.le_of_ble_eq_true rfl) dX12_buy_107 ⟨Nat.le_refl _, Nat.le_refl _⟩ (fun _ _ => ?_)
  refine z_if_ne (tgt := 115) X dX12_buy_110 (by decide) (fun q => ?_) (fun q => ?_)
  · have h := zp q h
    refine z_iconst (v := 0) X dX12_buy_113 (by decide) ?_
    obtain rfl := Option.some.inj h
    exact z_iret X hr rfl (fun t hG hF _ => ⟨⟨_, (), rfl, ⟨rfl, trivial⟩, hG⟩, hF⟩) dX12_buy_114
  · have h := zn q h
    refine z_aload_n X dX12_buy_115 rfl rfl ?_
    refine r_getA X 12 rfl rfl g_1318 dX12_buy_116 ?_
    refine z_iload_n X dX12_buy_119 rfl rfl ?_
    refine z_dup2 X dX12_buy_120 rfl rfl ?_
    obtain ⟨q2, h⟩ := zg h
    refine r_ald X 12 rfl rfl q2 dX12_buy_121 ?_
    refine z_iload X dX12_buy_122 rfl ?_
    refine z_isub X dX12_buy_124 ?_
    obtain ⟨q4, h⟩ := zg h
    obtain ⟨ρ3, eρ3, h⟩ := zb h
    refine r_ast X 12 rfl rfl q4 eρ3 dX12_buy_125 ?_
    refine z_aload_n X dX12_buy_126 rfl rfl ?_
    refine r_getA X 15 rfl rfl g_1321 dX12_buy_127 ?_
    refine z_aload_n X dX12_buy_130 rfl rfl ?_
    refine r_getS X 14 rfl rfl g_1320 dX12_buy_131 ?_
    refine z_iload_n X dX12_buy_134 rfl rfl ?_
    obtain ⟨q6, h⟩ := zg h
    obtain ⟨ρ5, eρ5, h⟩ := zb h
    refine r_ast X 15 rfl rfl q6 eρ5 dX12_buy_135 ?_
    refine z_aload_n X dX12_buy_136 rfl rfl ?_
    refine r_getA X 16 rfl rfl g_1322 dX12_buy_137 ?_
    refine z_aload_n X dX12_buy_140 rfl rfl ?_
    refine r_getS X 14 rfl rfl g_1320 dX12_buy_141 ?_
    refine z_iload_n X dX12_buy_144 rfl rfl ?_
    obtain ⟨q8, h⟩ := zg h
    obtain ⟨ρ7, eρ7, h⟩ := zb h
    refine r_ast X 16 rfl rfl q8 eρ7 dX12_buy_145 ?_
    refine z_aload_n X dX12_buy_146 rfl rfl ?_
    refine r_getA X 17 rfl rfl g_1323 dX12_buy_147 ?_
    refine z_aload_n X dX12_buy_150 rfl rfl ?_
    refine r_getS X 14 rfl rfl g_1320 dX12_buy_151 ?_
    refine z_iload_n X dX12_buy_154 rfl rfl ?_
    obtain ⟨q10, h⟩ := zg h
    obtain ⟨ρ9, eρ9, h⟩ := zb h
    refine r_ast X 17 rfl rfl q10 eρ9 dX12_buy_155 ?_
    refine z_aload_n X dX12_buy_156 rfl rfl ?_
    refine r_getA X 18 rfl rfl g_1324 dX12_buy_157 ?_
    refine z_aload_n X dX12_buy_160 rfl rfl ?_
    refine r_getS X 14 rfl rfl g_1320 dX12_buy_161 ?_
    refine z_aload_n X dX12_buy_164 rfl rfl ?_
    obtain ⟨o11, co11, h⟩ := zb2 h
    refine z_callVi (As := []) (rest := [.int ((ρ9 14 0)), .ref (ad 18)]) (nA := 0) (r0 := o11) (pu := fun (_ : Unit) => True) (G1 := fun _ => rw D dA A ρ9 ad) X (cr_today l X.2.2.2.2.2.2.2.2 X.2.2.2.2.2.2.1 co11) g_1492 g_1494 gs_27 g_15 g_1495 hd_yX12_today ⟨rfl, rfl, Nat.le_of_ble_eq_true rfl, Nat.le_of_ble_eq_true rfl⟩ rfl (fun _ hG => rw_recv X hG) rfl (Nat.le_of_ble_eq_true rfl) dX12_buy_165 ⟨Nat.le_refl _, Nat.le_refl _⟩ (fun _ _ => ?_)
    refine z_iload X dX12_buy_168 rfl ?_
    refine z_iadd X dX12_buy_170 ?_
    obtain ⟨q13, h⟩ := zg h
    obtain ⟨ρ12, eρ12, h⟩ := zb h
    refine r_ast X 18 rfl rfl q13 eρ12 dX12_buy_171 ?_
    refine z_aload_n X dX12_buy_172 rfl rfl ?_
    refine r_getA X 19 rfl rfl g_1325 dX12_buy_173 ?_
    refine z_aload_n X dX12_buy_176 rfl rfl ?_
    refine r_getS X 14 rfl rfl g_1320 dX12_buy_177 ?_
    refine z_iload X dX12_buy_180 rfl ?_
    obtain ⟨q15, h⟩ := zg h
    obtain ⟨ρ14, eρ14, h⟩ := zb h
    refine r_ast X 19 rfl rfl q15 eρ14 dX12_buy_182 ?_
    refine z_aload_n X dX12_buy_183 rfl rfl ?_
    refine z_dup X dX12_buy_184 rfl ?_
    refine r_getS X 14 rfl rfl g_1320 dX12_buy_185 ?_
    refine z_iconst (v := 1) X dX12_buy_188 (by decide) ?_
    refine z_iadd X dX12_buy_189 ?_
    obtain ⟨ρ16, eρ16, h⟩ := zb h
    refine r_putS X 14 rfl rfl rfl g_1320 eρ16 dX12_buy_190 ?_
    refine z_aload_n X dX12_buy_193 rfl rfl ?_
    refine r_getS X 14 rfl rfl g_1320 dX12_buy_194 ?_
    refine z_iconst (v := 1) X dX12_buy_197 (by decide) ?_
    refine z_isub X dX12_buy_198 ?_
    obtain rfl := Option.some.inj h
    exact z_iret X hr rfl (fun t hG hF _ => ⟨⟨_, (), rfl, ⟨rfl, trivial⟩, hG⟩, hF⟩) dX12_buy_199
def fr_buy_102 (ρ : Rho) (v1 : Int32) (v2 : Int32) (v3 : Int32) (v4 : Int32) (v5 : Int32) (v6 : Int32) : Option (Rho × Int32) := fr_buy_107 ρ v1 v2 v3 v4 v5 v6 3
set_option maxRecDepth 100000 in
set_option maxHeartbeats 4000000 in
theorem br_buy_102 {p : Program} {l : Launch} {e : Env} {s : State} {m : MethodId} {args : Array Value} {below : List Frame} {meth : Method} {c : Code} {D : va_G} {dA : Nat → ClassId} {A : Nat → Prop} {ad : Nat → Nat} {o : Rho × Int32} (X : zc p l s m args meth c cX12_buy RX12 D dA A) (hml : c.maxLocals = 8) (hr : meth.sig.returnType = (some .int)) {ρ : Rho} {v1 : Int32} {v2 : Int32} {v3 : Int32} {v4 : Int32} {v5 : Int32} {v6 : Int32} (h : fr_buy_102 ρ v1 v2 v3 v4 v5 v6 = some o) : zz p l e ({ frames := 60, cells := 0, slots := 0, locals := 600 } : Room) s m args below meth c A (rw D dA A ρ ad) 0 0 (MQ below (va_Qi (fun r (_ : Unit) => r = o.2 ∧ True) (fun _ t => rw D dA A o.1 ad t.heap) A) args s 0 0 A) 102 [(0, .ref (ad 40)), (1, .int (v1)), (2, .int (v2)), (3, .int (v3)), (4, .int (v4)), (5, .int (v5)), (6, .int (v6))] [] [.ref (ad 40)] := by
  unfold fr_buy_102 at h
  refine z_iconst (v := 3) X dX12_buy_102 (by decide) ?_
  refine z_goto (tgt := 107) X dX12_buy_103 (by decide) ?_
  refine zz.pick (lo' := [(0, .ref (ad 40)), (1, .int (v1)), (2, .int (v2)), (3, .int (v3)), (4, .int (v4)), (5, .int (v5)), (6, .int (v6))]) [0, 1, 2, 3, 4, 5, 6] rfl ?_
  exact br_buy_107 X hml hr h
def fr_buy_59 (ρ : Rho) (v1 : Int32) (v2 : Int32) (v3 : Int32) (v4 : Int32) (v5 : Int32) (v6 : Int32) (s0 : Int32) : Option (Rho × Int32) := (fr_isWallet ρ (v1)).bind fun o1 => (if o1 = 0 then fr_buy_107 ρ v1 v2 v3 v4 v5 v6 1
  else (if s0 = 0 then fr_buy_107 ρ v1 v2 v3 v4 v5 v6 2
  else if v1 < 0 ∨ 4 ≤ (v1).toNatClampNeg then none else (if (ρ 12 (v1).toNatClampNeg) < v6 then fr_buy_102 ρ v1 v2 v3 v4 v5 v6
  else (if (ρ 14 0) = 40 then fr_buy_102 ρ v1 v2 v3 v4 v5 v6
  else fr_buy_107 ρ v1 v2 v3 v4 v5 v6 0))))
set_option maxRecDepth 100000 in
set_option maxHeartbeats 4000000 in
theorem br_buy_59 {p : Program} {l : Launch} {e : Env} {s : State} {m : MethodId} {args : Array Value} {below : List Frame} {meth : Method} {c : Code} {D : va_G} {dA : Nat → ClassId} {A : Nat → Prop} {ad : Nat → Nat} {o : Rho × Int32} (X : zc p l s m args meth c cX12_buy RX12 D dA A) (hml : c.maxLocals = 8) (hr : meth.sig.returnType = (some .int)) {ρ : Rho} {v1 : Int32} {v2 : Int32} {v3 : Int32} {v4 : Int32} {v5 : Int32} {v6 : Int32} {s0 : Int32} (h : fr_buy_59 ρ v1 v2 v3 v4 v5 v6 s0 = some o) : zz p l e ({ frames := 60, cells := 0, slots := 0, locals := 600 } : Room) s m args below meth c A (rw D dA A ρ ad) 0 0 (MQ below (va_Qi (fun r (_ : Unit) => r = o.2 ∧ True) (fun _ t => rw D dA A o.1 ad t.heap) A) args s 0 0 A) 59 [(0, .ref (ad 40)), (1, .int (v1)), (2, .int (v2)), (3, .int (v3)), (4, .int (v4)), (5, .int (v5)), (6, .int (v6))] [] [.int (s0)] := by
  unfold fr_buy_59 at h
  refine z_istore (lo' := [(7, .int (s0)), (0, .ref (ad 40)), (1, .int (v1)), (2, .int (v2)), (3, .int (v3)), (4, .int (v4)), (5, .int (v5)), (6, .int (v6))]) X dX12_buy_59 (by rw [hml]; decide) rfl rfl ?_
  refine z_aload_n X dX12_buy_61 rfl rfl ?_
  refine z_iload_n X dX12_buy_62 rfl rfl ?_
  obtain ⟨o1, co1, h⟩ := zb2 h
  refine z_callSi (As := [.int (v1)]) (rest := [.ref (ad 40)]) (nA := 1) (r0 := o1) (pu := fun (_ : Unit) => True) (G1 := fun _ => rw D dA A ρ ad) X (cr_isWallet l X.2.2.2.2.2.2.2.2 X.2.2.2.2.2.2.1 co1) g_1477 g_1478 g_15 g_1479 hd_yX12_isWallet ⟨rfl, rfl, Nat.le_of_ble_eq_true rfl, Nat.le_of_ble_eq_true rfl⟩ rfl rfl (Nat.le_of_ble_eq_true rfl) dX12_buy_63 ⟨Nat.le_refl _, Nat.le_refl _⟩ (fun _ _ => ?_)
  refine z_if_ne (tgt := 73) X dX12_buy_66 (by decide) (fun q => ?_) (fun q => ?_)
  · have h := zp q h
    refine z_iconst (v := 1) X dX12_buy_69 (by decide) ?_
    refine z_goto (tgt := 107) X dX12_buy_70 (by decide) ?_
    refine zz.pick (lo' := [(0, .ref (ad 40)), (1, .int (v1)), (2, .int (v2)), (3, .int (v3)), (4, .int (v4)), (5, .int (v5)), (6, .int (v6))]) [0, 1, 2, 3, 4, 5, 6] rfl ?_
    exact br_buy_107 X hml hr h
  · have h := zn q h
    refine z_iload X dX12_buy_73 rfl ?_
    refine z_if_ne (tgt := 82) X dX12_buy_75 (by decide) (fun q => ?_) (fun q => ?_)
    · have h := zp q h
      refine z_iconst (v := 2) X dX12_buy_78 (by decide) ?_
      refine z_goto (tgt := 107) X dX12_buy_79 (by decide) ?_
      refine zz.pick (lo' := [(0, .ref (ad 40)), (1, .int (v1)), (2, .int (v2)), (3, .int (v3)), (4, .int (v4)), (5, .int (v5)), (6, .int (v6))]) [0, 1, 2, 3, 4, 5, 6] rfl ?_
      exact br_buy_107 X hml hr h
    · have h := zn q h
      refine z_aload_n X dX12_buy_82 rfl rfl ?_
      refine r_getA X 12 rfl rfl g_1318 dX12_buy_83 ?_
      refine z_iload_n X dX12_buy_86 rfl rfl ?_
      obtain ⟨q2, h⟩ := zg h
      refine r_ald X 12 rfl rfl q2 dX12_buy_87 ?_
      refine z_iload X dX12_buy_88 rfl ?_
      refine z_icmp_lt (tgt := 102) X dX12_buy_90 (by decide) (fun q => ?_) (fun q => ?_)
      · have h := zp q h
        refine zz.pick (lo' := [(0, .ref (ad 40)), (1, .int (v1)), (2, .int (v2)), (3, .int (v3)), (4, .int (v4)), (5, .int (v5)), (6, .int (v6))]) [0, 1, 2, 3, 4, 5, 6] rfl ?_
        exact br_buy_102 X hml hr h
      · have h := zn q h
        refine z_aload_n X dX12_buy_93 rfl rfl ?_
        refine r_getS X 14 rfl rfl g_1320 dX12_buy_94 ?_
        refine z_bipush (v := 40) X dX12_buy_97 (by decide) ?_
        refine z_icmp_ne (tgt := 106) X dX12_buy_99 (by decide) (fun q => ?_) (fun q => ?_)
        · have h := zp q h
          refine zz.pick (lo' := [(0, .ref (ad 40)), (1, .int (v1)), (2, .int (v2)), (3, .int (v3)), (4, .int (v4)), (5, .int (v5)), (6, .int (v6))]) [0, 1, 2, 3, 4, 5, 6] rfl ?_
          exact br_buy_102 X hml hr h
        · have h := zn q h
          refine z_iconst (v := 0) X dX12_buy_106 (by decide) ?_
          refine zz.pick (lo' := [(0, .ref (ad 40)), (1, .int (v1)), (2, .int (v2)), (3, .int (v3)), (4, .int (v4)), (5, .int (v5)), (6, .int (v6))]) [0, 1, 2, 3, 4, 5, 6] rfl ?_
          exact br_buy_107 X hml hr h
def fr_buy_58 (ρ : Rho) (v1 : Int32) (v2 : Int32) (v3 : Int32) (v4 : Int32) (v5 : Int32) (v6 : Int32) : Option (Rho × Int32) := fr_buy_59 ρ v1 v2 v3 v4 v5 v6 0
set_option maxRecDepth 100000 in
set_option maxHeartbeats 4000000 in
theorem br_buy_58 {p : Program} {l : Launch} {e : Env} {s : State} {m : MethodId} {args : Array Value} {below : List Frame} {meth : Method} {c : Code} {D : va_G} {dA : Nat → ClassId} {A : Nat → Prop} {ad : Nat → Nat} {o : Rho × Int32} (X : zc p l s m args meth c cX12_buy RX12 D dA A) (hml : c.maxLocals = 8) (hr : meth.sig.returnType = (some .int)) {ρ : Rho} {v1 : Int32} {v2 : Int32} {v3 : Int32} {v4 : Int32} {v5 : Int32} {v6 : Int32} (h : fr_buy_58 ρ v1 v2 v3 v4 v5 v6 = some o) : zz p l e ({ frames := 60, cells := 0, slots := 0, locals := 600 } : Room) s m args below meth c A (rw D dA A ρ ad) 0 0 (MQ below (va_Qi (fun r (_ : Unit) => r = o.2 ∧ True) (fun _ t => rw D dA A o.1 ad t.heap) A) args s 0 0 A) 58 [(0, .ref (ad 40)), (1, .int (v1)), (2, .int (v2)), (3, .int (v3)), (4, .int (v4)), (5, .int (v5)), (6, .int (v6))] [] [] := by
  unfold fr_buy_58 at h
  refine z_iconst (v := 0) X dX12_buy_58 (by decide) ?_
  refine zz.pick (lo' := [(0, .ref (ad 40)), (1, .int (v1)), (2, .int (v2)), (3, .int (v3)), (4, .int (v4)), (5, .int (v5)), (6, .int (v6))]) [0, 1, 2, 3, 4, 5, 6] rfl ?_
  exact br_buy_59 X hml hr h
def fr_buy (ρ : Rho) (a1 : Int32) (a2 : Int32) (a3 : Int32) (a4 : Int32) (a5 : Int32) (a6 : Int32) : Option (Rho × Int32) := (fr_isIn ρ (a2) (1) (7)).bind fun o1 => (if o1 = 0 then fr_buy_58 ρ a1 a2 a3 a4 a5 a6
  else (fr_isIn ρ (a3) (1) (5000)).bind fun o2 => (if o2 = 0 then fr_buy_58 ρ a1 a2 a3 a4 a5 a6
  else (fr_isIn ρ (a4) (1) (30)).bind fun o3 => (if o3 = 0 then fr_buy_58 ρ a1 a2 a3 a4 a5 a6
  else (fr_isIn ρ (a5) (0) (9)).bind fun o4 => (if o4 = 0 then fr_buy_58 ρ a1 a2 a3 a4 a5 a6
  else (fr_isIn ρ (a6) (0) (1000000)).bind fun o5 => (if o5 = 0 then fr_buy_58 ρ a1 a2 a3 a4 a5 a6
  else fr_buy_59 ρ a1 a2 a3 a4 a5 a6 1)))))
set_option maxRecDepth 100000 in
set_option maxHeartbeats 4000000 in
theorem br_buy {p : Program} {l : Launch} {e : Env} {s : State} {m : MethodId} {args : Array Value} {below : List Frame} {meth : Method} {c : Code} {D : va_G} {dA : Nat → ClassId} {A : Nat → Prop} {ad : Nat → Nat} {o : Rho × Int32} (X : zc p l s m args meth c cX12_buy RX12 D dA A) (hml : c.maxLocals = 8) (hr : meth.sig.returnType = (some .int)) {ρ : Rho} {a1 : Int32} {a2 : Int32} {a3 : Int32} {a4 : Int32} {a5 : Int32} {a6 : Int32} (h : fr_buy ρ a1 a2 a3 a4 a5 a6 = some o) : zz p l e ({ frames := 60, cells := 0, slots := 0, locals := 600 } : Room) s m args below meth c A (rw D dA A ρ ad) 0 0 (MQ below (va_Qi (fun r (_ : Unit) => r = o.2 ∧ True) (fun _ t => rw D dA A o.1 ad t.heap) A) args s 0 0 A) 0 [(0, .ref (ad 40)), (1, .int (a1)), (2, .int (a2)), (3, .int (a3)), (4, .int (a4)), (5, .int (a5)), (6, .int (a6))] [] [] := by
  unfold fr_buy at h
  refine z_iload_n X dX12_buy_0 rfl rfl ?_
  refine z_iconst (v := 1) X dX12_buy_1 (by decide) ?_
  refine z_bipush (v := 7) X dX12_buy_2 (by decide) ?_
  obtain ⟨o1, co1, h⟩ := zb2 h
  refine z_callSi (As := [.int (a2), .int (1), .int (7)]) (rest := []) (nA := 3) (r0 := o1) (pu := fun (_ : Unit) => True) (G1 := fun _ => rw D dA A ρ ad) X (cr_isIn l X.2.2.2.2.2.2.2.2 X.2.2.2.2.2.2.1 co1) g_1439 g_1440 g_15 g_1441 hd_yX12_isIn ⟨rfl, rfl, Nat.le_of_ble_eq_true rfl, Nat.le_of_ble_eq_true rfl⟩ rfl rfl (Nat.le_of_ble_eq_true rfl) dX12_buy_4 ⟨Nat.le_refl _, Nat.le_refl _⟩ (fun _ _ => ?_)
  refine z_if_eq (tgt := 58) X dX12_buy_7 (by decide) (fun q => ?_) (fun q => ?_)
  · have h := zp q h
    refine zz.pick (lo' := [(0, .ref (ad 40)), (1, .int (a1)), (2, .int (a2)), (3, .int (a3)), (4, .int (a4)), (5, .int (a5)), (6, .int (a6))]) [0, 1, 2, 3, 4, 5, 6] rfl ?_
    exact br_buy_58 X hml hr h
  · have h := zn q h
    refine z_iload_n X dX12_buy_10 rfl rfl ?_
    refine z_iconst (v := 1) X dX12_buy_11 (by decide) ?_
    refine z_sipush (v := 5000) X dX12_buy_12 (by decide) ?_
    obtain ⟨o2, co2, h⟩ := zb2 h
    refine z_callSi (As := [.int (a3), .int (1), .int (5000)]) (rest := []) (nA := 3) (r0 := o2) (pu := fun (_ : Unit) => True) (G1 := fun _ => rw D dA A ρ ad) X (cr_isIn l X.2.2.2.2.2.2.2.2 X.2.2.2.2.2.2.1 co2) g_1439 g_1440 g_15 g_1441 hd_yX12_isIn ⟨rfl, rfl, Nat.le_of_ble_eq_true rfl, Nat.le_of_ble_eq_true rfl⟩ rfl rfl (Nat.le_of_ble_eq_true rfl) dX12_buy_15 ⟨Nat.le_refl _, Nat.le_refl _⟩ (fun _ _ => ?_)
    refine z_if_eq (tgt := 58) X dX12_buy_18 (by decide) (fun q => ?_) (fun q => ?_)
    · have h := zp q h
      refine zz.pick (lo' := [(0, .ref (ad 40)), (1, .int (a1)), (2, .int (a2)), (3, .int (a3)), (4, .int (a4)), (5, .int (a5)), (6, .int (a6))]) [0, 1, 2, 3, 4, 5, 6] rfl ?_
      exact br_buy_58 X hml hr h
    · have h := zn q h
      refine z_iload X dX12_buy_21 rfl ?_
      refine z_iconst (v := 1) X dX12_buy_23 (by decide) ?_
      refine z_bipush (v := 30) X dX12_buy_24 (by decide) ?_
      obtain ⟨o3, co3, h⟩ := zb2 h
      refine z_callSi (As := [.int (a4), .int (1), .int (30)]) (rest := []) (nA := 3) (r0 := o3) (pu := fun (_ : Unit) => True) (G1 := fun _ => rw D dA A ρ ad) X (cr_isIn l X.2.2.2.2.2.2.2.2 X.2.2.2.2.2.2.1 co3) g_1439 g_1440 g_15 g_1441 hd_yX12_isIn ⟨rfl, rfl, Nat.le_of_ble_eq_true rfl, Nat.le_of_ble_eq_true rfl⟩ rfl rfl (Nat.le_of_ble_eq_true rfl) dX12_buy_26 ⟨Nat.le_refl _, Nat.le_refl _⟩ (fun _ _ => ?_)
      refine z_if_eq (tgt := 58) X dX12_buy_29 (by decide) (fun q => ?_) (fun q => ?_)
      · have h := zp q h
        refine zz.pick (lo' := [(0, .ref (ad 40)), (1, .int (a1)), (2, .int (a2)), (3, .int (a3)), (4, .int (a4)), (5, .int (a5)), (6, .int (a6))]) [0, 1, 2, 3, 4, 5, 6] rfl ?_
        exact br_buy_58 X hml hr h
      · have h := zn q h
        refine z_iload X dX12_buy_32 rfl ?_
        refine z_iconst (v := 0) X dX12_buy_34 (by decide) ?_
        refine z_bipush (v := 9) X dX12_buy_35 (by decide) ?_
        obtain ⟨o4, co4, h⟩ := zb2 h
        refine z_callSi (As := [.int (a5), .int (0), .int (9)]) (rest := []) (nA := 3) (r0 := o4) (pu := fun (_ : Unit) => True) (G1 := fun _ => rw D dA A ρ ad) X (cr_isIn l X.2.2.2.2.2.2.2.2 X.2.2.2.2.2.2.1 co4) g_1439 g_1440 g_15 g_1441 hd_yX12_isIn ⟨rfl, rfl, Nat.le_of_ble_eq_true rfl, Nat.le_of_ble_eq_true rfl⟩ rfl rfl (Nat.le_of_ble_eq_true rfl) dX12_buy_37 ⟨Nat.le_refl _, Nat.le_refl _⟩ (fun _ _ => ?_)
        refine z_if_eq (tgt := 58) X dX12_buy_40 (by decide) (fun q => ?_) (fun q => ?_)
        · have h := zp q h
          refine zz.pick (lo' := [(0, .ref (ad 40)), (1, .int (a1)), (2, .int (a2)), (3, .int (a3)), (4, .int (a4)), (5, .int (a5)), (6, .int (a6))]) [0, 1, 2, 3, 4, 5, 6] rfl ?_
          exact br_buy_58 X hml hr h
        · have h := zn q h
          refine z_iload X dX12_buy_43 rfl ?_
          refine z_iconst (v := 0) X dX12_buy_45 (by decide) ?_
          refine z_ldc X g_1472 dX12_buy_46 ?_
          obtain ⟨o5, co5, h⟩ := zb2 h
          refine z_callSi (As := [.int (a6), .int (0), .int (1000000)]) (rest := []) (nA := 3) (r0 := o5) (pu := fun (_ : Unit) => True) (G1 := fun _ => rw D dA A ρ ad) X (cr_isIn l X.2.2.2.2.2.2.2.2 X.2.2.2.2.2.2.1 co5) g_1439 g_1440 g_15 g_1441 hd_yX12_isIn ⟨rfl, rfl, Nat.le_of_ble_eq_true rfl, Nat.le_of_ble_eq_true rfl⟩ rfl rfl (Nat.le_of_ble_eq_true rfl) dX12_buy_48 ⟨Nat.le_refl _, Nat.le_refl _⟩ (fun _ _ => ?_)
          refine z_if_eq (tgt := 58) X dX12_buy_51 (by decide) (fun q => ?_) (fun q => ?_)
          · have h := zp q h
            refine zz.pick (lo' := [(0, .ref (ad 40)), (1, .int (a1)), (2, .int (a2)), (3, .int (a3)), (4, .int (a4)), (5, .int (a5)), (6, .int (a6))]) [0, 1, 2, 3, 4, 5, 6] rfl ?_
            exact br_buy_58 X hml hr h
          · have h := zn q h
            refine z_iconst (v := 1) X dX12_buy_54 (by decide) ?_
            refine z_goto (tgt := 59) X dX12_buy_55 (by decide) ?_
            refine zz.pick (lo' := [(0, .ref (ad 40)), (1, .int (a1)), (2, .int (a2)), (3, .int (a3)), (4, .int (a4)), (5, .int (a5)), (6, .int (a6))]) [0, 1, 2, 3, 4, 5, 6] rfl ?_
            exact br_buy_59 X hml hr h
theorem cr_buy (l : Launch) {D : va_G} {dA : Nat → ClassId} {A : Nat → Prop} {n : Nat} {ad : Nat → Nat} (hst : l.stackTraces = false) (hA : ∀ q, n ≤ q → A q) {ρ : Rho} {a1 : Int32} {a2 : Int32} {a3 : Int32} {a4 : Int32} {a5 : Int32} {a6 : Int32} {o : Rho × Int32} (h : fr_buy ρ a1 a2 a3 a4 a5 a6 = some o) : Met l yX12_buy (.code yX12_buy cX12_buy 8 (some .int) :: gT) ({ frames := 60, cells := 0, slots := 0, locals := 600 } : Room) (va_Pc [.ref (ad 40), .int a1, .int a2, .int a3, .int a4, .int a5, .int a6] (zB D dA A n (rw D dA A ρ ad))) (va_Qi (fun r (_ : Unit) => r = o.2 ∧ True) (fun _ t => rw D dA A o.1 ad t.heap) A) 0 0 A :=
  z_met (by decide) hA hst (Nat.le_of_ble_eq_true rfl) rfl rfl (fun p e s m below meth c X hml hr _ => br_buy X hml hr h)
-- free(I)I
def fr_free_13 (ρ : Rho) (v1 : Int32) (s1 : Int32) : Option (Rho × Int32) := (fr_can ρ (s1)).bind fun o1 => (if o1.2 = 0 then some (o1.1, 0)
  else if v1 < 0 ∨ 4 ≤ (v1).toNatClampNeg then none else some (o1.1, (o1.1 12 (v1).toNatClampNeg)))
set_option maxRecDepth 100000 in
set_option maxHeartbeats 4000000 in
theorem br_free_13 {p : Program} {l : Launch} {e : Env} {s : State} {m : MethodId} {args : Array Value} {below : List Frame} {meth : Method} {c : Code} {D : va_G} {dA : Nat → ClassId} {A : Nat → Prop} {ad : Nat → Nat} {o : Rho × Int32} (X : zc p l s m args meth c cX12_free RX12 D dA A) (hml : c.maxLocals = 2) (hr : meth.sig.returnType = (some .int)) {ρ : Rho} {v1 : Int32} {s1 : Int32} (h : fr_free_13 ρ v1 s1 = some o) : zz p l e ({ frames := 60, cells := 0, slots := 0, locals := 600 } : Room) s m args below meth c A (rw D dA A ρ ad) 0 0 (MQ below (va_Qi (fun r (_ : Unit) => r = o.2 ∧ True) (fun _ t => rw D dA A o.1 ad t.heap) A) args s 0 0 A) 13 [(0, .ref (ad 40)), (1, .int (v1))] [] [.int (s1), .ref (ad 40)] := by
  unfold fr_free_13 at h
  obtain ⟨o1, co1, h⟩ := zb2 h
  refine z_callVi (As := [.int (s1)]) (rest := []) (nA := 1) (r0 := o1.2) (pu := fun (_ : Unit) => True) (G1 := fun _ => rw D dA A o1.1 ad) X (cr_can l X.2.2.2.2.2.2.2.2 X.2.2.2.2.2.2.1 co1) g_1445 g_1447 gs_25 g_15 g_1448 hd_yX12_can ⟨rfl, rfl, Nat.le_of_ble_eq_true rfl, Nat.le_of_ble_eq_true rfl⟩ rfl (fun _ hG => rw_recv X hG) rfl (Nat.le_of_ble_eq_true rfl) dX12_free_13 ⟨Nat.le_refl _, Nat.le_refl _⟩ (fun _ _ => ?_)
  refine z_if_eq (tgt := 28) X dX12_free_16 (by decide) (fun q => ?_) (fun q => ?_)
  · have h := zp q h
    refine z_iconst (v := 0) X dX12_free_28 (by decide) ?_
    obtain rfl := Option.some.inj h
    exact z_iret X hr rfl (fun t hG hF _ => ⟨⟨_, (), rfl, ⟨rfl, trivial⟩, hG⟩, hF⟩) dX12_free_29
  · have h := zn q h
    refine z_aload_n X dX12_free_19 rfl rfl ?_
    refine r_getA X 12 rfl rfl g_1318 dX12_free_20 ?_
    refine z_iload_n X dX12_free_23 rfl rfl ?_
    obtain ⟨q2, h⟩ := zg h
    refine r_ald X 12 rfl rfl q2 dX12_free_24 ?_
    refine z_goto (tgt := 29) X dX12_free_25 (by decide) ?_
    obtain rfl := Option.some.inj h
    exact z_iret X hr rfl (fun t hG hF _ => ⟨⟨_, (), rfl, ⟨rfl, trivial⟩, hG⟩, hF⟩) dX12_free_29
def fr_free (ρ : Rho) (a1 : Int32) : Option (Rho × Int32) := (fr_isWallet ρ (a1)).bind fun o1 => (if o1 = 0 then fr_free_13 ρ a1 1
  else fr_free_13 ρ a1 0)
set_option maxRecDepth 100000 in
set_option maxHeartbeats 4000000 in
theorem br_free {p : Program} {l : Launch} {e : Env} {s : State} {m : MethodId} {args : Array Value} {below : List Frame} {meth : Method} {c : Code} {D : va_G} {dA : Nat → ClassId} {A : Nat → Prop} {ad : Nat → Nat} {o : Rho × Int32} (X : zc p l s m args meth c cX12_free RX12 D dA A) (hml : c.maxLocals = 2) (hr : meth.sig.returnType = (some .int)) {ρ : Rho} {a1 : Int32} (h : fr_free ρ a1 = some o) : zz p l e ({ frames := 60, cells := 0, slots := 0, locals := 600 } : Room) s m args below meth c A (rw D dA A ρ ad) 0 0 (MQ below (va_Qi (fun r (_ : Unit) => r = o.2 ∧ True) (fun _ t => rw D dA A o.1 ad t.heap) A) args s 0 0 A) 0 [(0, .ref (ad 40)), (1, .int (a1))] [] [] := by
  unfold fr_free at h
  refine z_aload_n X dX12_free_0 rfl rfl ?_
  refine z_iload_n X dX12_free_1 rfl rfl ?_
  obtain ⟨o1, co1, h⟩ := zb2 h
  refine z_callSi (As := [.int (a1)]) (rest := [.ref (ad 40)]) (nA := 1) (r0 := o1) (pu := fun (_ : Unit) => True) (G1 := fun _ => rw D dA A ρ ad) X (cr_isWallet l X.2.2.2.2.2.2.2.2 X.2.2.2.2.2.2.1 co1) g_1477 g_1478 g_15 g_1479 hd_yX12_isWallet ⟨rfl, rfl, Nat.le_of_ble_eq_true rfl, Nat.le_of_ble_eq_true rfl⟩ rfl rfl (Nat.le_of_ble_eq_true rfl) dX12_free_2 ⟨Nat.le_refl _, Nat.le_refl _⟩ (fun _ _ => ?_)
  refine z_if_eq (tgt := 12) X dX12_free_5 (by decide) (fun q => ?_) (fun q => ?_)
  · have h := zp q h
    refine z_iconst (v := 1) X dX12_free_12 (by decide) ?_
    refine zz.pick (lo' := [(0, .ref (ad 40)), (1, .int (a1))]) [0, 1] rfl ?_
    exact br_free_13 X hml hr h
  · have h := zn q h
    refine z_iconst (v := 0) X dX12_free_8 (by decide) ?_
    refine z_goto (tgt := 13) X dX12_free_9 (by decide) ?_
    refine zz.pick (lo' := [(0, .ref (ad 40)), (1, .int (a1))]) [0, 1] rfl ?_
    exact br_free_13 X hml hr h
theorem cr_free (l : Launch) {D : va_G} {dA : Nat → ClassId} {A : Nat → Prop} {n : Nat} {ad : Nat → Nat} (hst : l.stackTraces = false) (hA : ∀ q, n ≤ q → A q) {ρ : Rho} {a1 : Int32} {o : Rho × Int32} (h : fr_free ρ a1 = some o) : Met l yX12_free (.code yX12_free cX12_free 2 (some .int) :: gT) ({ frames := 60, cells := 0, slots := 0, locals := 600 } : Room) (va_Pc [.ref (ad 40), .int a1] (zB D dA A n (rw D dA A ρ ad))) (va_Qi (fun r (_ : Unit) => r = o.2 ∧ True) (fun _ t => rw D dA A o.1 ad t.heap) A) 0 0 A :=
  z_met (by decide) hA hst (Nat.le_of_ble_eq_true rfl) rfl rfl (fun p e s m below meth c X hml hr _ => br_free X hml hr h)
-- moneyIn(I)I
def fr_moneyIn (ρ : Rho) (a1 : Int32) : Option (Int32) := if a1 < 0 ∨ 80 ≤ (a1).toNatClampNeg then none else (if (ρ 33 (a1).toNatClampNeg) = (-1) then if a1 < 0 ∨ 80 ≤ (a1).toNatClampNeg then none else if a1 < 0 ∨ 80 ≤ (a1).toNatClampNeg then none else some (((ρ 34 (a1).toNatClampNeg) * (ρ 35 (a1).toNatClampNeg)))
  else some (0))
set_option maxRecDepth 100000 in
set_option maxHeartbeats 4000000 in
theorem br_moneyIn {p : Program} {l : Launch} {e : Env} {s : State} {m : MethodId} {args : Array Value} {below : List Frame} {meth : Method} {c : Code} {D : va_G} {dA : Nat → ClassId} {A : Nat → Prop} {ad : Nat → Nat} {o : Int32} (X : zc p l s m args meth c cX12_moneyIn RX12 D dA A) (hml : c.maxLocals = 2) (hr : meth.sig.returnType = (some .int)) {ρ : Rho} {a1 : Int32} (h : fr_moneyIn ρ a1 = some o) : zz p l e ({ frames := 20, cells := 0, slots := 0, locals := 200 } : Room) s m args below meth c A (rw D dA A ρ ad) 0 0 (MQ below (va_Qi (fun r (_ : Unit) => r = o ∧ True) (fun _ t => rw D dA A ρ ad t.heap) A) args s 0 0 A) 0 [(0, .ref (ad 40)), (1, .int (a1))] [] [] := by
  unfold fr_moneyIn at h
  refine z_aload_n X dX12_moneyIn_0 rfl rfl ?_
  refine r_getA X 33 rfl rfl g_1339 dX12_moneyIn_1 ?_
  refine z_iload_n X dX12_moneyIn_4 rfl rfl ?_
  obtain ⟨q1, h⟩ := zg h
  refine r_ald X 33 rfl rfl q1 dX12_moneyIn_5 ?_
  refine z_iconst (v := (-1)) X dX12_moneyIn_6 (by decide) ?_
  refine z_icmp_ne (tgt := 26) X dX12_moneyIn_7 (by decide) (fun q => ?_) (fun q => ?_)
  · have h := zp q h
    refine z_aload_n X dX12_moneyIn_10 rfl rfl ?_
    refine r_getA X 34 rfl rfl g_1340 dX12_moneyIn_11 ?_
    refine z_iload_n X dX12_moneyIn_14 rfl rfl ?_
    obtain ⟨q2, h⟩ := zg h
    refine r_ald X 34 rfl rfl q2 dX12_moneyIn_15 ?_
    refine z_aload_n X dX12_moneyIn_16 rfl rfl ?_
    refine r_getA X 35 rfl rfl g_1341 dX12_moneyIn_17 ?_
    refine z_iload_n X dX12_moneyIn_20 rfl rfl ?_
    obtain ⟨q3, h⟩ := zg h
    refine r_ald X 35 rfl rfl q3 dX12_moneyIn_21 ?_
    refine z_imul X dX12_moneyIn_22 ?_
    refine z_goto (tgt := 27) X dX12_moneyIn_23 (by decide) ?_
    obtain rfl := Option.some.inj h
    exact z_iret X hr rfl (fun t hG hF _ => ⟨⟨_, (), rfl, ⟨rfl, trivial⟩, hG⟩, hF⟩) dX12_moneyIn_27
  · have h := zn q h
    refine z_iconst (v := 0) X dX12_moneyIn_26 (by decide) ?_
    obtain rfl := Option.some.inj h
    exact z_iret X hr rfl (fun t hG hF _ => ⟨⟨_, (), rfl, ⟨rfl, trivial⟩, hG⟩, hF⟩) dX12_moneyIn_27
theorem cr_moneyIn (l : Launch) {D : va_G} {dA : Nat → ClassId} {A : Nat → Prop} {n : Nat} {ad : Nat → Nat} (hst : l.stackTraces = false) (hA : ∀ q, n ≤ q → A q) {ρ : Rho} {a1 : Int32} {o : Int32} (h : fr_moneyIn ρ a1 = some o) : Met l yX12_moneyIn (.code yX12_moneyIn cX12_moneyIn 2 (some .int) :: gT) ({ frames := 20, cells := 0, slots := 0, locals := 200 } : Room) (va_Pc [.ref (ad 40), .int a1] (zB D dA A n (rw D dA A ρ ad))) (va_Qi (fun r (_ : Unit) => r = o ∧ True) (fun _ t => rw D dA A ρ ad t.heap) A) 0 0 A :=
  z_met (by decide) hA hst (Nat.le_of_ble_eq_true rfl) rfl rfl (fun p e s m below meth c X hml hr _ => br_moneyIn X hml hr h)
-- aside(I)I
def fr_aside_32 (k4 : Rho → Int32 → Int32 → Int32 → Option (Rho × Int32)) (ρ : Rho) (v1 : Int32) (v3 : Int32) (s0 : Int32) (s1 : Int32) : Option (Rho × Int32) := (some ((s0 + s1))).bind fun x1 => (some (v3 + 1)).bind fun x2 => k4 ρ v1 x1 x2
set_option maxRecDepth 100000 in
set_option maxHeartbeats 4000000 in
theorem br_aside_32 {p : Program} {l : Launch} {e : Env} {s : State} {m : MethodId} {args : Array Value} {below : List Frame} {meth : Method} {c : Code} {D : va_G} {dA : Nat → ClassId} {A : Nat → Prop} {ad : Nat → Nat} {o : Rho × Int32} (X : zc p l s m args meth c cX12_aside RX12 D dA A) (hml : c.maxLocals = 4) (hr : meth.sig.returnType = (some .int)) {k4 : Rho → Int32 → Int32 → Int32 → Option (Rho × Int32)} (hk4 : ∀ {ρ : Rho} {v1 : Int32} {v2 : Int32} {v3 : Int32}, k4 ρ v1 v2 v3 = some o → zz p l e ({ frames := 60, cells := 0, slots := 0, locals := 600 } : Room) s m args below meth c A (rw D dA A ρ ad) 0 0 (MQ below (va_Qi (fun r (_ : Unit) => r = o.2 ∧ True) (fun _ t => rw D dA A o.1 ad t.heap) A) args s 0 0 A) 4 [(0, .ref (ad 40)), (1, .int (v1)), (2, .int (v2)), (3, .int (v3))] [] []) {ρ : Rho} {v1 : Int32} {v3 : Int32} {s0 : Int32} {s1 : Int32} (h : fr_aside_32 k4 ρ v1 v3 s0 s1 = some o) : zz p l e ({ frames := 60, cells := 0, slots := 0, locals := 600 } : Room) s m args below meth c A (rw D dA A ρ ad) 0 0 (MQ below (va_Qi (fun r (_ : Unit) => r = o.2 ∧ True) (fun _ t => rw D dA A o.1 ad t.heap) A) args s 0 0 A) 32 [(0, .ref (ad 40)), (1, .int (v1)), (3, .int (v3))] [] [.int (s1), .int (s0)] := by
  unfold fr_aside_32 at h
  refine z_iadd X dX12_aside_32 ?_
  obtain ⟨x1, ex1, h⟩ := zb h
  rw [ex1]
  refine z_istore_n (lo' := [(2, .int (x1)), (0, .ref (ad 40)), (1, .int (v1)), (3, .int (v3))]) X dX12_aside_33 rfl (by rw [hml]; decide) rfl rfl ?_
  obtain ⟨x2, ex2, h⟩ := zb h
  refine z_iinc (v := x2) (lo' := [(3, .int (x2)), (2, .int (x1)), (0, .ref (ad 40)), (1, .int (v1))]) X dX12_aside_34 rfl ex2 (by rw [hml]; decide) rfl rfl ?_
  refine z_goto (tgt := 4) X dX12_aside_37 (by decide) ?_
  refine zz.pick (lo' := [(0, .ref (ad 40)), (1, .int (v1)), (2, .int (x1)), (3, .int (x2))]) [0, 1, 2, 3] rfl ?_
  exact hk4  h
def fr_aside_4 : Nat → Rho → Int32 → Int32 → Int32 → Option (Rho × Int32)
  | 0, _, _, _, _ => none
  | n + 1, ρ, v1, v2, v3 => (if (ρ 22 0) ≤ v3 then (fr_isWallet ρ (v1)).bind fun o1 => (if o1 = 0 then (fr_can ρ (1)).bind fun o2 => (if o2.2 = 0 then some (o2.1, 0)
  else some (o2.1, v2))
  else (fr_can ρ (0)).bind fun o3 => (if o3.2 = 0 then some (o3.1, 0)
  else some (o3.1, v2)))
  else if v3 < 0 ∨ 80 ≤ (v3).toNatClampNeg then none else (if (ρ 25 (v3).toNatClampNeg) = v1 then (fr_moneyIn ρ (v3)).bind fun o5 => fr_aside_32 (fr_aside_4 n) ρ v1 v3 v2 o5
  else fr_aside_32 (fr_aside_4 n) ρ v1 v3 v2 0))
set_option maxRecDepth 100000 in
set_option maxHeartbeats 4000000 in
theorem br_aside_4 {p : Program} {l : Launch} {e : Env} {s : State} {m : MethodId} {args : Array Value} {below : List Frame} {meth : Method} {c : Code} {D : va_G} {dA : Nat → ClassId} {A : Nat → Prop} {ad : Nat → Nat} {o : Rho × Int32} (X : zc p l s m args meth c cX12_aside RX12 D dA A) (hml : c.maxLocals = 4) (hr : meth.sig.returnType = (some .int)) : ∀ (n : Nat) {ρ : Rho} {v1 : Int32} {v2 : Int32} {v3 : Int32}, fr_aside_4  n ρ v1 v2 v3 = some o → zz p l e ({ frames := 60, cells := 0, slots := 0, locals := 600 } : Room) s m args below meth c A (rw D dA A ρ ad) 0 0 (MQ below (va_Qi (fun r (_ : Unit) => r = o.2 ∧ True) (fun _ t => rw D dA A o.1 ad t.heap) A) args s 0 0 A) 4 [(0, .ref (ad 40)), (1, .int (v1)), (2, .int (v2)), (3, .int (v3))] [] [] := by
  intro n
  induction n with
  | zero => intro ρ v1 v2 v3 h; exact (nomatch (show none = some o from h))
  | succ n ih =>
    intro ρ v1 v2 v3 h
    rw [fr_aside_4] at h
    refine z_iload_n X dX12_aside_4 rfl rfl ?_
    refine z_aload_n X dX12_aside_5 rfl rfl ?_
    refine r_getS X 22 rfl rfl g_1328 dX12_aside_6 ?_
    refine z_icmp_ge (tgt := 40) X dX12_aside_9 (by decide) (fun q => ?_) (fun q => ?_)
    · have h := zp q h
      refine z_aload_n X dX12_aside_40 rfl rfl ?_
      refine z_iload_n X dX12_aside_41 rfl rfl ?_
      obtain ⟨o1, co1, h⟩ := zb2 h
      refine z_callSi (As := [.int (v1)]) (rest := [.ref (ad 40)]) (nA := 1) (r0 := o1) (pu := fun (_ : Unit) => True) (G1 := fun _ => rw D dA A ρ ad) X (cr_isWallet l X.2.2.2.2.2.2.2.2 X.2.2.2.2.2.2.1 co1) g_1477 g_1478 g_15 g_1479 hd_yX12_isWallet ⟨rfl, rfl, Nat.le_of_ble_eq_true rfl, Nat.le_of_ble_eq_true rfl⟩ rfl rfl (Nat.le_of_ble_eq_true rfl) dX12_aside_42 ⟨Nat.le_refl _, Nat.le_refl _⟩ (fun _ _ => ?_)
      refine z_if_eq (tgt := 52) X dX12_aside_45 (by decide) (fun q => ?_) (fun q => ?_)
      · have h := zp q h
        refine z_iconst (v := 1) X dX12_aside_52 (by decide) ?_
        obtain ⟨o2, co2, h⟩ := zb2 h
        refine z_callVi (As := [.int (1)]) (rest := []) (nA := 1) (r0 := o2.2) (pu := fun (_ : Unit) => True) (G1 := fun _ => rw D dA A o2.1 ad) X (cr_can l X.2.2.2.2.2.2.2.2 X.2.2.2.2.2.2.1 co2) g_1445 g_1447 gs_25 g_15 g_1448 hd_yX12_can ⟨rfl, rfl, Nat.le_of_ble_eq_true rfl, Nat.le_of_ble_eq_true rfl⟩ rfl (fun _ hG => rw_recv X hG) rfl (Nat.le_of_ble_eq_true rfl) dX12_aside_53 ⟨Nat.le_refl _, Nat.le_refl _⟩ (fun _ _ => ?_)
        refine z_if_eq (tgt := 63) X dX12_aside_56 (by decide) (fun q => ?_) (fun q => ?_)
        · have h := zp q h
          refine z_iconst (v := 0) X dX12_aside_63 (by decide) ?_
          obtain rfl := Option.some.inj h
          exact z_iret X hr rfl (fun t hG hF _ => ⟨⟨_, (), rfl, ⟨rfl, trivial⟩, hG⟩, hF⟩) dX12_aside_64
        · have h := zn q h
          refine z_iload_n X dX12_aside_59 rfl rfl ?_
          refine z_goto (tgt := 64) X dX12_aside_60 (by decide) ?_
          obtain rfl := Option.some.inj h
          exact z_iret X hr rfl (fun t hG hF _ => ⟨⟨_, (), rfl, ⟨rfl, trivial⟩, hG⟩, hF⟩) dX12_aside_64
      · have h := zn q h
        refine z_iconst (v := 0) X dX12_aside_48 (by decide) ?_
        refine z_goto (tgt := 53) X dX12_aside_49 (by decide) ?_
        obtain ⟨o3, co3, h⟩ := zb2 h
        refine z_callVi (As := [.int (0)]) (rest := []) (nA := 1) (r0 := o3.2) (pu := fun (_ : Unit) => True) (G1 := fun _ => rw D dA A o3.1 ad) X (cr_can l X.2.2.2.2.2.2.2.2 X.2.2.2.2.2.2.1 co3) g_1445 g_1447 gs_25 g_15 g_1448 hd_yX12_can ⟨rfl, rfl, Nat.le_of_ble_eq_true rfl, Nat.le_of_ble_eq_true rfl⟩ rfl (fun _ hG => rw_recv X hG) rfl (Nat.le_of_ble_eq_true rfl) dX12_aside_53 ⟨Nat.le_refl _, Nat.le_refl _⟩ (fun _ _ => ?_)
        refine z_if_eq (tgt := 63) X dX12_aside_56 (by decide) (fun q => ?_) (fun q => ?_)
        · have h := zp q h
          refine z_iconst (v := 0) X dX12_aside_63 (by decide) ?_
          obtain rfl := Option.some.inj h
          exact z_iret X hr rfl (fun t hG hF _ => ⟨⟨_, (), rfl, ⟨rfl, trivial⟩, hG⟩, hF⟩) dX12_aside_64
        · have h := zn q h
          refine z_iload_n X dX12_aside_59 rfl rfl ?_
          refine z_goto (tgt := 64) X dX12_aside_60 (by decide) ?_
          obtain rfl := Option.some.inj h
          exact z_iret X hr rfl (fun t hG hF _ => ⟨⟨_, (), rfl, ⟨rfl, trivial⟩, hG⟩, hF⟩) dX12_aside_64
    · have h := zn q h
      refine z_iload_n X dX12_aside_12 rfl rfl ?_
      refine z_aload_n X dX12_aside_13 rfl rfl ?_
      refine r_getA X 25 rfl rfl g_1331 dX12_aside_14 ?_
      refine z_iload_n X dX12_aside_17 rfl rfl ?_
      obtain ⟨q4, h⟩ := zg h
      refine r_ald X 25 rfl rfl q4 dX12_aside_18 ?_
      refine z_iload_n X dX12_aside_19 rfl rfl ?_
      refine z_icmp_ne (tgt := 31) X dX12_aside_20 (by decide) (fun q => ?_) (fun q => ?_)
      · have h := zp q h
        refine z_aload_n X dX12_aside_23 rfl rfl ?_
        refine z_iload_n X dX12_aside_24 rfl rfl ?_
        obtain ⟨o5, co5, h⟩ := zb2 h
        refine z_callVi (As := [.int (v3)]) (rest := [.int (v2)]) (nA := 1) (r0 := o5) (pu := fun (_ : Unit) => True) (G1 := fun _ => rw D dA A ρ ad) X (cr_moneyIn l X.2.2.2.2.2.2.2.2 X.2.2.2.2.2.2.1 co5) g_1504 g_1506 gs_28 g_15 g_1507 hd_yX12_moneyIn ⟨rfl, rfl, Nat.le_of_ble_eq_true rfl, Nat.le_of_ble_eq_true rfl⟩ rfl (fun _ hG => rw_recv X hG) rfl (Nat.le_of_ble_eq_true rfl) dX12_aside_25 ⟨Nat.le_refl _, Nat.le_refl _⟩ (fun _ _ => ?_)
        refine z_goto (tgt := 32) X dX12_aside_28 (by decide) ?_
        refine zz.pick (lo' := [(0, .ref (ad 40)), (1, .int (v1)), (3, .int (v3))]) [0, 1, 3] rfl ?_
        exact br_aside_32 X hml hr ih h
      · have h := zn q h
        refine z_iconst (v := 0) X dX12_aside_31 (by decide) ?_
        refine zz.pick (lo' := [(0, .ref (ad 40)), (1, .int (v1)), (3, .int (v3))]) [0, 1, 3] rfl ?_
        exact br_aside_32 X hml hr ih h
def fr_aside (ρ : Rho) (a1 : Int32) : Option (Rho × Int32) := fr_aside_4 FU ρ a1 0 0
set_option maxRecDepth 100000 in
set_option maxHeartbeats 4000000 in
theorem br_aside {p : Program} {l : Launch} {e : Env} {s : State} {m : MethodId} {args : Array Value} {below : List Frame} {meth : Method} {c : Code} {D : va_G} {dA : Nat → ClassId} {A : Nat → Prop} {ad : Nat → Nat} {o : Rho × Int32} (X : zc p l s m args meth c cX12_aside RX12 D dA A) (hml : c.maxLocals = 4) (hr : meth.sig.returnType = (some .int)) {ρ : Rho} {a1 : Int32} (h : fr_aside ρ a1 = some o) : zz p l e ({ frames := 60, cells := 0, slots := 0, locals := 600 } : Room) s m args below meth c A (rw D dA A ρ ad) 0 0 (MQ below (va_Qi (fun r (_ : Unit) => r = o.2 ∧ True) (fun _ t => rw D dA A o.1 ad t.heap) A) args s 0 0 A) 0 [(0, .ref (ad 40)), (1, .int (a1))] [] [] := by
  unfold fr_aside at h
  refine z_iconst (v := 0) X dX12_aside_0 (by decide) ?_
  refine z_istore_n (lo' := [(2, .int (0)), (0, .ref (ad 40)), (1, .int (a1))]) X dX12_aside_1 rfl (by rw [hml]; decide) rfl rfl ?_
  refine z_iconst (v := 0) X dX12_aside_2 (by decide) ?_
  refine z_istore_n (lo' := [(3, .int (0)), (2, .int (0)), (0, .ref (ad 40)), (1, .int (a1))]) X dX12_aside_3 rfl (by rw [hml]; decide) rfl rfl ?_
  refine zz.pick (lo' := [(0, .ref (ad 40)), (1, .int (a1)), (2, .int (0)), (3, .int (0))]) [0, 1, 2, 3] rfl ?_
  exact br_aside_4 X hml hr FU h
theorem cr_aside (l : Launch) {D : va_G} {dA : Nat → ClassId} {A : Nat → Prop} {n : Nat} {ad : Nat → Nat} (hst : l.stackTraces = false) (hA : ∀ q, n ≤ q → A q) {ρ : Rho} {a1 : Int32} {o : Rho × Int32} (h : fr_aside ρ a1 = some o) : Met l yX12_aside (.code yX12_aside cX12_aside 4 (some .int) :: gT) ({ frames := 60, cells := 0, slots := 0, locals := 600 } : Room) (va_Pc [.ref (ad 40), .int a1] (zB D dA A n (rw D dA A ρ ad))) (va_Qi (fun r (_ : Unit) => r = o.2 ∧ True) (fun _ t => rw D dA A o.1 ad t.heap) A) 0 0 A :=
  z_met (by decide) hA hst (Nat.le_of_ble_eq_true rfl) rfl rfl (fun p e s m below meth c X hml hr _ => br_aside X hml hr h)
-- spent(I)I
def fr_spent_13 (ρ : Rho) (v1 : Int32) (s1 : Int32) : Option (Rho × Int32) := (fr_can ρ (s1)).bind fun o1 => (if o1.2 = 0 then some (o1.1, 0)
  else if v1 < 0 ∨ 4 ≤ (v1).toNatClampNeg then none else some (o1.1, (o1.1 13 (v1).toNatClampNeg)))
set_option maxRecDepth 100000 in
set_option maxHeartbeats 4000000 in
theorem br_spent_13 {p : Program} {l : Launch} {e : Env} {s : State} {m : MethodId} {args : Array Value} {below : List Frame} {meth : Method} {c : Code} {D : va_G} {dA : Nat → ClassId} {A : Nat → Prop} {ad : Nat → Nat} {o : Rho × Int32} (X : zc p l s m args meth c cX12_spent RX12 D dA A) (hml : c.maxLocals = 2) (hr : meth.sig.returnType = (some .int)) {ρ : Rho} {v1 : Int32} {s1 : Int32} (h : fr_spent_13 ρ v1 s1 = some o) : zz p l e ({ frames := 60, cells := 0, slots := 0, locals := 600 } : Room) s m args below meth c A (rw D dA A ρ ad) 0 0 (MQ below (va_Qi (fun r (_ : Unit) => r = o.2 ∧ True) (fun _ t => rw D dA A o.1 ad t.heap) A) args s 0 0 A) 13 [(0, .ref (ad 40)), (1, .int (v1))] [] [.int (s1), .ref (ad 40)] := by
  unfold fr_spent_13 at h
  obtain ⟨o1, co1, h⟩ := zb2 h
  refine z_callVi (As := [.int (s1)]) (rest := []) (nA := 1) (r0 := o1.2) (pu := fun (_ : Unit) => True) (G1 := fun _ => rw D dA A o1.1 ad) X (cr_can l X.2.2.2.2.2.2.2.2 X.2.2.2.2.2.2.1 co1) g_1445 g_1447 gs_25 g_15 g_1448 hd_yX12_can ⟨rfl, rfl, Nat.le_of_ble_eq_true rfl, Nat.le_of_ble_eq_true rfl⟩ rfl (fun _ hG => rw_recv X hG) rfl (Nat.le_of_ble_eq_true rfl) dX12_spent_13 ⟨Nat.le_refl _, Nat.le_refl _⟩ (fun _ _ => ?_)
  refine z_if_eq (tgt := 28) X dX12_spent_16 (by decide) (fun q => ?_) (fun q => ?_)
  · have h := zp q h
    refine z_iconst (v := 0) X dX12_spent_28 (by decide) ?_
    obtain rfl := Option.some.inj h
    exact z_iret X hr rfl (fun t hG hF _ => ⟨⟨_, (), rfl, ⟨rfl, trivial⟩, hG⟩, hF⟩) dX12_spent_29
  · have h := zn q h
    refine z_aload_n X dX12_spent_19 rfl rfl ?_
    refine r_getA X 13 rfl rfl g_1319 dX12_spent_20 ?_
    refine z_iload_n X dX12_spent_23 rfl rfl ?_
    obtain ⟨q2, h⟩ := zg h
    refine r_ald X 13 rfl rfl q2 dX12_spent_24 ?_
    refine z_goto (tgt := 29) X dX12_spent_25 (by decide) ?_
    obtain rfl := Option.some.inj h
    exact z_iret X hr rfl (fun t hG hF _ => ⟨⟨_, (), rfl, ⟨rfl, trivial⟩, hG⟩, hF⟩) dX12_spent_29
def fr_spent (ρ : Rho) (a1 : Int32) : Option (Rho × Int32) := (fr_isWallet ρ (a1)).bind fun o1 => (if o1 = 0 then fr_spent_13 ρ a1 1
  else fr_spent_13 ρ a1 0)
set_option maxRecDepth 100000 in
set_option maxHeartbeats 4000000 in
theorem br_spent {p : Program} {l : Launch} {e : Env} {s : State} {m : MethodId} {args : Array Value} {below : List Frame} {meth : Method} {c : Code} {D : va_G} {dA : Nat → ClassId} {A : Nat → Prop} {ad : Nat → Nat} {o : Rho × Int32} (X : zc p l s m args meth c cX12_spent RX12 D dA A) (hml : c.maxLocals = 2) (hr : meth.sig.returnType = (some .int)) {ρ : Rho} {a1 : Int32} (h : fr_spent ρ a1 = some o) : zz p l e ({ frames := 60, cells := 0, slots := 0, locals := 600 } : Room) s m args below meth c A (rw D dA A ρ ad) 0 0 (MQ below (va_Qi (fun r (_ : Unit) => r = o.2 ∧ True) (fun _ t => rw D dA A o.1 ad t.heap) A) args s 0 0 A) 0 [(0, .ref (ad 40)), (1, .int (a1))] [] [] := by
  unfold fr_spent at h
  refine z_aload_n X dX12_spent_0 rfl rfl ?_
  refine z_iload_n X dX12_spent_1 rfl rfl ?_
  obtain ⟨o1, co1, h⟩ := zb2 h
  refine z_callSi (As := [.int (a1)]) (rest := [.ref (ad 40)]) (nA := 1) (r0 := o1) (pu := fun (_ : Unit) => True) (G1 := fun _ => rw D dA A ρ ad) X (cr_isWallet l X.2.2.2.2.2.2.2.2 X.2.2.2.2.2.2.1 co1) g_1477 g_1478 g_15 g_1479 hd_yX12_isWallet ⟨rfl, rfl, Nat.le_of_ble_eq_true rfl, Nat.le_of_ble_eq_true rfl⟩ rfl rfl (Nat.le_of_ble_eq_true rfl) dX12_spent_2 ⟨Nat.le_refl _, Nat.le_refl _⟩ (fun _ _ => ?_)
  refine z_if_eq (tgt := 12) X dX12_spent_5 (by decide) (fun q => ?_) (fun q => ?_)
  · have h := zp q h
    refine z_iconst (v := 1) X dX12_spent_12 (by decide) ?_
    refine zz.pick (lo' := [(0, .ref (ad 40)), (1, .int (a1))]) [0, 1] rfl ?_
    exact br_spent_13 X hml hr h
  · have h := zn q h
    refine z_iconst (v := 0) X dX12_spent_8 (by decide) ?_
    refine z_goto (tgt := 13) X dX12_spent_9 (by decide) ?_
    refine zz.pick (lo' := [(0, .ref (ad 40)), (1, .int (a1))]) [0, 1] rfl ?_
    exact br_spent_13 X hml hr h
theorem cr_spent (l : Launch) {D : va_G} {dA : Nat → ClassId} {A : Nat → Prop} {n : Nat} {ad : Nat → Nat} (hst : l.stackTraces = false) (hA : ∀ q, n ≤ q → A q) {ρ : Rho} {a1 : Int32} {o : Rho × Int32} (h : fr_spent ρ a1 = some o) : Met l yX12_spent (.code yX12_spent cX12_spent 2 (some .int) :: gT) ({ frames := 60, cells := 0, slots := 0, locals := 600 } : Room) (va_Pc [.ref (ad 40), .int a1] (zB D dA A n (rw D dA A ρ ad))) (va_Qi (fun r (_ : Unit) => r = o.2 ∧ True) (fun _ t => rw D dA A o.1 ad t.heap) A) 0 0 A :=
  z_met (by decide) hA hst (Nat.le_of_ble_eq_true rfl) rfl rfl (fun p e s m below meth c X hml hr _ => br_spent X hml hr h)
-- isOver(I)Z
def fr_isOver (ρ : Rho) (a1 : Int32) : Option (Int32) := (fr_today ρ).bind fun o1 => if a1 < 0 ∨ 40 ≤ (a1).toNatClampNeg then none else (if o1 < (ρ 18 (a1).toNatClampNeg) then some (0)
  else some (1))
set_option maxRecDepth 100000 in
set_option maxHeartbeats 4000000 in
theorem br_isOver {p : Program} {l : Launch} {e : Env} {s : State} {m : MethodId} {args : Array Value} {below : List Frame} {meth : Method} {c : Code} {D : va_G} {dA : Nat → ClassId} {A : Nat → Prop} {ad : Nat → Nat} {o : Int32} (X : zc p l s m args meth c cX12_isOver RX12 D dA A) (hml : c.maxLocals = 2) (hr : meth.sig.returnType = (some .boolean)) {ρ : Rho} {a1 : Int32} (h : fr_isOver ρ a1 = some o) : zz p l e ({ frames := 40, cells := 0, slots := 0, locals := 400 } : Room) s m args below meth c A (rw D dA A ρ ad) 0 0 (MQ below (va_Qi (fun r (_ : Unit) => r = o ∧ True) (fun _ t => rw D dA A ρ ad t.heap) A) args s 0 0 A) 0 [(0, .ref (ad 40)), (1, .int (a1))] [] [] := by
  unfold fr_isOver at h
  refine z_aload_n X dX12_isOver_0 rfl rfl ?_
  obtain ⟨o1, co1, h⟩ := zb2 h
  refine z_callVi (As := []) (rest := []) (nA := 0) (r0 := o1) (pu := fun (_ : Unit) => True) (G1 := fun _ => rw D dA A ρ ad) X (cr_today l X.2.2.2.2.2.2.2.2 X.2.2.2.2.2.2.1 co1) g_1492 g_1494 gs_27 g_15 g_1495 hd_yX12_today ⟨rfl, rfl, Nat.le_of_ble_eq_true rfl, Nat.le_of_ble_eq_true rfl⟩ rfl (fun _ hG => rw_recv X hG) rfl (Nat.le_of_ble_eq_true rfl) dX12_isOver_1 ⟨Nat.le_refl _, Nat.le_refl _⟩ (fun _ _ => ?_)
  refine z_aload_n X dX12_isOver_4 rfl rfl ?_
  refine r_getA X 18 rfl rfl g_1324 dX12_isOver_5 ?_
  refine z_iload_n X dX12_isOver_8 rfl rfl ?_
  obtain ⟨q2, h⟩ := zg h
  refine r_ald X 18 rfl rfl q2 dX12_isOver_9 ?_
  refine z_icmp_lt (tgt := 17) X dX12_isOver_10 (by decide) (fun q => ?_) (fun q => ?_)
  · have h := zp q h
    refine z_iconst (v := 0) X dX12_isOver_17 (by decide) ?_
    obtain rfl := Option.some.inj h
    exact z_iret X hr rfl (fun t hG hF _ => ⟨⟨_, (), rfl, ⟨rfl, trivial⟩, hG⟩, hF⟩) dX12_isOver_18
  · have h := zn q h
    refine z_iconst (v := 1) X dX12_isOver_13 (by decide) ?_
    refine z_goto (tgt := 18) X dX12_isOver_14 (by decide) ?_
    obtain rfl := Option.some.inj h
    exact z_iret X hr rfl (fun t hG hF _ => ⟨⟨_, (), rfl, ⟨rfl, trivial⟩, hG⟩, hF⟩) dX12_isOver_18
theorem cr_isOver (l : Launch) {D : va_G} {dA : Nat → ClassId} {A : Nat → Prop} {n : Nat} {ad : Nat → Nat} (hst : l.stackTraces = false) (hA : ∀ q, n ≤ q → A q) {ρ : Rho} {a1 : Int32} {o : Int32} (h : fr_isOver ρ a1 = some o) : Met l yX12_isOver (.code yX12_isOver cX12_isOver 2 (some .boolean) :: gT) ({ frames := 40, cells := 0, slots := 0, locals := 400 } : Room) (va_Pc [.ref (ad 40), .int a1] (zB D dA A n (rw D dA A ρ ad))) (va_Qi (fun r (_ : Unit) => r = o ∧ True) (fun _ t => rw D dA A ρ ad t.heap) A) 0 0 A :=
  z_met (by decide) hA hst (Nat.le_of_ble_eq_true rfl) rfl rfl (fun p e s m below meth c X hml hr _ => br_isOver X hml hr h)
-- left(I)I
def fr_left_20 (ρ : Rho) (v1 : Int32) (s1 : Int32) : Option (Rho × Int32) := (fr_can ρ (s1)).bind fun o1 => (if o1.2 = 0 then some (o1.1, 0)
  else (fr_isOver o1.1 (v1)).bind fun o2 => (if o2 = 0 then if v1 < 0 ∨ 40 ≤ (v1).toNatClampNeg then none else some (o1.1, (o1.1 17 (v1).toNatClampNeg))
  else some (o1.1, 0)))
set_option maxRecDepth 100000 in
set_option maxHeartbeats 4000000 in
theorem br_left_20 {p : Program} {l : Launch} {e : Env} {s : State} {m : MethodId} {args : Array Value} {below : List Frame} {meth : Method} {c : Code} {D : va_G} {dA : Nat → ClassId} {A : Nat → Prop} {ad : Nat → Nat} {o : Rho × Int32} (X : zc p l s m args meth c cX12_left RX12 D dA A) (hml : c.maxLocals = 2) (hr : meth.sig.returnType = (some .int)) {ρ : Rho} {v1 : Int32} {s1 : Int32} (h : fr_left_20 ρ v1 s1 = some o) : zz p l e ({ frames := 60, cells := 0, slots := 0, locals := 600 } : Room) s m args below meth c A (rw D dA A ρ ad) 0 0 (MQ below (va_Qi (fun r (_ : Unit) => r = o.2 ∧ True) (fun _ t => rw D dA A o.1 ad t.heap) A) args s 0 0 A) 20 [(0, .ref (ad 40)), (1, .int (v1))] [] [.int (s1), .ref (ad 40)] := by
  unfold fr_left_20 at h
  obtain ⟨o1, co1, h⟩ := zb2 h
  refine z_callVi (As := [.int (s1)]) (rest := []) (nA := 1) (r0 := o1.2) (pu := fun (_ : Unit) => True) (G1 := fun _ => rw D dA A o1.1 ad) X (cr_can l X.2.2.2.2.2.2.2.2 X.2.2.2.2.2.2.1 co1) g_1445 g_1447 gs_25 g_15 g_1448 hd_yX12_can ⟨rfl, rfl, Nat.le_of_ble_eq_true rfl, Nat.le_of_ble_eq_true rfl⟩ rfl (fun _ hG => rw_recv X hG) rfl (Nat.le_of_ble_eq_true rfl) dX12_left_20 ⟨Nat.le_refl _, Nat.le_refl _⟩ (fun _ _ => ?_)
  refine z_if_eq (tgt := 43) X dX12_left_23 (by decide) (fun q => ?_) (fun q => ?_)
  · have h := zp q h
    refine z_iconst (v := 0) X dX12_left_43 (by decide) ?_
    obtain rfl := Option.some.inj h
    exact z_iret X hr rfl (fun t hG hF _ => ⟨⟨_, (), rfl, ⟨rfl, trivial⟩, hG⟩, hF⟩) dX12_left_44
  · have h := zn q h
    refine z_aload_n X dX12_left_26 rfl rfl ?_
    refine z_iload_n X dX12_left_27 rfl rfl ?_
    obtain ⟨o2, co2, h⟩ := zb2 h
    refine z_callVi (As := [.int (v1)]) (rest := []) (nA := 1) (r0 := o2) (pu := fun (_ : Unit) => True) (G1 := fun _ => rw D dA A o1.1 ad) X (cr_isOver l X.2.2.2.2.2.2.2.2 X.2.2.2.2.2.2.1 co2) g_1516 g_1518 gs_29 g_15 g_1519 hd_yX12_isOver ⟨rfl, rfl, Nat.le_of_ble_eq_true rfl, Nat.le_of_ble_eq_true rfl⟩ rfl (fun _ hG => rw_recv X hG) rfl (Nat.le_of_ble_eq_true rfl) dX12_left_28 ⟨Nat.le_refl _, Nat.le_refl _⟩ (fun _ _ => ?_)
    refine z_if_ne (tgt := 43) X dX12_left_31 (by decide) (fun q => ?_) (fun q => ?_)
    · have h := zp q h
      refine z_aload_n X dX12_left_34 rfl rfl ?_
      refine r_getA X 17 rfl rfl g_1323 dX12_left_35 ?_
      refine z_iload_n X dX12_left_38 rfl rfl ?_
      obtain ⟨q3, h⟩ := zg h
      refine r_ald X 17 rfl rfl q3 dX12_left_39 ?_
      refine z_goto (tgt := 44) X dX12_left_40 (by decide) ?_
      obtain rfl := Option.some.inj h
      exact z_iret X hr rfl (fun t hG hF _ => ⟨⟨_, (), rfl, ⟨rfl, trivial⟩, hG⟩, hF⟩) dX12_left_44
    · have h := zn q h
      refine z_iconst (v := 0) X dX12_left_43 (by decide) ?_
      obtain rfl := Option.some.inj h
      exact z_iret X hr rfl (fun t hG hF _ => ⟨⟨_, (), rfl, ⟨rfl, trivial⟩, hG⟩, hF⟩) dX12_left_44
def fr_left (ρ : Rho) (a1 : Int32) : Option (Rho × Int32) := (fr_isIn ρ (a1) (0) (((ρ 14 0) - 1))).bind fun o1 => (if o1 = 0 then fr_left_20 ρ a1 1
  else fr_left_20 ρ a1 0)
set_option maxRecDepth 100000 in
set_option maxHeartbeats 4000000 in
theorem br_left {p : Program} {l : Launch} {e : Env} {s : State} {m : MethodId} {args : Array Value} {below : List Frame} {meth : Method} {c : Code} {D : va_G} {dA : Nat → ClassId} {A : Nat → Prop} {ad : Nat → Nat} {o : Rho × Int32} (X : zc p l s m args meth c cX12_left RX12 D dA A) (hml : c.maxLocals = 2) (hr : meth.sig.returnType = (some .int)) {ρ : Rho} {a1 : Int32} (h : fr_left ρ a1 = some o) : zz p l e ({ frames := 60, cells := 0, slots := 0, locals := 600 } : Room) s m args below meth c A (rw D dA A ρ ad) 0 0 (MQ below (va_Qi (fun r (_ : Unit) => r = o.2 ∧ True) (fun _ t => rw D dA A o.1 ad t.heap) A) args s 0 0 A) 0 [(0, .ref (ad 40)), (1, .int (a1))] [] [] := by
  unfold fr_left at h
  refine z_aload_n X dX12_left_0 rfl rfl ?_
  refine z_iload_n X dX12_left_1 rfl rfl ?_
  refine z_iconst (v := 0) X dX12_left_2 (by decide) ?_
  refine z_aload_n X dX12_left_3 rfl rfl ?_
  refine r_getS X 14 rfl rfl g_1320 dX12_left_4 ?_
  refine z_iconst (v := 1) X dX12_left_7 (by decide) ?_
  refine z_isub X dX12_left_8 ?_
  obtain ⟨o1, co1, h⟩ := zb2 h
  refine z_callSi (As := [.int (a1), .int (0), .int (((ρ 14 0) - 1))]) (rest := [.ref (ad 40)]) (nA := 3) (r0 := o1) (pu := fun (_ : Unit) => True) (G1 := fun _ => rw D dA A ρ ad) X (cr_isIn l X.2.2.2.2.2.2.2.2 X.2.2.2.2.2.2.1 co1) g_1439 g_1440 g_15 g_1441 hd_yX12_isIn ⟨rfl, rfl, Nat.le_of_ble_eq_true rfl, Nat.le_of_ble_eq_true rfl⟩ rfl rfl (Nat.le_of_ble_eq_true rfl) dX12_left_9 ⟨Nat.le_refl _, Nat.le_refl _⟩ (fun _ _ => ?_)
  refine z_if_eq (tgt := 19) X dX12_left_12 (by decide) (fun q => ?_) (fun q => ?_)
  · have h := zp q h
    refine z_iconst (v := 1) X dX12_left_19 (by decide) ?_
    refine zz.pick (lo' := [(0, .ref (ad 40)), (1, .int (a1))]) [0, 1] rfl ?_
    exact br_left_20 X hml hr h
  · have h := zn q h
    refine z_iconst (v := 0) X dX12_left_15 (by decide) ?_
    refine z_goto (tgt := 20) X dX12_left_16 (by decide) ?_
    refine zz.pick (lo' := [(0, .ref (ad 40)), (1, .int (a1))]) [0, 1] rfl ?_
    exact br_left_20 X hml hr h
theorem cr_left (l : Launch) {D : va_G} {dA : Nat → ClassId} {A : Nat → Prop} {n : Nat} {ad : Nat → Nat} (hst : l.stackTraces = false) (hA : ∀ q, n ≤ q → A q) {ρ : Rho} {a1 : Int32} {o : Rho × Int32} (h : fr_left ρ a1 = some o) : Met l yX12_left (.code yX12_left cX12_left 2 (some .int) :: gT) ({ frames := 60, cells := 0, slots := 0, locals := 600 } : Room) (va_Pc [.ref (ad 40), .int a1] (zB D dA A n (rw D dA A ρ ad))) (va_Qi (fun r (_ : Unit) => r = o.2 ∧ True) (fun _ t => rw D dA A o.1 ad t.heap) A) 0 0 A :=
  z_met (by decide) hA hst (Nat.le_of_ble_eq_true rfl) rfl rfl (fun p e s m below meth c X hml hr _ => br_left X hml hr h)
-- rateNow(I)I
def fr_rateNow_31 (ρ : Rho) (v1 : Int32) (s1 : Int32) : Option (Int32) := if v1 < 0 ∨ 10 ≤ (v1).toNatClampNeg then none else if (ρ 6 (v1).toNatClampNeg) < 0 ∨ 8 ≤ ((ρ 6 (v1).toNatClampNeg)).toNatClampNeg then none else if (s1 + (ρ 2 ((ρ 6 (v1).toNatClampNeg)).toNatClampNeg)) < 0 ∨ 6 ≤ ((s1 + (ρ 2 ((ρ 6 (v1).toNatClampNeg)).toNatClampNeg))).toNatClampNeg then none else some ((ρ 5 ((s1 + (ρ 2 ((ρ 6 (v1).toNatClampNeg)).toNatClampNeg))).toNatClampNeg))
set_option maxRecDepth 100000 in
set_option maxHeartbeats 4000000 in
theorem br_rateNow_31 {p : Program} {l : Launch} {e : Env} {s : State} {m : MethodId} {args : Array Value} {below : List Frame} {meth : Method} {c : Code} {D : va_G} {dA : Nat → ClassId} {A : Nat → Prop} {ad : Nat → Nat} {o : Int32} (X : zc p l s m args meth c cX12_rateNow RX12 D dA A) (hml : c.maxLocals = 3) (hr : meth.sig.returnType = (some .int)) {ρ : Rho} {v1 : Int32} {s1 : Int32} (h : fr_rateNow_31 ρ v1 s1 = some o) : zz p l e ({ frames := 40, cells := 0, slots := 0, locals := 400 } : Room) s m args below meth c A (rw D dA A ρ ad) 0 0 (MQ below (va_Qi (fun r (_ : Unit) => r = o ∧ True) (fun _ t => rw D dA A ρ ad t.heap) A) args s 0 0 A) 31 [(0, .ref (ad 40)), (1, .int (v1))] [] [.int (s1), .ref (ad 5)] := by
  unfold fr_rateNow_31 at h
  refine z_aload_n X dX12_rateNow_31 rfl rfl ?_
  refine r_getA X 2 rfl rfl g_1308 dX12_rateNow_32 ?_
  refine z_aload_n X dX12_rateNow_35 rfl rfl ?_
  refine r_getA X 6 rfl rfl g_1312 dX12_rateNow_36 ?_
  refine z_iload_n X dX12_rateNow_39 rfl rfl ?_
  obtain ⟨q1, h⟩ := zg h
  refine r_ald X 6 rfl rfl q1 dX12_rateNow_40 ?_
  obtain ⟨q2, h⟩ := zg h
  refine r_ald X 2 rfl rfl q2 dX12_rateNow_41 ?_
  refine z_iadd X dX12_rateNow_42 ?_
  obtain ⟨q3, h⟩ := zg h
  refine r_ald X 5 rfl rfl q3 dX12_rateNow_43 ?_
  obtain rfl := Option.some.inj h
  exact z_iret X hr rfl (fun t hG hF _ => ⟨⟨_, (), rfl, ⟨rfl, trivial⟩, hG⟩, hF⟩) dX12_rateNow_44
def fr_rateNow (ρ : Rho) (a1 : Int32) : Option (Int32) := (fr_isIn ρ ((((ρ 0 0) / 100) - ((ρ 0 0) / 100) / 24 * 24)) (8) (19)).bind fun o1 => (if o1 = 0 then fr_rateNow_31 ρ a1 0
  else fr_rateNow_31 ρ a1 3)
set_option maxRecDepth 100000 in
set_option maxHeartbeats 4000000 in
theorem br_rateNow {p : Program} {l : Launch} {e : Env} {s : State} {m : MethodId} {args : Array Value} {below : List Frame} {meth : Method} {c : Code} {D : va_G} {dA : Nat → ClassId} {A : Nat → Prop} {ad : Nat → Nat} {o : Int32} (X : zc p l s m args meth c cX12_rateNow RX12 D dA A) (hml : c.maxLocals = 3) (hr : meth.sig.returnType = (some .int)) {ρ : Rho} {a1 : Int32} (h : fr_rateNow ρ a1 = some o) : zz p l e ({ frames := 40, cells := 0, slots := 0, locals := 400 } : Room) s m args below meth c A (rw D dA A ρ ad) 0 0 (MQ below (va_Qi (fun r (_ : Unit) => r = o ∧ True) (fun _ t => rw D dA A ρ ad t.heap) A) args s 0 0 A) 0 [(0, .ref (ad 40)), (1, .int (a1))] [] [] := by
  unfold fr_rateNow at h
  refine z_aload_n X dX12_rateNow_0 rfl rfl ?_
  refine r_getS X 0 rfl rfl g_1306 dX12_rateNow_1 ?_
  refine z_bipush (v := 100) X dX12_rateNow_4 (by decide) ?_
  refine z_idiv X dX12_rateNow_6 (by decide) ?_
  refine z_bipush (v := 24) X dX12_rateNow_7 (by decide) ?_
  refine z_irem X dX12_rateNow_9 (by decide) ?_
  refine z_bipush (v := 8) X dX12_rateNow_10 (by decide) ?_
  refine z_bipush (v := 19) X dX12_rateNow_12 (by decide) ?_
  obtain ⟨o1, co1, h⟩ := zb2 h
  refine z_callSi (As := [.int ((((ρ 0 0) / 100) - ((ρ 0 0) / 100) / 24 * 24)), .int (8), .int (19)]) (rest := []) (nA := 3) (r0 := o1) (pu := fun (_ : Unit) => True) (G1 := fun _ => rw D dA A ρ ad) X (cr_isIn l X.2.2.2.2.2.2.2.2 X.2.2.2.2.2.2.1 co1) g_1439 g_1440 g_15 g_1441 hd_yX12_isIn ⟨rfl, rfl, Nat.le_of_ble_eq_true rfl, Nat.le_of_ble_eq_true rfl⟩ rfl rfl (Nat.le_of_ble_eq_true rfl) dX12_rateNow_14 ⟨Nat.le_refl _, Nat.le_refl _⟩ (fun _ _ => ?_)
  refine z_istore_n (lo' := [(2, .int (o1)), (0, .ref (ad 40)), (1, .int (a1))]) X dX12_rateNow_17 rfl (by rw [hml]; decide) rfl rfl ?_
  refine z_aload_n X dX12_rateNow_18 rfl rfl ?_
  refine r_getA X 5 rfl rfl g_1311 dX12_rateNow_19 ?_
  refine z_iload_n X dX12_rateNow_22 rfl rfl ?_
  refine z_if_eq (tgt := 30) X dX12_rateNow_23 (by decide) (fun q => ?_) (fun q => ?_)
  · have h := zp q h
    refine z_iconst (v := 0) X dX12_rateNow_30 (by decide) ?_
    refine zz.pick (lo' := [(0, .ref (ad 40)), (1, .int (a1))]) [0, 1] rfl ?_
    exact br_rateNow_31 X hml hr h
  · have h := zn q h
    refine z_iconst (v := 3) X dX12_rateNow_26 (by decide) ?_
    refine z_goto (tgt := 31) X dX12_rateNow_27 (by decide) ?_
    refine zz.pick (lo' := [(0, .ref (ad 40)), (1, .int (a1))]) [0, 1] rfl ?_
    exact br_rateNow_31 X hml hr h
theorem cr_rateNow (l : Launch) {D : va_G} {dA : Nat → ClassId} {A : Nat → Prop} {n : Nat} {ad : Nat → Nat} (hst : l.stackTraces = false) (hA : ∀ q, n ≤ q → A q) {ρ : Rho} {a1 : Int32} {o : Int32} (h : fr_rateNow ρ a1 = some o) : Met l yX12_rateNow (.code yX12_rateNow cX12_rateNow 3 (some .int) :: gT) ({ frames := 40, cells := 0, slots := 0, locals := 400 } : Room) (va_Pc [.ref (ad 40), .int a1] (zB D dA A n (rw D dA A ρ ad))) (va_Qi (fun r (_ : Unit) => r = o ∧ True) (fun _ t => rw D dA A ρ ad t.heap) A) 0 0 A :=
  z_met (by decide) hA hst (Nat.le_of_ble_eq_true rfl) rfl rfl (fun p e s m below meth c X hml hr _ => br_rateNow X hml hr h)
-- goesBack(II)V
def fr_goesBack (ρ : Rho) (a1 : Int32) (a2 : Int32) : Option (Rho) := if a1 < 0 ∨ 80 ≤ (a1).toNatClampNeg then none else (some ((ρ 33 (a1).toNatClampNeg))).bind fun x2 => if a1 < 0 ∨ 80 ≤ (a1).toNatClampNeg then none else if a1 < 0 ∨ 80 ≤ (a1).toNatClampNeg then none else (some (cs ρ 34 (a1).toNatClampNeg (((ρ 34 (a1).toNatClampNeg) - a2)))).bind fun ρ4 => (if x2 = (-1) then if a1 < 0 ∨ 80 ≤ (a1).toNatClampNeg then none else if (ρ4 25 (a1).toNatClampNeg) < 0 ∨ 4 ≤ ((ρ4 25 (a1).toNatClampNeg)).toNatClampNeg then none else if a1 < 0 ∨ 80 ≤ (a1).toNatClampNeg then none else if (ρ4 25 (a1).toNatClampNeg) < 0 ∨ 4 ≤ ((ρ4 25 (a1).toNatClampNeg)).toNatClampNeg then none else (some (cs ρ4 12 ((ρ4 25 (a1).toNatClampNeg)).toNatClampNeg (((ρ4 12 ((ρ4 25 (a1).toNatClampNeg)).toNatClampNeg) + (a2 * (ρ4 35 (a1).toNatClampNeg)))))).bind fun ρ9 => some ρ9
  else (if x2 < 0 then some ρ4
  else if x2 < 0 ∨ 40 ≤ (x2).toNatClampNeg then none else if x2 < 0 ∨ 40 ≤ (x2).toNatClampNeg then none else (some (cs ρ4 17 (x2).toNatClampNeg (((ρ4 17 (x2).toNatClampNeg) + a2)))).bind fun ρ12 => some ρ12))
set_option maxRecDepth 100000 in
set_option maxHeartbeats 4000000 in
theorem br_goesBack {p : Program} {l : Launch} {e : Env} {s : State} {m : MethodId} {args : Array Value} {below : List Frame} {meth : Method} {c : Code} {D : va_G} {dA : Nat → ClassId} {A : Nat → Prop} {ad : Nat → Nat} {o : Rho} (X : zc p l s m args meth c cX12_goesBack RX12 D dA A) (hml : c.maxLocals = 4) (hr : meth.sig.returnType = none) {ρ : Rho} {a1 : Int32} {a2 : Int32} (h : fr_goesBack ρ a1 a2 = some o) : zz p l e ({ frames := 20, cells := 0, slots := 0, locals := 200 } : Room) s m args below meth c A (rw D dA A ρ ad) 0 0 (MQ below (va_Qv (fun (_ : Unit) => True) (fun _ t => rw D dA A o ad t.heap) A) args s 0 0 A) 0 [(0, .ref (ad 40)), (1, .int (a1)), (2, .int (a2))] [] [] := by
  unfold fr_goesBack at h
  refine z_aload_n X dX12_goesBack_0 rfl rfl ?_
  refine r_getA X 33 rfl rfl g_1339 dX12_goesBack_1 ?_
  refine z_iload_n X dX12_goesBack_4 rfl rfl ?_
  obtain ⟨q1, h⟩ := zg h
  refine r_ald X 33 rfl rfl q1 dX12_goesBack_5 ?_
  obtain ⟨x2, ex2, h⟩ := zb h
  rw [ex2]
  refine z_istore_n (lo' := [(3, .int (x2)), (0, .ref (ad 40)), (1, .int (a1)), (2, .int (a2))]) X dX12_goesBack_6 rfl (by rw [hml]; decide) rfl rfl ?_
  refine z_aload_n X dX12_goesBack_7 rfl rfl ?_
  refine r_getA X 34 rfl rfl g_1340 dX12_goesBack_8 ?_
  refine z_iload_n X dX12_goesBack_11 rfl rfl ?_
  refine z_dup2 X dX12_goesBack_12 rfl rfl ?_
  obtain ⟨q3, h⟩ := zg h
  refine r_ald X 34 rfl rfl q3 dX12_goesBack_13 ?_
  refine z_iload_n X dX12_goesBack_14 rfl rfl ?_
  refine z_isub X dX12_goesBack_15 ?_
  obtain ⟨q5, h⟩ := zg h
  obtain ⟨ρ4, eρ4, h⟩ := zb h
  refine r_ast X 34 rfl rfl q5 eρ4 dX12_goesBack_16 ?_
  refine z_iload_n X dX12_goesBack_17 rfl rfl ?_
  refine z_iconst (v := (-1)) X dX12_goesBack_18 (by decide) ?_
  refine z_icmp_ne (tgt := 47) X dX12_goesBack_19 (by decide) (fun q => ?_) (fun q => ?_)
  · have h := zp q h
    refine z_aload_n X dX12_goesBack_22 rfl rfl ?_
    refine r_getA X 12 rfl rfl g_1318 dX12_goesBack_23 ?_
    refine z_aload_n X dX12_goesBack_26 rfl rfl ?_
    refine r_getA X 25 rfl rfl g_1331 dX12_goesBack_27 ?_
    refine z_iload_n X dX12_goesBack_30 rfl rfl ?_
    obtain ⟨q6, h⟩ := zg h
    refine r_ald X 25 rfl rfl q6 dX12_goesBack_31 ?_
    refine z_dup2 X dX12_goesBack_32 rfl rfl ?_
    obtain ⟨q7, h⟩ := zg h
    refine r_ald X 12 rfl rfl q7 dX12_goesBack_33 ?_
    refine z_iload_n X dX12_goesBack_34 rfl rfl ?_
    refine z_aload_n X dX12_goesBack_35 rfl rfl ?_
    refine r_getA X 35 rfl rfl g_1341 dX12_goesBack_36 ?_
    refine z_iload_n X dX12_goesBack_39 rfl rfl ?_
    obtain ⟨q8, h⟩ := zg h
    refine r_ald X 35 rfl rfl q8 dX12_goesBack_40 ?_
    refine z_imul X dX12_goesBack_41 ?_
    refine z_iadd X dX12_goesBack_42 ?_
    obtain ⟨q10, h⟩ := zg h
    obtain ⟨ρ9, eρ9, h⟩ := zb h
    refine r_ast X 12 rfl rfl q10 eρ9 dX12_goesBack_43 ?_
    refine z_goto (tgt := 61) X dX12_goesBack_44 (by decide) ?_
    obtain rfl := Option.some.inj h
    exact z_vret X hr (fun t hG hF _ => ⟨⟨(), rfl, trivial, hG⟩, hF⟩) dX12_goesBack_61
  · have h := zn q h
    refine z_iload_n X dX12_goesBack_47 rfl rfl ?_
    refine z_if_lt (tgt := 61) X dX12_goesBack_48 (by decide) (fun q => ?_) (fun q => ?_)
    · have h := zp q h
      obtain rfl := Option.some.inj h
      exact z_vret X hr (fun t hG hF _ => ⟨⟨(), rfl, trivial, hG⟩, hF⟩) dX12_goesBack_61
    · have h := zn q h
      refine z_aload_n X dX12_goesBack_51 rfl rfl ?_
      refine r_getA X 17 rfl rfl g_1323 dX12_goesBack_52 ?_
      refine z_iload_n X dX12_goesBack_55 rfl rfl ?_
      refine z_dup2 X dX12_goesBack_56 rfl rfl ?_
      obtain ⟨q11, h⟩ := zg h
      refine r_ald X 17 rfl rfl q11 dX12_goesBack_57 ?_
      refine z_iload_n X dX12_goesBack_58 rfl rfl ?_
      refine z_iadd X dX12_goesBack_59 ?_
      obtain ⟨q13, h⟩ := zg h
      obtain ⟨ρ12, eρ12, h⟩ := zb h
      refine r_ast X 17 rfl rfl q13 eρ12 dX12_goesBack_60 ?_
      obtain rfl := Option.some.inj h
      exact z_vret X hr (fun t hG hF _ => ⟨⟨(), rfl, trivial, hG⟩, hF⟩) dX12_goesBack_61
theorem cr_goesBack (l : Launch) {D : va_G} {dA : Nat → ClassId} {A : Nat → Prop} {n : Nat} {ad : Nat → Nat} (hst : l.stackTraces = false) (hA : ∀ q, n ≤ q → A q) {ρ : Rho} {a1 : Int32} {a2 : Int32} {o : Rho} (h : fr_goesBack ρ a1 a2 = some o) : Met l yX12_goesBack (.code yX12_goesBack cX12_goesBack 4 none :: gT) ({ frames := 20, cells := 0, slots := 0, locals := 200 } : Room) (va_Pc [.ref (ad 40), .int a1, .int a2] (zB D dA A n (rw D dA A ρ ad))) (va_Qv (fun (_ : Unit) => True) (fun _ t => rw D dA A o ad t.heap) A) 0 0 A :=
  z_met (by decide) hA hst (Nat.le_of_ble_eq_true rfl) rfl rfl (fun p e s m below meth c X hml hr _ => br_goesBack X hml hr h)
-- allGoesBack(I)V
def fr_allGoesBack (ρ : Rho) (a1 : Int32) : Option (Rho) := if a1 < 0 ∨ 80 ≤ (a1).toNatClampNeg then none else (fr_goesBack ρ (a1) ((ρ 34 (a1).toNatClampNeg))).bind fun o2 => if a1 < 0 ∨ 80 ≤ (a1).toNatClampNeg then none else (some (cs o2 33 (a1).toNatClampNeg ((-2)))).bind fun ρ3 => some ρ3
set_option maxRecDepth 100000 in
set_option maxHeartbeats 4000000 in
theorem br_allGoesBack {p : Program} {l : Launch} {e : Env} {s : State} {m : MethodId} {args : Array Value} {below : List Frame} {meth : Method} {c : Code} {D : va_G} {dA : Nat → ClassId} {A : Nat → Prop} {ad : Nat → Nat} {o : Rho} (X : zc p l s m args meth c cX12_allGoesBack RX12 D dA A) (hml : c.maxLocals = 2) (hr : meth.sig.returnType = none) {ρ : Rho} {a1 : Int32} (h : fr_allGoesBack ρ a1 = some o) : zz p l e ({ frames := 40, cells := 0, slots := 0, locals := 400 } : Room) s m args below meth c A (rw D dA A ρ ad) 0 0 (MQ below (va_Qv (fun (_ : Unit) => True) (fun _ t => rw D dA A o ad t.heap) A) args s 0 0 A) 0 [(0, .ref (ad 40)), (1, .int (a1))] [] [] := by
  unfold fr_allGoesBack at h
  refine z_aload_n X dX12_allGoesBack_0 rfl rfl ?_
  refine z_iload_n X dX12_allGoesBack_1 rfl rfl ?_
  refine z_aload_n X dX12_allGoesBack_2 rfl rfl ?_
  refine r_getA X 34 rfl rfl g_1340 dX12_allGoesBack_3 ?_
  refine z_iload_n X dX12_allGoesBack_6 rfl rfl ?_
  obtain ⟨q1, h⟩ := zg h
  refine r_ald X 34 rfl rfl q1 dX12_allGoesBack_7 ?_
  obtain ⟨o2, co2, h⟩ := zb2 h
  refine z_callVv (As := [.int (a1), .int ((ρ 34 (a1).toNatClampNeg))]) (rest := []) (nA := 2) (pu := fun (_ : Unit) => True) (G1 := fun _ => rw D dA A o2 ad) X (cr_goesBack l X.2.2.2.2.2.2.2.2 X.2.2.2.2.2.2.1 co2) g_1571 g_1573 gs_41 g_15 g_1574 hd_yX12_goesBack ⟨rfl, rfl, Nat.le_of_ble_eq_true rfl, Nat.le_of_ble_eq_true rfl⟩ rfl (fun _ hG => rw_recv X hG) rfl (Nat.le_of_ble_eq_true rfl) dX12_allGoesBack_8 ⟨Nat.le_refl _, Nat.le_refl _⟩ (fun _ _ => ?_)
  refine z_aload_n X dX12_allGoesBack_11 rfl rfl ?_
  refine r_getA X 33 rfl rfl g_1339 dX12_allGoesBack_12 ?_
  refine z_iload_n X dX12_allGoesBack_15 rfl rfl ?_
  refine z_bipush (v := (-2)) X dX12_allGoesBack_16 (by decide) ?_
  obtain ⟨q4, h⟩ := zg h
  obtain ⟨ρ3, eρ3, h⟩ := zb h
  refine r_ast X 33 rfl rfl q4 eρ3 dX12_allGoesBack_18 ?_
  obtain rfl := Option.some.inj h
  exact z_vret X hr (fun t hG hF _ => ⟨⟨(), rfl, trivial, hG⟩, hF⟩) dX12_allGoesBack_19
theorem cr_allGoesBack (l : Launch) {D : va_G} {dA : Nat → ClassId} {A : Nat → Prop} {n : Nat} {ad : Nat → Nat} (hst : l.stackTraces = false) (hA : ∀ q, n ≤ q → A q) {ρ : Rho} {a1 : Int32} {o : Rho} (h : fr_allGoesBack ρ a1 = some o) : Met l yX12_allGoesBack (.code yX12_allGoesBack cX12_allGoesBack 2 none :: gT) ({ frames := 40, cells := 0, slots := 0, locals := 400 } : Room) (va_Pc [.ref (ad 40), .int a1] (zB D dA A n (rw D dA A ρ ad))) (va_Qv (fun (_ : Unit) => True) (fun _ t => rw D dA A o ad t.heap) A) 0 0 A :=
  z_met (by decide) hA hst (Nat.le_of_ble_eq_true rfl) rfl rfl (fun p e s m below meth c X hml hr _ => br_allGoesBack X hml hr h)
-- isAhead(II)Z
def fr_isAhead (ρ : Rho) (a1 : Int32) (a2 : Int32) : Option (Int32) := if a1 < 0 ∨ 40 ≤ (a1).toNatClampNeg then none else if a2 < 0 ∨ 40 ≤ (a2).toNatClampNeg then none else (if (ρ 19 (a1).toNatClampNeg) = (ρ 19 (a2).toNatClampNeg) then if a1 < 0 ∨ 40 ≤ (a1).toNatClampNeg then none else if a2 < 0 ∨ 40 ≤ (a2).toNatClampNeg then none else (if (ρ 18 (a2).toNatClampNeg) ≤ (ρ 18 (a1).toNatClampNeg) then some (0)
  else some (1))
  else if a1 < 0 ∨ 40 ≤ (a1).toNatClampNeg then none else if a2 < 0 ∨ 40 ≤ (a2).toNatClampNeg then none else (if (ρ 19 (a2).toNatClampNeg) ≤ (ρ 19 (a1).toNatClampNeg) then some (0)
  else some (1)))
set_option maxRecDepth 100000 in
set_option maxHeartbeats 4000000 in
theorem br_isAhead {p : Program} {l : Launch} {e : Env} {s : State} {m : MethodId} {args : Array Value} {below : List Frame} {meth : Method} {c : Code} {D : va_G} {dA : Nat → ClassId} {A : Nat → Prop} {ad : Nat → Nat} {o : Int32} (X : zc p l s m args meth c cX12_isAhead RX12 D dA A) (hml : c.maxLocals = 3) (hr : meth.sig.returnType = (some .boolean)) {ρ : Rho} {a1 : Int32} {a2 : Int32} (h : fr_isAhead ρ a1 a2 = some o) : zz p l e ({ frames := 20, cells := 0, slots := 0, locals := 200 } : Room) s m args below meth c A (rw D dA A ρ ad) 0 0 (MQ below (va_Qi (fun r (_ : Unit) => r = o ∧ True) (fun _ t => rw D dA A ρ ad t.heap) A) args s 0 0 A) 0 [(0, .ref (ad 40)), (1, .int (a1)), (2, .int (a2))] [] [] := by
  unfold fr_isAhead at h
  refine z_aload_n X dX12_isAhead_0 rfl rfl ?_
  refine r_getA X 19 rfl rfl g_1325 dX12_isAhead_1 ?_
  refine z_iload_n X dX12_isAhead_4 rfl rfl ?_
  obtain ⟨q1, h⟩ := zg h
  refine r_ald X 19 rfl rfl q1 dX12_isAhead_5 ?_
  refine z_aload_n X dX12_isAhead_6 rfl rfl ?_
  refine r_getA X 19 rfl rfl g_1325 dX12_isAhead_7 ?_
  refine z_iload_n X dX12_isAhead_10 rfl rfl ?_
  obtain ⟨q2, h⟩ := zg h
  refine r_ald X 19 rfl rfl q2 dX12_isAhead_11 ?_
  refine z_icmp_eq (tgt := 36) X dX12_isAhead_12 (by decide) (fun q => ?_) (fun q => ?_)
  · have h := zp q h
    refine z_aload_n X dX12_isAhead_36 rfl rfl ?_
    refine r_getA X 18 rfl rfl g_1324 dX12_isAhead_37 ?_
    refine z_iload_n X dX12_isAhead_40 rfl rfl ?_
    obtain ⟨q3, h⟩ := zg h
    refine r_ald X 18 rfl rfl q3 dX12_isAhead_41 ?_
    refine z_aload_n X dX12_isAhead_42 rfl rfl ?_
    refine r_getA X 18 rfl rfl g_1324 dX12_isAhead_43 ?_
    refine z_iload_n X dX12_isAhead_46 rfl rfl ?_
    obtain ⟨q4, h⟩ := zg h
    refine r_ald X 18 rfl rfl q4 dX12_isAhead_47 ?_
    refine z_icmp_ge (tgt := 55) X dX12_isAhead_48 (by decide) (fun q => ?_) (fun q => ?_)
    · have h := zp q h
      refine z_iconst (v := 0) X dX12_isAhead_55 (by decide) ?_
      obtain rfl := Option.some.inj h
      exact z_iret X hr rfl (fun t hG hF _ => ⟨⟨_, (), rfl, ⟨rfl, trivial⟩, hG⟩, hF⟩) dX12_isAhead_56
    · have h := zn q h
      refine z_iconst (v := 1) X dX12_isAhead_51 (by decide) ?_
      refine z_goto (tgt := 56) X dX12_isAhead_52 (by decide) ?_
      obtain rfl := Option.some.inj h
      exact z_iret X hr rfl (fun t hG hF _ => ⟨⟨_, (), rfl, ⟨rfl, trivial⟩, hG⟩, hF⟩) dX12_isAhead_56
  · have h := zn q h
    refine z_aload_n X dX12_isAhead_15 rfl rfl ?_
    refine r_getA X 19 rfl rfl g_1325 dX12_isAhead_16 ?_
    refine z_iload_n X dX12_isAhead_19 rfl rfl ?_
    obtain ⟨q5, h⟩ := zg h
    refine r_ald X 19 rfl rfl q5 dX12_isAhead_20 ?_
    refine z_aload_n X dX12_isAhead_21 rfl rfl ?_
    refine r_getA X 19 rfl rfl g_1325 dX12_isAhead_22 ?_
    refine z_iload_n X dX12_isAhead_25 rfl rfl ?_
    obtain ⟨q6, h⟩ := zg h
    refine r_ald X 19 rfl rfl q6 dX12_isAhead_26 ?_
    refine z_icmp_ge (tgt := 34) X dX12_isAhead_27 (by decide) (fun q => ?_) (fun q => ?_)
    · have h := zp q h
      refine z_iconst (v := 0) X dX12_isAhead_34 (by decide) ?_
      obtain rfl := Option.some.inj h
      exact z_iret X hr rfl (fun t hG hF _ => ⟨⟨_, (), rfl, ⟨rfl, trivial⟩, hG⟩, hF⟩) dX12_isAhead_35
    · have h := zn q h
      refine z_iconst (v := 1) X dX12_isAhead_30 (by decide) ?_
      refine z_goto (tgt := 35) X dX12_isAhead_31 (by decide) ?_
      obtain rfl := Option.some.inj h
      exact z_iret X hr rfl (fun t hG hF _ => ⟨⟨_, (), rfl, ⟨rfl, trivial⟩, hG⟩, hF⟩) dX12_isAhead_35
theorem cr_isAhead (l : Launch) {D : va_G} {dA : Nat → ClassId} {A : Nat → Prop} {n : Nat} {ad : Nat → Nat} (hst : l.stackTraces = false) (hA : ∀ q, n ≤ q → A q) {ρ : Rho} {a1 : Int32} {a2 : Int32} {o : Int32} (h : fr_isAhead ρ a1 a2 = some o) : Met l yX12_isAhead (.code yX12_isAhead cX12_isAhead 3 (some .boolean) :: gT) ({ frames := 20, cells := 0, slots := 0, locals := 200 } : Room) (va_Pc [.ref (ad 40), .int a1, .int a2] (zB D dA A n (rw D dA A ρ ad))) (va_Qi (fun r (_ : Unit) => r = o ∧ True) (fun _ t => rw D dA A ρ ad t.heap) A) 0 0 A :=
  z_met (by decide) hA hst (Nat.le_of_ble_eq_true rfl) rfl rfl (fun p e s m below meth c X hml hr _ => br_isAhead X hml hr h)
-- bundleFor(I)I
def fr_bundleFor_114 (k22 : Rho → Int32 → Int32 → Int32 → Int32 → Option (Int32)) (ρ : Rho) (v1 : Int32) (v3 : Int32) (v4 : Int32) (s0 : Int32) : Option (Int32) := (some (v4 + 1)).bind fun x1 => k22 ρ v1 s0 v3 x1
set_option maxRecDepth 100000 in
set_option maxHeartbeats 4000000 in
theorem br_bundleFor_114 {p : Program} {l : Launch} {e : Env} {s : State} {m : MethodId} {args : Array Value} {below : List Frame} {meth : Method} {c : Code} {D : va_G} {dA : Nat → ClassId} {A : Nat → Prop} {ad : Nat → Nat} {o : Int32} (X : zc p l s m args meth c cX12_bundleFor RX12 D dA A) (hml : c.maxLocals = 6) (hr : meth.sig.returnType = (some .int)) {k22 : Rho → Int32 → Int32 → Int32 → Int32 → Option (Int32)} (hk22 : ∀ {ρ : Rho} {v1 : Int32} {v2 : Int32} {v3 : Int32} {v4 : Int32}, k22 ρ v1 v2 v3 v4 = some o → zz p l e ({ frames := 60, cells := 0, slots := 0, locals := 600 } : Room) s m args below meth c A (rw D dA A ρ ad) 0 0 (MQ below (va_Qi (fun r (_ : Unit) => r = o ∧ True) (fun _ t => rw D dA A ρ ad t.heap) A) args s 0 0 A) 22 [(0, .ref (ad 40)), (1, .int (v1)), (2, .int (v2)), (3, .int (v3)), (4, .int (v4))] [] []) {ρ : Rho} {v1 : Int32} {v3 : Int32} {v4 : Int32} {s0 : Int32} (h : fr_bundleFor_114 k22 ρ v1 v3 v4 s0 = some o) : zz p l e ({ frames := 60, cells := 0, slots := 0, locals := 600 } : Room) s m args below meth c A (rw D dA A ρ ad) 0 0 (MQ below (va_Qi (fun r (_ : Unit) => r = o ∧ True) (fun _ t => rw D dA A ρ ad t.heap) A) args s 0 0 A) 114 [(0, .ref (ad 40)), (1, .int (v1)), (3, .int (v3)), (4, .int (v4))] [] [.int (s0)] := by
  unfold fr_bundleFor_114 at h
  refine z_istore_n (lo' := [(2, .int (s0)), (0, .ref (ad 40)), (1, .int (v1)), (3, .int (v3)), (4, .int (v4))]) X dX12_bundleFor_114 rfl (by rw [hml]; decide) rfl rfl ?_
  obtain ⟨x1, ex1, h⟩ := zb h
  refine z_iinc (v := x1) (lo' := [(4, .int (x1)), (2, .int (s0)), (0, .ref (ad 40)), (1, .int (v1)), (3, .int (v3))]) X dX12_bundleFor_115 rfl ex1 (by rw [hml]; decide) rfl rfl ?_
  refine z_goto (tgt := 22) X dX12_bundleFor_118 (by decide) ?_
  refine zz.pick (lo' := [(0, .ref (ad 40)), (1, .int (v1)), (2, .int (s0)), (3, .int (v3)), (4, .int (x1))]) [0, 1, 2, 3, 4] rfl ?_
  exact hk22  h
def fr_bundleFor_113 (k22 : Rho → Int32 → Int32 → Int32 → Int32 → Option (Int32)) (ρ : Rho) (v1 : Int32) (v2 : Int32) (v3 : Int32) (v4 : Int32) : Option (Int32) := fr_bundleFor_114 k22 ρ v1 v3 v4 v2
set_option maxRecDepth 100000 in
set_option maxHeartbeats 4000000 in
theorem br_bundleFor_113 {p : Program} {l : Launch} {e : Env} {s : State} {m : MethodId} {args : Array Value} {below : List Frame} {meth : Method} {c : Code} {D : va_G} {dA : Nat → ClassId} {A : Nat → Prop} {ad : Nat → Nat} {o : Int32} (X : zc p l s m args meth c cX12_bundleFor RX12 D dA A) (hml : c.maxLocals = 6) (hr : meth.sig.returnType = (some .int)) {k22 : Rho → Int32 → Int32 → Int32 → Int32 → Option (Int32)} (hk22 : ∀ {ρ : Rho} {v1 : Int32} {v2 : Int32} {v3 : Int32} {v4 : Int32}, k22 ρ v1 v2 v3 v4 = some o → zz p l e ({ frames := 60, cells := 0, slots := 0, locals := 600 } : Room) s m args below meth c A (rw D dA A ρ ad) 0 0 (MQ below (va_Qi (fun r (_ : Unit) => r = o ∧ True) (fun _ t => rw D dA A ρ ad t.heap) A) args s 0 0 A) 22 [(0, .ref (ad 40)), (1, .int (v1)), (2, .int (v2)), (3, .int (v3)), (4, .int (v4))] [] []) {ρ : Rho} {v1 : Int32} {v2 : Int32} {v3 : Int32} {v4 : Int32} (h : fr_bundleFor_113 k22 ρ v1 v2 v3 v4 = some o) : zz p l e ({ frames := 60, cells := 0, slots := 0, locals := 600 } : Room) s m args below meth c A (rw D dA A ρ ad) 0 0 (MQ below (va_Qi (fun r (_ : Unit) => r = o ∧ True) (fun _ t => rw D dA A ρ ad t.heap) A) args s 0 0 A) 113 [(0, .ref (ad 40)), (1, .int (v1)), (2, .int (v2)), (3, .int (v3)), (4, .int (v4))] [] [] := by
  unfold fr_bundleFor_113 at h
  refine z_iload_n X dX12_bundleFor_113 rfl rfl ?_
  refine zz.pick (lo' := [(0, .ref (ad 40)), (1, .int (v1)), (3, .int (v3)), (4, .int (v4))]) [0, 1, 3, 4] rfl ?_
  exact br_bundleFor_114 X hml hr hk22 h
def fr_bundleFor_108 (k22 : Rho → Int32 → Int32 → Int32 → Int32 → Option (Int32)) (ρ : Rho) (v1 : Int32) (v3 : Int32) (v4 : Int32) : Option (Int32) := fr_bundleFor_114 k22 ρ v1 v3 v4 v4
set_option maxRecDepth 100000 in
set_option maxHeartbeats 4000000 in
theorem br_bundleFor_108 {p : Program} {l : Launch} {e : Env} {s : State} {m : MethodId} {args : Array Value} {below : List Frame} {meth : Method} {c : Code} {D : va_G} {dA : Nat → ClassId} {A : Nat → Prop} {ad : Nat → Nat} {o : Int32} (X : zc p l s m args meth c cX12_bundleFor RX12 D dA A) (hml : c.maxLocals = 6) (hr : meth.sig.returnType = (some .int)) {k22 : Rho → Int32 → Int32 → Int32 → Int32 → Option (Int32)} (hk22 : ∀ {ρ : Rho} {v1 : Int32} {v2 : Int32} {v3 : Int32} {v4 : Int32}, k22 ρ v1 v2 v3 v4 = some o → zz p l e ({ frames := 60, cells := 0, slots := 0, locals := 600 } : Room) s m args below meth c A (rw D dA A ρ ad) 0 0 (MQ below (va_Qi (fun r (_ : Unit) => r = o ∧ True) (fun _ t => rw D dA A ρ ad t.heap) A) args s 0 0 A) 22 [(0, .ref (ad 40)), (1, .int (v1)), (2, .int (v2)), (3, .int (v3)), (4, .int (v4))] [] []) {ρ : Rho} {v1 : Int32} {v3 : Int32} {v4 : Int32} (h : fr_bundleFor_108 k22 ρ v1 v3 v4 = some o) : zz p l e ({ frames := 60, cells := 0, slots := 0, locals := 600 } : Room) s m args below meth c A (rw D dA A ρ ad) 0 0 (MQ below (va_Qi (fun r (_ : Unit) => r = o ∧ True) (fun _ t => rw D dA A ρ ad t.heap) A) args s 0 0 A) 108 [(0, .ref (ad 40)), (1, .int (v1)), (3, .int (v3)), (4, .int (v4))] [] [] := by
  unfold fr_bundleFor_108 at h
  refine z_iload X dX12_bundleFor_108 rfl ?_
  refine z_goto (tgt := 114) X dX12_bundleFor_110 (by decide) ?_
  refine zz.pick (lo' := [(0, .ref (ad 40)), (1, .int (v1)), (3, .int (v3)), (4, .int (v4))]) [0, 1, 3, 4] rfl ?_
  exact br_bundleFor_114 X hml hr hk22 h
def fr_bundleFor_86 (k22 : Rho → Int32 → Int32 → Int32 → Int32 → Option (Int32)) (ρ : Rho) (v1 : Int32) (v2 : Int32) (v3 : Int32) (v4 : Int32) (s0 : Int32) : Option (Int32) := (if s0 = 0 then fr_bundleFor_113 k22 ρ v1 v2 v3 v4
  else (if v2 = (-1) then fr_bundleFor_108 k22 ρ v1 v3 v4
  else (fr_isAhead ρ (v4) (v2)).bind fun o1 => (if o1 = 0 then fr_bundleFor_113 k22 ρ v1 v2 v3 v4
  else fr_bundleFor_108 k22 ρ v1 v3 v4)))
set_option maxRecDepth 100000 in
set_option maxHeartbeats 4000000 in
theorem br_bundleFor_86 {p : Program} {l : Launch} {e : Env} {s : State} {m : MethodId} {args : Array Value} {below : List Frame} {meth : Method} {c : Code} {D : va_G} {dA : Nat → ClassId} {A : Nat → Prop} {ad : Nat → Nat} {o : Int32} (X : zc p l s m args meth c cX12_bundleFor RX12 D dA A) (hml : c.maxLocals = 6) (hr : meth.sig.returnType = (some .int)) {k22 : Rho → Int32 → Int32 → Int32 → Int32 → Option (Int32)} (hk22 : ∀ {ρ : Rho} {v1 : Int32} {v2 : Int32} {v3 : Int32} {v4 : Int32}, k22 ρ v1 v2 v3 v4 = some o → zz p l e ({ frames := 60, cells := 0, slots := 0, locals := 600 } : Room) s m args below meth c A (rw D dA A ρ ad) 0 0 (MQ below (va_Qi (fun r (_ : Unit) => r = o ∧ True) (fun _ t => rw D dA A ρ ad t.heap) A) args s 0 0 A) 22 [(0, .ref (ad 40)), (1, .int (v1)), (2, .int (v2)), (3, .int (v3)), (4, .int (v4))] [] []) {ρ : Rho} {v1 : Int32} {v2 : Int32} {v3 : Int32} {v4 : Int32} {s0 : Int32} (h : fr_bundleFor_86 k22 ρ v1 v2 v3 v4 s0 = some o) : zz p l e ({ frames := 60, cells := 0, slots := 0, locals := 600 } : Room) s m args below meth c A (rw D dA A ρ ad) 0 0 (MQ below (va_Qi (fun r (_ : Unit) => r = o ∧ True) (fun _ t => rw D dA A ρ ad t.heap) A) args s 0 0 A) 86 [(0, .ref (ad 40)), (1, .int (v1)), (2, .int (v2)), (3, .int (v3)), (4, .int (v4))] [] [.int (s0)] := by
  unfold fr_bundleFor_86 at h
  refine z_istore (lo' := [(5, .int (s0)), (0, .ref (ad 40)), (1, .int (v1)), (2, .int (v2)), (3, .int (v3)), (4, .int (v4))]) X dX12_bundleFor_86 (by rw [hml]; decide) rfl rfl ?_
  refine z_iload X dX12_bundleFor_88 rfl ?_
  refine z_if_eq (tgt := 113) X dX12_bundleFor_90 (by decide) (fun q => ?_) (fun q => ?_)
  · have h := zp q h
    refine zz.pick (lo' := [(0, .ref (ad 40)), (1, .int (v1)), (2, .int (v2)), (3, .int (v3)), (4, .int (v4))]) [0, 1, 2, 3, 4] rfl ?_
    exact br_bundleFor_113 X hml hr hk22 h
  · have h := zn q h
    refine z_iload_n X dX12_bundleFor_93 rfl rfl ?_
    refine z_iconst (v := (-1)) X dX12_bundleFor_94 (by decide) ?_
    refine z_icmp_eq (tgt := 108) X dX12_bundleFor_95 (by decide) (fun q => ?_) (fun q => ?_)
    · have h := zp q h
      refine zz.pick (lo' := [(0, .ref (ad 40)), (1, .int (v1)), (3, .int (v3)), (4, .int (v4))]) [0, 1, 3, 4] rfl ?_
      exact br_bundleFor_108 X hml hr hk22 h
    · have h := zn q h
      refine z_aload_n X dX12_bundleFor_98 rfl rfl ?_
      refine z_iload X dX12_bundleFor_99 rfl ?_
      refine z_iload_n X dX12_bundleFor_101 rfl rfl ?_
      obtain ⟨o1, co1, h⟩ := zb2 h
      refine z_callVi (As := [.int (v4), .int (v2)]) (rest := []) (nA := 2) (r0 := o1) (pu := fun (_ : Unit) => True) (G1 := fun _ => rw D dA A ρ ad) X (cr_isAhead l X.2.2.2.2.2.2.2.2 X.2.2.2.2.2.2.1 co1) g_1547 g_1549 gs_35 g_15 g_1550 hd_yX12_isAhead ⟨rfl, rfl, Nat.le_of_ble_eq_true rfl, Nat.le_of_ble_eq_true rfl⟩ rfl (fun _ hG => rw_recv X hG) rfl (Nat.le_of_ble_eq_true rfl) dX12_bundleFor_102 ⟨Nat.le_refl _, Nat.le_refl _⟩ (fun _ _ => ?_)
      refine z_if_eq (tgt := 113) X dX12_bundleFor_105 (by decide) (fun q => ?_) (fun q => ?_)
      · have h := zp q h
        refine zz.pick (lo' := [(0, .ref (ad 40)), (1, .int (v1)), (2, .int (v2)), (3, .int (v3)), (4, .int (v4))]) [0, 1, 2, 3, 4] rfl ?_
        exact br_bundleFor_113 X hml hr hk22 h
      · have h := zn q h
        refine zz.pick (lo' := [(0, .ref (ad 40)), (1, .int (v1)), (3, .int (v3)), (4, .int (v4))]) [0, 1, 3, 4] rfl ?_
        exact br_bundleFor_108 X hml hr hk22 h
def fr_bundleFor_85 (k22 : Rho → Int32 → Int32 → Int32 → Int32 → Option (Int32)) (ρ : Rho) (v1 : Int32) (v2 : Int32) (v3 : Int32) (v4 : Int32) : Option (Int32) := fr_bundleFor_86 k22 ρ v1 v2 v3 v4 0
set_option maxRecDepth 100000 in
set_option maxHeartbeats 4000000 in
theorem br_bundleFor_85 {p : Program} {l : Launch} {e : Env} {s : State} {m : MethodId} {args : Array Value} {below : List Frame} {meth : Method} {c : Code} {D : va_G} {dA : Nat → ClassId} {A : Nat → Prop} {ad : Nat → Nat} {o : Int32} (X : zc p l s m args meth c cX12_bundleFor RX12 D dA A) (hml : c.maxLocals = 6) (hr : meth.sig.returnType = (some .int)) {k22 : Rho → Int32 → Int32 → Int32 → Int32 → Option (Int32)} (hk22 : ∀ {ρ : Rho} {v1 : Int32} {v2 : Int32} {v3 : Int32} {v4 : Int32}, k22 ρ v1 v2 v3 v4 = some o → zz p l e ({ frames := 60, cells := 0, slots := 0, locals := 600 } : Room) s m args below meth c A (rw D dA A ρ ad) 0 0 (MQ below (va_Qi (fun r (_ : Unit) => r = o ∧ True) (fun _ t => rw D dA A ρ ad t.heap) A) args s 0 0 A) 22 [(0, .ref (ad 40)), (1, .int (v1)), (2, .int (v2)), (3, .int (v3)), (4, .int (v4))] [] []) {ρ : Rho} {v1 : Int32} {v2 : Int32} {v3 : Int32} {v4 : Int32} (h : fr_bundleFor_85 k22 ρ v1 v2 v3 v4 = some o) : zz p l e ({ frames := 60, cells := 0, slots := 0, locals := 600 } : Room) s m args below meth c A (rw D dA A ρ ad) 0 0 (MQ below (va_Qi (fun r (_ : Unit) => r = o ∧ True) (fun _ t => rw D dA A ρ ad t.heap) A) args s 0 0 A) 85 [(0, .ref (ad 40)), (1, .int (v1)), (2, .int (v2)), (3, .int (v3)), (4, .int (v4))] [] [] := by
  unfold fr_bundleFor_85 at h
  refine z_iconst (v := 0) X dX12_bundleFor_85 (by decide) ?_
  refine zz.pick (lo' := [(0, .ref (ad 40)), (1, .int (v1)), (2, .int (v2)), (3, .int (v3)), (4, .int (v4))]) [0, 1, 2, 3, 4] rfl ?_
  exact br_bundleFor_86 X hml hr hk22 h
def fr_bundleFor_22 : Nat → Rho → Int32 → Int32 → Int32 → Int32 → Option (Int32)
  | 0, _, _, _, _, _ => none
  | n + 1, ρ, v1, v2, v3, v4 => (if (ρ 14 0) ≤ v4 then some (v2)
  else if v4 < 0 ∨ 40 ≤ (v4).toNatClampNeg then none else if v1 < 0 ∨ 80 ≤ (v1).toNatClampNeg then none else (if (ρ 15 (v4).toNatClampNeg) = (ρ 25 (v1).toNatClampNeg) then if v4 < 0 ∨ 40 ≤ (v4).toNatClampNeg then none else (if (((ρ 16 (v4).toNatClampNeg) >>> (v3 &&& 31)) &&& 1) = 1 then (fr_isOver ρ (v4)).bind fun o4 => (if o4 = 0 then if v4 < 0 ∨ 40 ≤ (v4).toNatClampNeg then none else (if (ρ 17 (v4).toNatClampNeg) ≤ 0 then fr_bundleFor_85 (fr_bundleFor_22 n) ρ v1 v2 v3 v4
  else fr_bundleFor_86 (fr_bundleFor_22 n) ρ v1 v2 v3 v4 1)
  else fr_bundleFor_85 (fr_bundleFor_22 n) ρ v1 v2 v3 v4)
  else fr_bundleFor_85 (fr_bundleFor_22 n) ρ v1 v2 v3 v4)
  else fr_bundleFor_85 (fr_bundleFor_22 n) ρ v1 v2 v3 v4))
set_option maxRecDepth 100000 in
set_option maxHeartbeats 4000000 in
theorem br_bundleFor_22 {p : Program} {l : Launch} {e : Env} {s : State} {m : MethodId} {args : Array Value} {below : List Frame} {meth : Method} {c : Code} {D : va_G} {dA : Nat → ClassId} {A : Nat → Prop} {ad : Nat → Nat} {o : Int32} (X : zc p l s m args meth c cX12_bundleFor RX12 D dA A) (hml : c.maxLocals = 6) (hr : meth.sig.returnType = (some .int)) : ∀ (n : Nat) {ρ : Rho} {v1 : Int32} {v2 : Int32} {v3 : Int32} {v4 : Int32}, fr_bundleFor_22  n ρ v1 v2 v3 v4 = some o → zz p l e ({ frames := 60, cells := 0, slots := 0, locals := 600 } : Room) s m args below meth c A (rw D dA A ρ ad) 0 0 (MQ below (va_Qi (fun r (_ : Unit) => r = o ∧ True) (fun _ t => rw D dA A ρ ad t.heap) A) args s 0 0 A) 22 [(0, .ref (ad 40)), (1, .int (v1)), (2, .int (v2)), (3, .int (v3)), (4, .int (v4))] [] [] := by
  intro n
  induction n with
  | zero => intro ρ v1 v2 v3 v4 h; exact (nomatch (show none = some o from h))
  | succ n ih =>
    intro ρ v1 v2 v3 v4 h
    rw [fr_bundleFor_22] at h
    refine z_iload X dX12_bundleFor_22 rfl ?_
    refine z_aload_n X dX12_bundleFor_24 rfl rfl ?_
    refine r_getS X 14 rfl rfl g_1320 dX12_bundleFor_25 ?_
    refine z_icmp_ge (tgt := 121) X dX12_bundleFor_28 (by decide) (fun q => ?_) (fun q => ?_)
    · have h := zp q h
      refine z_iload_n X dX12_bundleFor_121 rfl rfl ?_
      obtain rfl := Option.some.inj h
      exact z_iret X hr rfl (fun t hG hF _ => ⟨⟨_, (), rfl, ⟨rfl, trivial⟩, hG⟩, hF⟩) dX12_bundleFor_122
    · have h := zn q h
      refine z_aload_n X dX12_bundleFor_31 rfl rfl ?_
      refine r_getA X 15 rfl rfl g_1321 dX12_bundleFor_32 ?_
      refine z_iload X dX12_bundleFor_35 rfl ?_
      obtain ⟨q1, h⟩ := zg h
      refine r_ald X 15 rfl rfl q1 dX12_bundleFor_37 ?_
      refine z_aload_n X dX12_bundleFor_38 rfl rfl ?_
      refine r_getA X 25 rfl rfl g_1331 dX12_bundleFor_39 ?_
      refine z_iload_n X dX12_bundleFor_42 rfl rfl ?_
      obtain ⟨q2, h⟩ := zg h
      refine r_ald X 25 rfl rfl q2 dX12_bundleFor_43 ?_
      refine z_icmp_ne (tgt := 85) X dX12_bundleFor_44 (by decide) (fun q => ?_) (fun q => ?_)
      · have h := zp q h
        refine z_aload_n X dX12_bundleFor_47 rfl rfl ?_
        refine r_getA X 16 rfl rfl g_1322 dX12_bundleFor_48 ?_
        refine z_iload X dX12_bundleFor_51 rfl ?_
        obtain ⟨q3, h⟩ := zg h
        refine r_ald X 16 rfl rfl q3 dX12_bundleFor_53 ?_
        refine z_iload_n X dX12_bundleFor_54 rfl rfl ?_
        refine z_ishr X dX12_bundleFor_55 ?_
        refine z_iconst (v := 1) X dX12_bundleFor_56 (by decide) ?_
        refine z_iand X dX12_bundleFor_57 ?_
        refine z_iconst (v := 1) X dX12_bundleFor_58 (by decide) ?_
        refine z_icmp_ne (tgt := 85) X dX12_bundleFor_59 (by decide) (fun q => ?_) (fun q => ?_)
        · have h := zp q h
          refine z_aload_n X dX12_bundleFor_62 rfl rfl ?_
          refine z_iload X dX12_bundleFor_63 rfl ?_
          obtain ⟨o4, co4, h⟩ := zb2 h
          refine z_callVi (As := [.int (v4)]) (rest := []) (nA := 1) (r0 := o4) (pu := fun (_ : Unit) => True) (G1 := fun _ => rw D dA A ρ ad) X (cr_isOver l X.2.2.2.2.2.2.2.2 X.2.2.2.2.2.2.1 co4) g_1516 g_1518 gs_29 g_15 g_1519 hd_yX12_isOver ⟨rfl, rfl, Nat.le_of_ble_eq_true rfl, Nat.le_of_ble_eq_true rfl⟩ rfl (fun _ hG => rw_recv X hG) rfl (Nat.le_of_ble_eq_true rfl) dX12_bundleFor_65 ⟨Nat.le_refl _, Nat.le_refl _⟩ (fun _ _ => ?_)
          refine z_if_ne (tgt := 85) X dX12_bundleFor_68 (by decide) (fun q => ?_) (fun q => ?_)
          · have h := zp q h
            refine z_aload_n X dX12_bundleFor_71 rfl rfl ?_
            refine r_getA X 17 rfl rfl g_1323 dX12_bundleFor_72 ?_
            refine z_iload X dX12_bundleFor_75 rfl ?_
            obtain ⟨q5, h⟩ := zg h
            refine r_ald X 17 rfl rfl q5 dX12_bundleFor_77 ?_
            refine z_if_le (tgt := 85) X dX12_bundleFor_78 (by decide) (fun q => ?_) (fun q => ?_)
            · have h := zp q h
              refine zz.pick (lo' := [(0, .ref (ad 40)), (1, .int (v1)), (2, .int (v2)), (3, .int (v3)), (4, .int (v4))]) [0, 1, 2, 3, 4] rfl ?_
              exact br_bundleFor_85 X hml hr ih h
            · have h := zn q h
              refine z_iconst (v := 1) X dX12_bundleFor_81 (by decide) ?_
              refine z_goto (tgt := 86) X dX12_bundleFor_82 (by decide) ?_
              refine zz.pick (lo' := [(0, .ref (ad 40)), (1, .int (v1)), (2, .int (v2)), (3, .int (v3)), (4, .int (v4))]) [0, 1, 2, 3, 4] rfl ?_
              exact br_bundleFor_86 X hml hr ih h
          · have h := zn q h
            refine zz.pick (lo' := [(0, .ref (ad 40)), (1, .int (v1)), (2, .int (v2)), (3, .int (v3)), (4, .int (v4))]) [0, 1, 2, 3, 4] rfl ?_
            exact br_bundleFor_85 X hml hr ih h
        · have h := zn q h
          refine zz.pick (lo' := [(0, .ref (ad 40)), (1, .int (v1)), (2, .int (v2)), (3, .int (v3)), (4, .int (v4))]) [0, 1, 2, 3, 4] rfl ?_
          exact br_bundleFor_85 X hml hr ih h
      · have h := zn q h
        refine zz.pick (lo' := [(0, .ref (ad 40)), (1, .int (v1)), (2, .int (v2)), (3, .int (v3)), (4, .int (v4))]) [0, 1, 2, 3, 4] rfl ?_
        exact br_bundleFor_85 X hml hr ih h
def fr_bundleFor (ρ : Rho) (a1 : Int32) : Option (Int32) := if a1 < 0 ∨ 80 ≤ (a1).toNatClampNeg then none else if (ρ 23 (a1).toNatClampNeg) < 0 ∨ 10 ≤ ((ρ 23 (a1).toNatClampNeg)).toNatClampNeg then none else if (ρ 6 ((ρ 23 (a1).toNatClampNeg)).toNatClampNeg) < 0 ∨ 8 ≤ ((ρ 6 ((ρ 23 (a1).toNatClampNeg)).toNatClampNeg)).toNatClampNeg then none else (some ((ρ 2 ((ρ 6 ((ρ 23 (a1).toNatClampNeg)).toNatClampNeg)).toNatClampNeg))).bind fun x4 => fr_bundleFor_22 FU ρ a1 (-1) x4 0
set_option maxRecDepth 100000 in
set_option maxHeartbeats 4000000 in
theorem br_bundleFor {p : Program} {l : Launch} {e : Env} {s : State} {m : MethodId} {args : Array Value} {below : List Frame} {meth : Method} {c : Code} {D : va_G} {dA : Nat → ClassId} {A : Nat → Prop} {ad : Nat → Nat} {o : Int32} (X : zc p l s m args meth c cX12_bundleFor RX12 D dA A) (hml : c.maxLocals = 6) (hr : meth.sig.returnType = (some .int)) {ρ : Rho} {a1 : Int32} (h : fr_bundleFor ρ a1 = some o) : zz p l e ({ frames := 60, cells := 0, slots := 0, locals := 600 } : Room) s m args below meth c A (rw D dA A ρ ad) 0 0 (MQ below (va_Qi (fun r (_ : Unit) => r = o ∧ True) (fun _ t => rw D dA A ρ ad t.heap) A) args s 0 0 A) 0 [(0, .ref (ad 40)), (1, .int (a1))] [] [] := by
  unfold fr_bundleFor at h
  refine z_iconst (v := (-1)) X dX12_bundleFor_0 (by decide) ?_
  refine z_istore_n (lo' := [(2, .int ((-1))), (0, .ref (ad 40)), (1, .int (a1))]) X dX12_bundleFor_1 rfl (by rw [hml]; decide) rfl rfl ?_
  refine z_aload_n X dX12_bundleFor_2 rfl rfl ?_
  refine r_getA X 2 rfl rfl g_1308 dX12_bundleFor_3 ?_
  refine z_aload_n X dX12_bundleFor_6 rfl rfl ?_
  refine r_getA X 6 rfl rfl g_1312 dX12_bundleFor_7 ?_
  refine z_aload_n X dX12_bundleFor_10 rfl rfl ?_
  refine r_getA X 23 rfl rfl g_1329 dX12_bundleFor_11 ?_
  refine z_iload_n X dX12_bundleFor_14 rfl rfl ?_
  obtain ⟨q1, h⟩ := zg h
  refine r_ald X 23 rfl rfl q1 dX12_bundleFor_15 ?_
  obtain ⟨q2, h⟩ := zg h
  refine r_ald X 6 rfl rfl q2 dX12_bundleFor_16 ?_
  obtain ⟨q3, h⟩ := zg h
  refine r_ald X 2 rfl rfl q3 dX12_bundleFor_17 ?_
  obtain ⟨x4, ex4, h⟩ := zb h
  rw [ex4]
  refine z_istore_n (lo' := [(3, .int (x4)), (2, .int ((-1))), (0, .ref (ad 40)), (1, .int (a1))]) X dX12_bundleFor_18 rfl (by rw [hml]; decide) rfl rfl ?_
  refine z_iconst (v := 0) X dX12_bundleFor_19 (by decide) ?_
  refine z_istore (lo' := [(4, .int (0)), (3, .int (x4)), (2, .int ((-1))), (0, .ref (ad 40)), (1, .int (a1))]) X dX12_bundleFor_20 (by rw [hml]; decide) rfl rfl ?_
  refine zz.pick (lo' := [(0, .ref (ad 40)), (1, .int (a1)), (2, .int ((-1))), (3, .int (x4)), (4, .int (0))]) [0, 1, 2, 3, 4] rfl ?_
  exact br_bundleFor_22 X hml hr FU h
theorem cr_bundleFor (l : Launch) {D : va_G} {dA : Nat → ClassId} {A : Nat → Prop} {n : Nat} {ad : Nat → Nat} (hst : l.stackTraces = false) (hA : ∀ q, n ≤ q → A q) {ρ : Rho} {a1 : Int32} {o : Int32} (h : fr_bundleFor ρ a1 = some o) : Met l yX12_bundleFor (.code yX12_bundleFor cX12_bundleFor 6 (some .int) :: gT) ({ frames := 60, cells := 0, slots := 0, locals := 600 } : Room) (va_Pc [.ref (ad 40), .int a1] (zB D dA A n (rw D dA A ρ ad))) (va_Qi (fun r (_ : Unit) => r = o ∧ True) (fun _ t => rw D dA A ρ ad t.heap) A) 0 0 A :=
  z_met (by decide) hA hst (Nat.le_of_ble_eq_true rfl) rfl rfl (fun p e s m below meth c X hml hr _ => br_bundleFor X hml hr h)
-- costToday(I)I
def fr_costToday (ρ : Rho) (a1 : Int32) : Option (Int32) := if a1 < 0 ∨ 10 ≤ (a1).toNatClampNeg then none else (fr_today ρ).bind fun o2 => (if (ρ 11 (a1).toNatClampNeg) = o2 then if a1 < 0 ∨ 10 ≤ (a1).toNatClampNeg then none else some ((ρ 10 (a1).toNatClampNeg))
  else some (0))
set_option maxRecDepth 100000 in
set_option maxHeartbeats 4000000 in
theorem br_costToday {p : Program} {l : Launch} {e : Env} {s : State} {m : MethodId} {args : Array Value} {below : List Frame} {meth : Method} {c : Code} {D : va_G} {dA : Nat → ClassId} {A : Nat → Prop} {ad : Nat → Nat} {o : Int32} (X : zc p l s m args meth c cX12_costToday RX12 D dA A) (hml : c.maxLocals = 2) (hr : meth.sig.returnType = (some .int)) {ρ : Rho} {a1 : Int32} (h : fr_costToday ρ a1 = some o) : zz p l e ({ frames := 40, cells := 0, slots := 0, locals := 400 } : Room) s m args below meth c A (rw D dA A ρ ad) 0 0 (MQ below (va_Qi (fun r (_ : Unit) => r = o ∧ True) (fun _ t => rw D dA A ρ ad t.heap) A) args s 0 0 A) 0 [(0, .ref (ad 40)), (1, .int (a1))] [] [] := by
  unfold fr_costToday at h
  refine z_aload_n X dX12_costToday_0 rfl rfl ?_
  refine r_getA X 11 rfl rfl g_1317 dX12_costToday_1 ?_
  refine z_iload_n X dX12_costToday_4 rfl rfl ?_
  obtain ⟨q1, h⟩ := zg h
  refine r_ald X 11 rfl rfl q1 dX12_costToday_5 ?_
  refine z_aload_n X dX12_costToday_6 rfl rfl ?_
  obtain ⟨o2, co2, h⟩ := zb2 h
  refine z_callVi (As := []) (rest := [.int ((ρ 11 (a1).toNatClampNeg))]) (nA := 0) (r0 := o2) (pu := fun (_ : Unit) => True) (G1 := fun _ => rw D dA A ρ ad) X (cr_today l X.2.2.2.2.2.2.2.2 X.2.2.2.2.2.2.1 co2) g_1492 g_1494 gs_27 g_15 g_1495 hd_yX12_today ⟨rfl, rfl, Nat.le_of_ble_eq_true rfl, Nat.le_of_ble_eq_true rfl⟩ rfl (fun _ hG => rw_recv X hG) rfl (Nat.le_of_ble_eq_true rfl) dX12_costToday_7 ⟨Nat.le_refl _, Nat.le_refl _⟩ (fun _ _ => ?_)
  refine z_icmp_ne (tgt := 22) X dX12_costToday_10 (by decide) (fun q => ?_) (fun q => ?_)
  · have h := zp q h
    refine z_aload_n X dX12_costToday_13 rfl rfl ?_
    refine r_getA X 10 rfl rfl g_1316 dX12_costToday_14 ?_
    refine z_iload_n X dX12_costToday_17 rfl rfl ?_
    obtain ⟨q3, h⟩ := zg h
    refine r_ald X 10 rfl rfl q3 dX12_costToday_18 ?_
    refine z_goto (tgt := 23) X dX12_costToday_19 (by decide) ?_
    obtain rfl := Option.some.inj h
    exact z_iret X hr rfl (fun t hG hF _ => ⟨⟨_, (), rfl, ⟨rfl, trivial⟩, hG⟩, hF⟩) dX12_costToday_23
  · have h := zn q h
    refine z_iconst (v := 0) X dX12_costToday_22 (by decide) ?_
    obtain rfl := Option.some.inj h
    exact z_iret X hr rfl (fun t hG hF _ => ⟨⟨_, (), rfl, ⟨rfl, trivial⟩, hG⟩, hF⟩) dX12_costToday_23
theorem cr_costToday (l : Launch) {D : va_G} {dA : Nat → ClassId} {A : Nat → Prop} {n : Nat} {ad : Nat → Nat} (hst : l.stackTraces = false) (hA : ∀ q, n ≤ q → A q) {ρ : Rho} {a1 : Int32} {o : Int32} (h : fr_costToday ρ a1 = some o) : Met l yX12_costToday (.code yX12_costToday cX12_costToday 2 (some .int) :: gT) ({ frames := 40, cells := 0, slots := 0, locals := 400 } : Room) (va_Pc [.ref (ad 40), .int a1] (zB D dA A n (rw D dA A ρ ad))) (va_Qi (fun r (_ : Unit) => r = o ∧ True) (fun _ t => rw D dA A ρ ad t.heap) A) 0 0 A :=
  z_met (by decide) hA hst (Nat.le_of_ble_eq_true rfl) rfl rfl (fun p e s m below meth c X hml hr _ => br_costToday X hml hr h)
-- lets(II)I
def fr_lets (ρ : Rho) (a1 : Int32) (a2 : Int32) : Option (Int32) := if a1 < 0 ∨ 10 ≤ (a1).toNatClampNeg then none else (if (ρ 8 (a1).toNatClampNeg) = (-1) then some ((ρ 1 0))
  else if a1 < 0 ∨ 10 ≤ (a1).toNatClampNeg then none else (fr_costToday ρ (a1)).bind fun o3 => (some (((ρ 8 (a1).toNatClampNeg) - o3))).bind fun x4 => (if 0 ≤ x4 then if a2 = 0 then none else some ((x4 / a2))
  else some (0)))
set_option maxRecDepth 100000 in
set_option maxHeartbeats 4000000 in
theorem br_lets {p : Program} {l : Launch} {e : Env} {s : State} {m : MethodId} {args : Array Value} {below : List Frame} {meth : Method} {c : Code} {D : va_G} {dA : Nat → ClassId} {A : Nat → Prop} {ad : Nat → Nat} {o : Int32} (X : zc p l s m args meth c cX12_lets RX12 D dA A) (hml : c.maxLocals = 4) (hr : meth.sig.returnType = (some .int)) {ρ : Rho} {a1 : Int32} {a2 : Int32} (h : fr_lets ρ a1 a2 = some o) : zz p l e ({ frames := 60, cells := 0, slots := 0, locals := 600 } : Room) s m args below meth c A (rw D dA A ρ ad) 0 0 (MQ below (va_Qi (fun r (_ : Unit) => r = o ∧ True) (fun _ t => rw D dA A ρ ad t.heap) A) args s 0 0 A) 0 [(0, .ref (ad 40)), (1, .int (a1)), (2, .int (a2))] [] [] := by
  unfold fr_lets at h
  refine z_aload_n X dX12_lets_0 rfl rfl ?_
  refine r_getA X 8 rfl rfl g_1314 dX12_lets_1 ?_
  refine z_iload_n X dX12_lets_4 rfl rfl ?_
  obtain ⟨q1, h⟩ := zg h
  refine r_ald X 8 rfl rfl q1 dX12_lets_5 ?_
  refine z_iconst (v := (-1)) X dX12_lets_6 (by decide) ?_
  refine z_icmp_ne (tgt := 15) X dX12_lets_7 (by decide) (fun q => ?_) (fun q => ?_)
  · have h := zp q h
    refine z_aload_n X dX12_lets_10 rfl rfl ?_
    refine r_getS X 1 rfl rfl g_1307 dX12_lets_11 ?_
    obtain rfl := Option.some.inj h
    exact z_iret X hr rfl (fun t hG hF _ => ⟨⟨_, (), rfl, ⟨rfl, trivial⟩, hG⟩, hF⟩) dX12_lets_14
  · have h := zn q h
    refine z_aload_n X dX12_lets_15 rfl rfl ?_
    refine r_getA X 8 rfl rfl g_1314 dX12_lets_16 ?_
    refine z_iload_n X dX12_lets_19 rfl rfl ?_
    obtain ⟨q2, h⟩ := zg h
    refine r_ald X 8 rfl rfl q2 dX12_lets_20 ?_
    refine z_aload_n X dX12_lets_21 rfl rfl ?_
    refine z_iload_n X dX12_lets_22 rfl rfl ?_
    obtain ⟨o3, co3, h⟩ := zb2 h
    refine z_callVi (As := [.int (a1)]) (rest := [.int ((ρ 8 (a1).toNatClampNeg))]) (nA := 1) (r0 := o3) (pu := fun (_ : Unit) => True) (G1 := fun _ => rw D dA A ρ ad) X (cr_costToday l X.2.2.2.2.2.2.2.2 X.2.2.2.2.2.2.1 co3) g_1563 g_1565 gs_39 g_15 g_1566 hd_yX12_costToday ⟨rfl, rfl, Nat.le_of_ble_eq_true rfl, Nat.le_of_ble_eq_true rfl⟩ rfl (fun _ hG => rw_recv X hG) rfl (Nat.le_of_ble_eq_true rfl) dX12_lets_23 ⟨Nat.le_refl _, Nat.le_refl _⟩ (fun _ _ => ?_)
    refine z_isub X dX12_lets_26 ?_
    obtain ⟨x4, ex4, h⟩ := zb h
    rw [ex4]
    refine z_istore_n (lo' := [(3, .int (x4)), (0, .ref (ad 40)), (1, .int (a1)), (2, .int (a2))]) X dX12_lets_27 rfl (by rw [hml]; decide) rfl rfl ?_
    refine z_iload_n X dX12_lets_28 rfl rfl ?_
    refine z_if_ge (tgt := 36) X dX12_lets_29 (by decide) (fun q => ?_) (fun q => ?_)
    · have h := zp q h
      refine z_iload_n X dX12_lets_36 rfl rfl ?_
      refine z_iload_n X dX12_lets_37 rfl rfl ?_
      obtain ⟨q5, h⟩ := zg h
      refine z_idiv X dX12_lets_38 q5 ?_
      obtain rfl := Option.some.inj h
      exact z_iret X hr rfl (fun t hG hF _ => ⟨⟨_, (), rfl, ⟨rfl, trivial⟩, hG⟩, hF⟩) dX12_lets_39
    · have h := zn q h
      refine z_iconst (v := 0) X dX12_lets_32 (by decide) ?_
      refine z_goto (tgt := 39) X dX12_lets_33 (by decide) ?_
      obtain rfl := Option.some.inj h
      exact z_iret X hr rfl (fun t hG hF _ => ⟨⟨_, (), rfl, ⟨rfl, trivial⟩, hG⟩, hF⟩) dX12_lets_39
theorem cr_lets (l : Launch) {D : va_G} {dA : Nat → ClassId} {A : Nat → Prop} {n : Nat} {ad : Nat → Nat} (hst : l.stackTraces = false) (hA : ∀ q, n ≤ q → A q) {ρ : Rho} {a1 : Int32} {a2 : Int32} {o : Int32} (h : fr_lets ρ a1 a2 = some o) : Met l yX12_lets (.code yX12_lets cX12_lets 4 (some .int) :: gT) ({ frames := 60, cells := 0, slots := 0, locals := 600 } : Room) (va_Pc [.ref (ad 40), .int a1, .int a2] (zB D dA A n (rw D dA A ρ ad))) (va_Qi (fun r (_ : Unit) => r = o ∧ True) (fun _ t => rw D dA A ρ ad t.heap) A) 0 0 A :=
  z_met (by decide) hA hst (Nat.le_of_ble_eq_true rfl) rfl rfl (fun p e s m below meth c X hml hr _ => br_lets X hml hr h)
-- giverTo(I)I
def fr_giverTo_115 (k4 : Rho → Int32 → Int32 → Int32 → Option (Int32)) (ρ : Rho) (v1 : Int32) (v3 : Int32) (s0 : Int32) : Option (Int32) := (some (v3 + 1)).bind fun x1 => k4 ρ v1 s0 x1
set_option maxRecDepth 100000 in
set_option maxHeartbeats 4000000 in
theorem br_giverTo_115 {p : Program} {l : Launch} {e : Env} {s : State} {m : MethodId} {args : Array Value} {below : List Frame} {meth : Method} {c : Code} {D : va_G} {dA : Nat → ClassId} {A : Nat → Prop} {ad : Nat → Nat} {o : Int32} (X : zc p l s m args meth c cX12_giverTo RX12 D dA A) (hml : c.maxLocals = 6) (hr : meth.sig.returnType = (some .int)) {k4 : Rho → Int32 → Int32 → Int32 → Option (Int32)} (hk4 : ∀ {ρ : Rho} {v1 : Int32} {v2 : Int32} {v3 : Int32}, k4 ρ v1 v2 v3 = some o → zz p l e ({ frames := 40, cells := 0, slots := 0, locals := 400 } : Room) s m args below meth c A (rw D dA A ρ ad) 0 0 (MQ below (va_Qi (fun r (_ : Unit) => r = o ∧ True) (fun _ t => rw D dA A ρ ad t.heap) A) args s 0 0 A) 4 [(0, .ref (ad 40)), (1, .int (v1)), (2, .int (v2)), (3, .int (v3))] [] []) {ρ : Rho} {v1 : Int32} {v3 : Int32} {s0 : Int32} (h : fr_giverTo_115 k4 ρ v1 v3 s0 = some o) : zz p l e ({ frames := 40, cells := 0, slots := 0, locals := 400 } : Room) s m args below meth c A (rw D dA A ρ ad) 0 0 (MQ below (va_Qi (fun r (_ : Unit) => r = o ∧ True) (fun _ t => rw D dA A ρ ad t.heap) A) args s 0 0 A) 115 [(0, .ref (ad 40)), (1, .int (v1)), (3, .int (v3))] [] [.int (s0)] := by
  unfold fr_giverTo_115 at h
  refine z_istore_n (lo' := [(2, .int (s0)), (0, .ref (ad 40)), (1, .int (v1)), (3, .int (v3))]) X dX12_giverTo_115 rfl (by rw [hml]; decide) rfl rfl ?_
  obtain ⟨x1, ex1, h⟩ := zb h
  refine z_iinc (v := x1) (lo' := [(3, .int (x1)), (2, .int (s0)), (0, .ref (ad 40)), (1, .int (v1))]) X dX12_giverTo_116 rfl ex1 (by rw [hml]; decide) rfl rfl ?_
  refine z_goto (tgt := 4) X dX12_giverTo_119 (by decide) ?_
  refine zz.pick (lo' := [(0, .ref (ad 40)), (1, .int (v1)), (2, .int (s0)), (3, .int (x1))]) [0, 1, 2, 3] rfl ?_
  exact hk4  h
def fr_giverTo_114 (k4 : Rho → Int32 → Int32 → Int32 → Option (Int32)) (ρ : Rho) (v1 : Int32) (v2 : Int32) (v3 : Int32) : Option (Int32) := fr_giverTo_115 k4 ρ v1 v3 v2
set_option maxRecDepth 100000 in
set_option maxHeartbeats 4000000 in
theorem br_giverTo_114 {p : Program} {l : Launch} {e : Env} {s : State} {m : MethodId} {args : Array Value} {below : List Frame} {meth : Method} {c : Code} {D : va_G} {dA : Nat → ClassId} {A : Nat → Prop} {ad : Nat → Nat} {o : Int32} (X : zc p l s m args meth c cX12_giverTo RX12 D dA A) (hml : c.maxLocals = 6) (hr : meth.sig.returnType = (some .int)) {k4 : Rho → Int32 → Int32 → Int32 → Option (Int32)} (hk4 : ∀ {ρ : Rho} {v1 : Int32} {v2 : Int32} {v3 : Int32}, k4 ρ v1 v2 v3 = some o → zz p l e ({ frames := 40, cells := 0, slots := 0, locals := 400 } : Room) s m args below meth c A (rw D dA A ρ ad) 0 0 (MQ below (va_Qi (fun r (_ : Unit) => r = o ∧ True) (fun _ t => rw D dA A ρ ad t.heap) A) args s 0 0 A) 4 [(0, .ref (ad 40)), (1, .int (v1)), (2, .int (v2)), (3, .int (v3))] [] []) {ρ : Rho} {v1 : Int32} {v2 : Int32} {v3 : Int32} (h : fr_giverTo_114 k4 ρ v1 v2 v3 = some o) : zz p l e ({ frames := 40, cells := 0, slots := 0, locals := 400 } : Room) s m args below meth c A (rw D dA A ρ ad) 0 0 (MQ below (va_Qi (fun r (_ : Unit) => r = o ∧ True) (fun _ t => rw D dA A ρ ad t.heap) A) args s 0 0 A) 114 [(0, .ref (ad 40)), (1, .int (v1)), (2, .int (v2)), (3, .int (v3))] [] [] := by
  unfold fr_giverTo_114 at h
  refine z_iload_n X dX12_giverTo_114 rfl rfl ?_
  refine zz.pick (lo' := [(0, .ref (ad 40)), (1, .int (v1)), (3, .int (v3))]) [0, 1, 3] rfl ?_
  exact br_giverTo_115 X hml hr hk4 h
def fr_giverTo_109 (k4 : Rho → Int32 → Int32 → Int32 → Option (Int32)) (ρ : Rho) (v1 : Int32) (v3 : Int32) (v4 : Int32) : Option (Int32) := fr_giverTo_115 k4 ρ v1 v3 v4
set_option maxRecDepth 100000 in
set_option maxHeartbeats 4000000 in
theorem br_giverTo_109 {p : Program} {l : Launch} {e : Env} {s : State} {m : MethodId} {args : Array Value} {below : List Frame} {meth : Method} {c : Code} {D : va_G} {dA : Nat → ClassId} {A : Nat → Prop} {ad : Nat → Nat} {o : Int32} (X : zc p l s m args meth c cX12_giverTo RX12 D dA A) (hml : c.maxLocals = 6) (hr : meth.sig.returnType = (some .int)) {k4 : Rho → Int32 → Int32 → Int32 → Option (Int32)} (hk4 : ∀ {ρ : Rho} {v1 : Int32} {v2 : Int32} {v3 : Int32}, k4 ρ v1 v2 v3 = some o → zz p l e ({ frames := 40, cells := 0, slots := 0, locals := 400 } : Room) s m args below meth c A (rw D dA A ρ ad) 0 0 (MQ below (va_Qi (fun r (_ : Unit) => r = o ∧ True) (fun _ t => rw D dA A ρ ad t.heap) A) args s 0 0 A) 4 [(0, .ref (ad 40)), (1, .int (v1)), (2, .int (v2)), (3, .int (v3))] [] []) {ρ : Rho} {v1 : Int32} {v3 : Int32} {v4 : Int32} (h : fr_giverTo_109 k4 ρ v1 v3 v4 = some o) : zz p l e ({ frames := 40, cells := 0, slots := 0, locals := 400 } : Room) s m args below meth c A (rw D dA A ρ ad) 0 0 (MQ below (va_Qi (fun r (_ : Unit) => r = o ∧ True) (fun _ t => rw D dA A ρ ad t.heap) A) args s 0 0 A) 109 [(0, .ref (ad 40)), (1, .int (v1)), (3, .int (v3)), (4, .int (v4))] [] [] := by
  unfold fr_giverTo_109 at h
  refine z_iload X dX12_giverTo_109 rfl ?_
  refine z_goto (tgt := 115) X dX12_giverTo_111 (by decide) ?_
  refine zz.pick (lo' := [(0, .ref (ad 40)), (1, .int (v1)), (3, .int (v3))]) [0, 1, 3] rfl ?_
  exact br_giverTo_115 X hml hr hk4 h
def fr_giverTo_83 (k4 : Rho → Int32 → Int32 → Int32 → Option (Int32)) (ρ : Rho) (v1 : Int32) (v2 : Int32) (v3 : Int32) (v4 : Int32) (s0 : Int32) : Option (Int32) := (if s0 = 0 then fr_giverTo_114 k4 ρ v1 v2 v3
  else (if v2 = (-1) then fr_giverTo_109 k4 ρ v1 v3 v4
  else (fr_moneyIn ρ (v4)).bind fun o1 => (fr_moneyIn ρ (v2)).bind fun o2 => (if o1 ≤ o2 then fr_giverTo_114 k4 ρ v1 v2 v3
  else fr_giverTo_109 k4 ρ v1 v3 v4)))
set_option maxRecDepth 100000 in
set_option maxHeartbeats 4000000 in
theorem br_giverTo_83 {p : Program} {l : Launch} {e : Env} {s : State} {m : MethodId} {args : Array Value} {below : List Frame} {meth : Method} {c : Code} {D : va_G} {dA : Nat → ClassId} {A : Nat → Prop} {ad : Nat → Nat} {o : Int32} (X : zc p l s m args meth c cX12_giverTo RX12 D dA A) (hml : c.maxLocals = 6) (hr : meth.sig.returnType = (some .int)) {k4 : Rho → Int32 → Int32 → Int32 → Option (Int32)} (hk4 : ∀ {ρ : Rho} {v1 : Int32} {v2 : Int32} {v3 : Int32}, k4 ρ v1 v2 v3 = some o → zz p l e ({ frames := 40, cells := 0, slots := 0, locals := 400 } : Room) s m args below meth c A (rw D dA A ρ ad) 0 0 (MQ below (va_Qi (fun r (_ : Unit) => r = o ∧ True) (fun _ t => rw D dA A ρ ad t.heap) A) args s 0 0 A) 4 [(0, .ref (ad 40)), (1, .int (v1)), (2, .int (v2)), (3, .int (v3))] [] []) {ρ : Rho} {v1 : Int32} {v2 : Int32} {v3 : Int32} {v4 : Int32} {s0 : Int32} (h : fr_giverTo_83 k4 ρ v1 v2 v3 v4 s0 = some o) : zz p l e ({ frames := 40, cells := 0, slots := 0, locals := 400 } : Room) s m args below meth c A (rw D dA A ρ ad) 0 0 (MQ below (va_Qi (fun r (_ : Unit) => r = o ∧ True) (fun _ t => rw D dA A ρ ad t.heap) A) args s 0 0 A) 83 [(0, .ref (ad 40)), (1, .int (v1)), (2, .int (v2)), (3, .int (v3)), (4, .int (v4))] [] [.int (s0)] := by
  unfold fr_giverTo_83 at h
  refine z_istore (lo' := [(5, .int (s0)), (0, .ref (ad 40)), (1, .int (v1)), (2, .int (v2)), (3, .int (v3)), (4, .int (v4))]) X dX12_giverTo_83 (by rw [hml]; decide) rfl rfl ?_
  refine z_iload X dX12_giverTo_85 rfl ?_
  refine z_if_eq (tgt := 114) X dX12_giverTo_87 (by decide) (fun q => ?_) (fun q => ?_)
  · have h := zp q h
    refine zz.pick (lo' := [(0, .ref (ad 40)), (1, .int (v1)), (2, .int (v2)), (3, .int (v3))]) [0, 1, 2, 3] rfl ?_
    exact br_giverTo_114 X hml hr hk4 h
  · have h := zn q h
    refine z_iload_n X dX12_giverTo_90 rfl rfl ?_
    refine z_iconst (v := (-1)) X dX12_giverTo_91 (by decide) ?_
    refine z_icmp_eq (tgt := 109) X dX12_giverTo_92 (by decide) (fun q => ?_) (fun q => ?_)
    · have h := zp q h
      refine zz.pick (lo' := [(0, .ref (ad 40)), (1, .int (v1)), (3, .int (v3)), (4, .int (v4))]) [0, 1, 3, 4] rfl ?_
      exact br_giverTo_109 X hml hr hk4 h
    · have h := zn q h
      refine z_aload_n X dX12_giverTo_95 rfl rfl ?_
      refine z_iload X dX12_giverTo_96 rfl ?_
      obtain ⟨o1, co1, h⟩ := zb2 h
      refine z_callVi (As := [.int (v4)]) (rest := []) (nA := 1) (r0 := o1) (pu := fun (_ : Unit) => True) (G1 := fun _ => rw D dA A ρ ad) X (cr_moneyIn l X.2.2.2.2.2.2.2.2 X.2.2.2.2.2.2.1 co1) g_1504 g_1506 gs_28 g_15 g_1507 hd_yX12_moneyIn ⟨rfl, rfl, Nat.le_of_ble_eq_true rfl, Nat.le_of_ble_eq_true rfl⟩ rfl (fun _ hG => rw_recv X hG) rfl (Nat.le_of_ble_eq_true rfl) dX12_giverTo_98 ⟨Nat.le_refl _, Nat.le_refl _⟩ (fun _ _ => ?_)
      refine z_aload_n X dX12_giverTo_101 rfl rfl ?_
      refine z_iload_n X dX12_giverTo_102 rfl rfl ?_
      obtain ⟨o2, co2, h⟩ := zb2 h
      refine z_callVi (As := [.int (v2)]) (rest := [.int (o1)]) (nA := 1) (r0 := o2) (pu := fun (_ : Unit) => True) (G1 := fun _ => rw D dA A ρ ad) X (cr_moneyIn l X.2.2.2.2.2.2.2.2 X.2.2.2.2.2.2.1 co2) g_1504 g_1506 gs_28 g_15 g_1507 hd_yX12_moneyIn ⟨rfl, rfl, Nat.le_of_ble_eq_true rfl, Nat.le_of_ble_eq_true rfl⟩ rfl (fun _ hG => rw_recv X hG) rfl (Nat.le_of_ble_eq_true rfl) dX12_giverTo_103 ⟨Nat.le_refl _, Nat.le_refl _⟩ (fun _ _ => ?_)
      refine z_icmp_le (tgt := 114) X dX12_giverTo_106 (by decide) (fun q => ?_) (fun q => ?_)
      · have h := zp q h
        refine zz.pick (lo' := [(0, .ref (ad 40)), (1, .int (v1)), (2, .int (v2)), (3, .int (v3))]) [0, 1, 2, 3] rfl ?_
        exact br_giverTo_114 X hml hr hk4 h
      · have h := zn q h
        refine zz.pick (lo' := [(0, .ref (ad 40)), (1, .int (v1)), (3, .int (v3)), (4, .int (v4))]) [0, 1, 3, 4] rfl ?_
        exact br_giverTo_109 X hml hr hk4 h
def fr_giverTo_82 (k4 : Rho → Int32 → Int32 → Int32 → Option (Int32)) (ρ : Rho) (v1 : Int32) (v2 : Int32) (v3 : Int32) (v4 : Int32) : Option (Int32) := fr_giverTo_83 k4 ρ v1 v2 v3 v4 0
set_option maxRecDepth 100000 in
set_option maxHeartbeats 4000000 in
theorem br_giverTo_82 {p : Program} {l : Launch} {e : Env} {s : State} {m : MethodId} {args : Array Value} {below : List Frame} {meth : Method} {c : Code} {D : va_G} {dA : Nat → ClassId} {A : Nat → Prop} {ad : Nat → Nat} {o : Int32} (X : zc p l s m args meth c cX12_giverTo RX12 D dA A) (hml : c.maxLocals = 6) (hr : meth.sig.returnType = (some .int)) {k4 : Rho → Int32 → Int32 → Int32 → Option (Int32)} (hk4 : ∀ {ρ : Rho} {v1 : Int32} {v2 : Int32} {v3 : Int32}, k4 ρ v1 v2 v3 = some o → zz p l e ({ frames := 40, cells := 0, slots := 0, locals := 400 } : Room) s m args below meth c A (rw D dA A ρ ad) 0 0 (MQ below (va_Qi (fun r (_ : Unit) => r = o ∧ True) (fun _ t => rw D dA A ρ ad t.heap) A) args s 0 0 A) 4 [(0, .ref (ad 40)), (1, .int (v1)), (2, .int (v2)), (3, .int (v3))] [] []) {ρ : Rho} {v1 : Int32} {v2 : Int32} {v3 : Int32} {v4 : Int32} (h : fr_giverTo_82 k4 ρ v1 v2 v3 v4 = some o) : zz p l e ({ frames := 40, cells := 0, slots := 0, locals := 400 } : Room) s m args below meth c A (rw D dA A ρ ad) 0 0 (MQ below (va_Qi (fun r (_ : Unit) => r = o ∧ True) (fun _ t => rw D dA A ρ ad t.heap) A) args s 0 0 A) 82 [(0, .ref (ad 40)), (1, .int (v1)), (2, .int (v2)), (3, .int (v3)), (4, .int (v4))] [] [] := by
  unfold fr_giverTo_82 at h
  refine z_iconst (v := 0) X dX12_giverTo_82 (by decide) ?_
  refine zz.pick (lo' := [(0, .ref (ad 40)), (1, .int (v1)), (2, .int (v2)), (3, .int (v3)), (4, .int (v4))]) [0, 1, 2, 3, 4] rfl ?_
  exact br_giverTo_83 X hml hr hk4 h
def fr_giverTo_4 : Nat → Rho → Int32 → Int32 → Int32 → Option (Int32)
  | 0, _, _, _, _ => none
  | n + 1, ρ, v1, v2, v3 => (if 10 ≤ v3 then some (v2)
  else if v3 < 0 ∨ 10 ≤ (v3).toNatClampNeg then none else (some ((ρ 9 (v3).toNatClampNeg))).bind fun x2 => (if x2 = (-1) then fr_giverTo_82 (fr_giverTo_4 n) ρ v1 v2 v3 x2
  else (if x2 = v1 then fr_giverTo_82 (fr_giverTo_4 n) ρ v1 v2 v3 x2
  else if x2 < 0 ∨ 80 ≤ (x2).toNatClampNeg then none else if v1 < 0 ∨ 80 ≤ (v1).toNatClampNeg then none else (if (ρ 25 (x2).toNatClampNeg) = (ρ 25 (v1).toNatClampNeg) then if x2 < 0 ∨ 80 ≤ (x2).toNatClampNeg then none else (if (ρ 33 (x2).toNatClampNeg) = (-1) then if x2 < 0 ∨ 80 ≤ (x2).toNatClampNeg then none else (if (ρ 35 (x2).toNatClampNeg) ≤ 0 then fr_giverTo_82 (fr_giverTo_4 n) ρ v1 v2 v3 x2
  else if x2 < 0 ∨ 80 ≤ (x2).toNatClampNeg then none else (if (ρ 34 (x2).toNatClampNeg) < 2 then fr_giverTo_82 (fr_giverTo_4 n) ρ v1 v2 v3 x2
  else fr_giverTo_83 (fr_giverTo_4 n) ρ v1 v2 v3 x2 1))
  else fr_giverTo_82 (fr_giverTo_4 n) ρ v1 v2 v3 x2)
  else fr_giverTo_82 (fr_giverTo_4 n) ρ v1 v2 v3 x2))))
set_option maxRecDepth 100000 in
set_option maxHeartbeats 4000000 in
theorem br_giverTo_4 {p : Program} {l : Launch} {e : Env} {s : State} {m : MethodId} {args : Array Value} {below : List Frame} {meth : Method} {c : Code} {D : va_G} {dA : Nat → ClassId} {A : Nat → Prop} {ad : Nat → Nat} {o : Int32} (X : zc p l s m args meth c cX12_giverTo RX12 D dA A) (hml : c.maxLocals = 6) (hr : meth.sig.returnType = (some .int)) : ∀ (n : Nat) {ρ : Rho} {v1 : Int32} {v2 : Int32} {v3 : Int32}, fr_giverTo_4  n ρ v1 v2 v3 = some o → zz p l e ({ frames := 40, cells := 0, slots := 0, locals := 400 } : Room) s m args below meth c A (rw D dA A ρ ad) 0 0 (MQ below (va_Qi (fun r (_ : Unit) => r = o ∧ True) (fun _ t => rw D dA A ρ ad t.heap) A) args s 0 0 A) 4 [(0, .ref (ad 40)), (1, .int (v1)), (2, .int (v2)), (3, .int (v3))] [] [] := by
  intro n
  induction n with
  | zero => intro ρ v1 v2 v3 h; exact (nomatch (show none = some o from h))
  | succ n ih =>
    intro ρ v1 v2 v3 h
    rw [fr_giverTo_4] at h
    refine z_iload_n X dX12_giverTo_4 rfl rfl ?_
    refine z_bipush (v := 10) X dX12_giverTo_5 (by decide) ?_
    refine z_icmp_ge (tgt := 122) X dX12_giverTo_7 (by decide) (fun q => ?_) (fun q => ?_)
    · have h := zp q h
      refine z_iload_n X dX12_giverTo_122 rfl rfl ?_
      obtain rfl := Option.some.inj h
      exact z_iret X hr rfl (fun t hG hF _ => ⟨⟨_, (), rfl, ⟨rfl, trivial⟩, hG⟩, hF⟩) dX12_giverTo_123
    · have h := zn q h
      refine z_aload_n X dX12_giverTo_10 rfl rfl ?_
      refine r_getA X 9 rfl rfl g_1315 dX12_giverTo_11 ?_
      refine z_iload_n X dX12_giverTo_14 rfl rfl ?_
      obtain ⟨q1, h⟩ := zg h
      refine r_ald X 9 rfl rfl q1 dX12_giverTo_15 ?_
      obtain ⟨x2, ex2, h⟩ := zb h
      rw [ex2]
      refine z_istore (lo' := [(4, .int (x2)), (0, .ref (ad 40)), (1, .int (v1)), (2, .int (v2)), (3, .int (v3))]) X dX12_giverTo_16 (by rw [hml]; decide) rfl rfl ?_
      refine z_iload X dX12_giverTo_18 rfl ?_
      refine z_iconst (v := (-1)) X dX12_giverTo_20 (by decide) ?_
      refine z_icmp_eq (tgt := 82) X dX12_giverTo_21 (by decide) (fun q => ?_) (fun q => ?_)
      · have h := zp q h
        refine zz.pick (lo' := [(0, .ref (ad 40)), (1, .int (v1)), (2, .int (v2)), (3, .int (v3)), (4, .int (x2))]) [0, 1, 2, 3, 4] rfl ?_
        exact br_giverTo_82 X hml hr ih h
      · have h := zn q h
        refine z_iload X dX12_giverTo_24 rfl ?_
        refine z_iload_n X dX12_giverTo_26 rfl rfl ?_
        refine z_icmp_eq (tgt := 82) X dX12_giverTo_27 (by decide) (fun q => ?_) (fun q => ?_)
        · have h := zp q h
          refine zz.pick (lo' := [(0, .ref (ad 40)), (1, .int (v1)), (2, .int (v2)), (3, .int (v3)), (4, .int (x2))]) [0, 1, 2, 3, 4] rfl ?_
          exact br_giverTo_82 X hml hr ih h
        · have h := zn q h
          refine z_aload_n X dX12_giverTo_30 rfl rfl ?_
          refine r_getA X 25 rfl rfl g_1331 dX12_giverTo_31 ?_
          refine z_iload X dX12_giverTo_34 rfl ?_
          obtain ⟨q3, h⟩ := zg h
          refine r_ald X 25 rfl rfl q3 dX12_giverTo_36 ?_
          refine z_aload_n X dX12_giverTo_37 rfl rfl ?_
          refine r_getA X 25 rfl rfl g_1331 dX12_giverTo_38 ?_
          refine z_iload_n X dX12_giverTo_41 rfl rfl ?_
          obtain ⟨q4, h⟩ := zg h
          refine r_ald X 25 rfl rfl q4 dX12_giverTo_42 ?_
          refine z_icmp_ne (tgt := 82) X dX12_giverTo_43 (by decide) (fun q => ?_) (fun q => ?_)
          · have h := zp q h
            refine z_aload_n X dX12_giverTo_46 rfl rfl ?_
            refine r_getA X 33 rfl rfl g_1339 dX12_giverTo_47 ?_
            refine z_iload X dX12_giverTo_50 rfl ?_
            obtain ⟨q5, h⟩ := zg h
            refine r_ald X 33 rfl rfl q5 dX12_giverTo_52 ?_
            refine z_iconst (v := (-1)) X dX12_giverTo_53 (by decide) ?_
            refine z_icmp_ne (tgt := 82) X dX12_giverTo_54 (by decide) (fun q => ?_) (fun q => ?_)
            · have h := zp q h
              refine z_aload_n X dX12_giverTo_57 rfl rfl ?_
              refine r_getA X 35 rfl rfl g_1341 dX12_giverTo_58 ?_
              refine z_iload X dX12_giverTo_61 rfl ?_
              obtain ⟨q6, h⟩ := zg h
              refine r_ald X 35 rfl rfl q6 dX12_giverTo_63 ?_
              refine z_if_le (tgt := 82) X dX12_giverTo_64 (by decide) (fun q => ?_) (fun q => ?_)
              · have h := zp q h
                refine zz.pick (lo' := [(0, .ref (ad 40)), (1, .int (v1)), (2, .int (v2)), (3, .int (v3)), (4, .int (x2))]) [0, 1, 2, 3, 4] rfl ?_
                exact br_giverTo_82 X hml hr ih h
              · have h := zn q h
                refine z_aload_n X dX12_giverTo_67 rfl rfl ?_
                refine r_getA X 34 rfl rfl g_1340 dX12_giverTo_68 ?_
                refine z_iload X dX12_giverTo_71 rfl ?_
                obtain ⟨q7, h⟩ := zg h
                refine r_ald X 34 rfl rfl q7 dX12_giverTo_73 ?_
                refine z_iconst (v := 2) X dX12_giverTo_74 (by decide) ?_
                refine z_icmp_lt (tgt := 82) X dX12_giverTo_75 (by decide) (fun q => ?_) (fun q => ?_)
                · have h := zp q h
                  refine zz.pick (lo' := [(0, .ref (ad 40)), (1, .int (v1)), (2, .int (v2)), (3, .int (v3)), (4, .int (x2))]) [0, 1, 2, 3, 4] rfl ?_
                  exact br_giverTo_82 X hml hr ih h
                · have h := zn q h
                  refine z_iconst (v := 1) X dX12_giverTo_78 (by decide) ?_
                  refine z_goto (tgt := 83) X dX12_giverTo_79 (by decide) ?_
                  refine zz.pick (lo' := [(0, .ref (ad 40)), (1, .int (v1)), (2, .int (v2)), (3, .int (v3)), (4, .int (x2))]) [0, 1, 2, 3, 4] rfl ?_
                  exact br_giverTo_83 X hml hr ih h
            · have h := zn q h
              refine zz.pick (lo' := [(0, .ref (ad 40)), (1, .int (v1)), (2, .int (v2)), (3, .int (v3)), (4, .int (x2))]) [0, 1, 2, 3, 4] rfl ?_
              exact br_giverTo_82 X hml hr ih h
          · have h := zn q h
            refine zz.pick (lo' := [(0, .ref (ad 40)), (1, .int (v1)), (2, .int (v2)), (3, .int (v3)), (4, .int (x2))]) [0, 1, 2, 3, 4] rfl ?_
            exact br_giverTo_82 X hml hr ih h
def fr_giverTo (ρ : Rho) (a1 : Int32) : Option (Int32) := fr_giverTo_4 FU ρ a1 (-1) 0
set_option maxRecDepth 100000 in
set_option maxHeartbeats 4000000 in
theorem br_giverTo {p : Program} {l : Launch} {e : Env} {s : State} {m : MethodId} {args : Array Value} {below : List Frame} {meth : Method} {c : Code} {D : va_G} {dA : Nat → ClassId} {A : Nat → Prop} {ad : Nat → Nat} {o : Int32} (X : zc p l s m args meth c cX12_giverTo RX12 D dA A) (hml : c.maxLocals = 6) (hr : meth.sig.returnType = (some .int)) {ρ : Rho} {a1 : Int32} (h : fr_giverTo ρ a1 = some o) : zz p l e ({ frames := 40, cells := 0, slots := 0, locals := 400 } : Room) s m args below meth c A (rw D dA A ρ ad) 0 0 (MQ below (va_Qi (fun r (_ : Unit) => r = o ∧ True) (fun _ t => rw D dA A ρ ad t.heap) A) args s 0 0 A) 0 [(0, .ref (ad 40)), (1, .int (a1))] [] [] := by
  unfold fr_giverTo at h
  refine z_iconst (v := (-1)) X dX12_giverTo_0 (by decide) ?_
  refine z_istore_n (lo' := [(2, .int ((-1))), (0, .ref (ad 40)), (1, .int (a1))]) X dX12_giverTo_1 rfl (by rw [hml]; decide) rfl rfl ?_
  refine z_iconst (v := 0) X dX12_giverTo_2 (by decide) ?_
  refine z_istore_n (lo' := [(3, .int (0)), (2, .int ((-1))), (0, .ref (ad 40)), (1, .int (a1))]) X dX12_giverTo_3 rfl (by rw [hml]; decide) rfl rfl ?_
  refine zz.pick (lo' := [(0, .ref (ad 40)), (1, .int (a1)), (2, .int ((-1))), (3, .int (0))]) [0, 1, 2, 3] rfl ?_
  exact br_giverTo_4 X hml hr FU h
theorem cr_giverTo (l : Launch) {D : va_G} {dA : Nat → ClassId} {A : Nat → Prop} {n : Nat} {ad : Nat → Nat} (hst : l.stackTraces = false) (hA : ∀ q, n ≤ q → A q) {ρ : Rho} {a1 : Int32} {o : Int32} (h : fr_giverTo ρ a1 = some o) : Met l yX12_giverTo (.code yX12_giverTo cX12_giverTo 6 (some .int) :: gT) ({ frames := 40, cells := 0, slots := 0, locals := 400 } : Room) (va_Pc [.ref (ad 40), .int a1] (zB D dA A n (rw D dA A ρ ad))) (va_Qi (fun r (_ : Unit) => r = o ∧ True) (fun _ t => rw D dA A ρ ad t.heap) A) 0 0 A :=
  z_met (by decide) hA hst (Nat.le_of_ble_eq_true rfl) rfl rfl (fun p e s m below meth c X hml hr _ => br_giverTo X hml hr h)
-- moneyFor(I)I
def fr_moneyFor_159 (ρ : Rho) (v1 : Int32) (v2 : Int32) (s0 : Int32) : Option (Rho × Int32) := if v1 < 0 ∨ 80 ≤ (v1).toNatClampNeg then none else if (ρ 25 (v1).toNatClampNeg) < 0 ∨ 4 ≤ ((ρ 25 (v1).toNatClampNeg)).toNatClampNeg then none else if (ρ 25 (v1).toNatClampNeg) < 0 ∨ 4 ≤ ((ρ 25 (v1).toNatClampNeg)).toNatClampNeg then none else (some (cs ρ 12 ((ρ 25 (v1).toNatClampNeg)).toNatClampNeg (((ρ 12 ((ρ 25 (v1).toNatClampNeg)).toNatClampNeg) - (s0 * v2))))).bind fun ρ3 => some (ρ3, s0)
set_option maxRecDepth 100000 in
set_option maxHeartbeats 4000000 in
theorem br_moneyFor_159 {p : Program} {l : Launch} {e : Env} {s : State} {m : MethodId} {args : Array Value} {below : List Frame} {meth : Method} {c : Code} {D : va_G} {dA : Nat → ClassId} {A : Nat → Prop} {ad : Nat → Nat} {o : Rho × Int32} (X : zc p l s m args meth c cX12_moneyFor RX12 D dA A) (hml : c.maxLocals = 7) (hr : meth.sig.returnType = (some .int)) {ρ : Rho} {v1 : Int32} {v2 : Int32} {s0 : Int32} (h : fr_moneyFor_159 ρ v1 v2 s0 = some o) : zz p l e ({ frames := 80, cells := 0, slots := 0, locals := 800 } : Room) s m args below meth c A (rw D dA A ρ ad) 0 0 (MQ below (va_Qi (fun r (_ : Unit) => r = o.2 ∧ True) (fun _ t => rw D dA A o.1 ad t.heap) A) args s 0 0 A) 159 [(0, .ref (ad 40)), (1, .int (v1)), (2, .int (v2))] [] [.int (s0)] := by
  unfold fr_moneyFor_159 at h
  refine z_istore (lo' := [(6, .int (s0)), (0, .ref (ad 40)), (1, .int (v1)), (2, .int (v2))]) X dX12_moneyFor_159 (by rw [hml]; decide) rfl rfl ?_
  refine z_aload_n X dX12_moneyFor_161 rfl rfl ?_
  refine r_getA X 12 rfl rfl g_1318 dX12_moneyFor_162 ?_
  refine z_aload_n X dX12_moneyFor_165 rfl rfl ?_
  refine r_getA X 25 rfl rfl g_1331 dX12_moneyFor_166 ?_
  refine z_iload_n X dX12_moneyFor_169 rfl rfl ?_
  obtain ⟨q1, h⟩ := zg h
  refine r_ald X 25 rfl rfl q1 dX12_moneyFor_170 ?_
  refine z_dup2 X dX12_moneyFor_171 rfl rfl ?_
  obtain ⟨q2, h⟩ := zg h
  refine r_ald X 12 rfl rfl q2 dX12_moneyFor_172 ?_
  refine z_iload X dX12_moneyFor_173 rfl ?_
  refine z_iload_n X dX12_moneyFor_175 rfl rfl ?_
  refine z_imul X dX12_moneyFor_176 ?_
  refine z_isub X dX12_moneyFor_177 ?_
  obtain ⟨q4, h⟩ := zg h
  obtain ⟨ρ3, eρ3, h⟩ := zb h
  refine r_ast X 12 rfl rfl q4 eρ3 dX12_moneyFor_178 ?_
  refine z_iload X dX12_moneyFor_179 rfl ?_
  obtain rfl := Option.some.inj h
  exact z_iret X hr rfl (fun t hG hF _ => ⟨⟨_, (), rfl, ⟨rfl, trivial⟩, hG⟩, hF⟩) dX12_moneyFor_181
def fr_moneyFor_145 (ρ : Rho) (v1 : Int32) (v2 : Int32) (v3 : Int32) (s0 : Int32) : Option (Rho × Int32) := (if s0 ≤ v3 then fr_moneyFor_159 ρ v1 v2 s0
  else fr_moneyFor_159 ρ v1 v2 v3)
set_option maxRecDepth 100000 in
set_option maxHeartbeats 4000000 in
theorem br_moneyFor_145 {p : Program} {l : Launch} {e : Env} {s : State} {m : MethodId} {args : Array Value} {below : List Frame} {meth : Method} {c : Code} {D : va_G} {dA : Nat → ClassId} {A : Nat → Prop} {ad : Nat → Nat} {o : Rho × Int32} (X : zc p l s m args meth c cX12_moneyFor RX12 D dA A) (hml : c.maxLocals = 7) (hr : meth.sig.returnType = (some .int)) {ρ : Rho} {v1 : Int32} {v2 : Int32} {v3 : Int32} {s0 : Int32} (h : fr_moneyFor_145 ρ v1 v2 v3 s0 = some o) : zz p l e ({ frames := 80, cells := 0, slots := 0, locals := 800 } : Room) s m args below meth c A (rw D dA A ρ ad) 0 0 (MQ below (va_Qi (fun r (_ : Unit) => r = o.2 ∧ True) (fun _ t => rw D dA A o.1 ad t.heap) A) args s 0 0 A) 145 [(0, .ref (ad 40)), (1, .int (v1)), (2, .int (v2)), (3, .int (v3))] [] [.int (s0)] := by
  unfold fr_moneyFor_145 at h
  refine z_istore (lo' := [(6, .int (s0)), (0, .ref (ad 40)), (1, .int (v1)), (2, .int (v2)), (3, .int (v3))]) X dX12_moneyFor_145 (by rw [hml]; decide) rfl rfl ?_
  refine z_iload_n X dX12_moneyFor_147 rfl rfl ?_
  refine z_iload X dX12_moneyFor_148 rfl ?_
  refine z_icmp_ge (tgt := 157) X dX12_moneyFor_150 (by decide) (fun q => ?_) (fun q => ?_)
  · have h := zp q h
    refine z_iload X dX12_moneyFor_157 rfl ?_
    refine zz.pick (lo' := [(0, .ref (ad 40)), (1, .int (v1)), (2, .int (v2))]) [0, 1, 2] rfl ?_
    exact br_moneyFor_159 X hml hr h
  · have h := zn q h
    refine z_iload_n X dX12_moneyFor_153 rfl rfl ?_
    refine z_goto (tgt := 159) X dX12_moneyFor_154 (by decide) ?_
    refine zz.pick (lo' := [(0, .ref (ad 40)), (1, .int (v1)), (2, .int (v2))]) [0, 1, 2] rfl ?_
    exact br_moneyFor_159 X hml hr h
def fr_moneyFor_107 (k62 : Rho → Int32 → Int32 → Int32 → Int32 → Option (Rho × Int32)) (ρ : Rho) (v1 : Int32) (v2 : Int32) (v3 : Int32) (s0 : Int32) : Option (Rho × Int32) := k62 ρ v1 v2 v3 s0
set_option maxRecDepth 100000 in
set_option maxHeartbeats 4000000 in
theorem br_moneyFor_107 {p : Program} {l : Launch} {e : Env} {s : State} {m : MethodId} {args : Array Value} {below : List Frame} {meth : Method} {c : Code} {D : va_G} {dA : Nat → ClassId} {A : Nat → Prop} {ad : Nat → Nat} {o : Rho × Int32} (X : zc p l s m args meth c cX12_moneyFor RX12 D dA A) (hml : c.maxLocals = 7) (hr : meth.sig.returnType = (some .int)) {k62 : Rho → Int32 → Int32 → Int32 → Int32 → Option (Rho × Int32)} (hk62 : ∀ {ρ : Rho} {v1 : Int32} {v2 : Int32} {v3 : Int32} {v4 : Int32}, k62 ρ v1 v2 v3 v4 = some o → zz p l e ({ frames := 80, cells := 0, slots := 0, locals := 800 } : Room) s m args below meth c A (rw D dA A ρ ad) 0 0 (MQ below (va_Qi (fun r (_ : Unit) => r = o.2 ∧ True) (fun _ t => rw D dA A o.1 ad t.heap) A) args s 0 0 A) 62 [(0, .ref (ad 40)), (1, .int (v1)), (2, .int (v2)), (3, .int (v3)), (4, .int (v4))] [] []) {ρ : Rho} {v1 : Int32} {v2 : Int32} {v3 : Int32} {s0 : Int32} (h : fr_moneyFor_107 k62 ρ v1 v2 v3 s0 = some o) : zz p l e ({ frames := 80, cells := 0, slots := 0, locals := 800 } : Room) s m args below meth c A (rw D dA A ρ ad) 0 0 (MQ below (va_Qi (fun r (_ : Unit) => r = o.2 ∧ True) (fun _ t => rw D dA A o.1 ad t.heap) A) args s 0 0 A) 107 [(0, .ref (ad 40)), (1, .int (v1)), (2, .int (v2)), (3, .int (v3))] [] [.int (s0)] := by
  unfold fr_moneyFor_107 at h
  refine z_istore (lo' := [(4, .int (s0)), (0, .ref (ad 40)), (1, .int (v1)), (2, .int (v2)), (3, .int (v3))]) X dX12_moneyFor_107 (by rw [hml]; decide) rfl rfl ?_
  refine z_goto (tgt := 62) X dX12_moneyFor_109 (by decide) ?_
  refine zz.pick (lo' := [(0, .ref (ad 40)), (1, .int (v1)), (2, .int (v2)), (3, .int (v3)), (4, .int (s0))]) [0, 1, 2, 3, 4] rfl ?_
  exact hk62  h
def fr_moneyFor_62 : Nat → Rho → Int32 → Int32 → Int32 → Int32 → Option (Rho × Int32)
  | 0, _, _, _, _, _ => none
  | n + 1, ρ, v1, v2, v3, v4 => (if v4 = (-1) then if v1 < 0 ∨ 80 ≤ (v1).toNatClampNeg then none else if (ρ 25 (v1).toNatClampNeg) < 0 ∨ 4 ≤ ((ρ 25 (v1).toNatClampNeg)).toNatClampNeg then none else if v2 = 0 then none else (some (((ρ 12 ((ρ 25 (v1).toNatClampNeg)).toNatClampNeg) / v2))).bind fun x4 => (if (ρ 1 0) ≤ x4 then fr_moneyFor_145 ρ v1 v2 v3 (ρ 1 0)
  else fr_moneyFor_145 ρ v1 v2 v3 x4)
  else if v4 < 0 ∨ 80 ≤ (v4).toNatClampNeg then none else (fr_goesBack ρ (v4) (((ρ 34 (v4).toNatClampNeg) / 2))).bind fun o6 => if v1 < 0 ∨ 80 ≤ (v1).toNatClampNeg then none else if (o6 25 (v1).toNatClampNeg) < 0 ∨ 4 ≤ ((o6 25 (v1).toNatClampNeg)).toNatClampNeg then none else (if v2 ≤ (o6 12 ((o6 25 (v1).toNatClampNeg)).toNatClampNeg) then fr_moneyFor_107 (fr_moneyFor_62 n) o6 v1 v2 v3 (-1)
  else (fr_giverTo o6 (v1)).bind fun o9 => fr_moneyFor_107 (fr_moneyFor_62 n) o6 v1 v2 v3 o9))
set_option maxRecDepth 100000 in
set_option maxHeartbeats 4000000 in
theorem br_moneyFor_62 {p : Program} {l : Launch} {e : Env} {s : State} {m : MethodId} {args : Array Value} {below : List Frame} {meth : Method} {c : Code} {D : va_G} {dA : Nat → ClassId} {A : Nat → Prop} {ad : Nat → Nat} {o : Rho × Int32} (X : zc p l s m args meth c cX12_moneyFor RX12 D dA A) (hml : c.maxLocals = 7) (hr : meth.sig.returnType = (some .int)) : ∀ (n : Nat) {ρ : Rho} {v1 : Int32} {v2 : Int32} {v3 : Int32} {v4 : Int32}, fr_moneyFor_62  n ρ v1 v2 v3 v4 = some o → zz p l e ({ frames := 80, cells := 0, slots := 0, locals := 800 } : Room) s m args below meth c A (rw D dA A ρ ad) 0 0 (MQ below (va_Qi (fun r (_ : Unit) => r = o.2 ∧ True) (fun _ t => rw D dA A o.1 ad t.heap) A) args s 0 0 A) 62 [(0, .ref (ad 40)), (1, .int (v1)), (2, .int (v2)), (3, .int (v3)), (4, .int (v4))] [] [] := by
  intro n
  induction n with
  | zero => intro ρ v1 v2 v3 v4 h; exact (nomatch (show none = some o from h))
  | succ n ih =>
    intro ρ v1 v2 v3 v4 h
    rw [fr_moneyFor_62] at h
    refine z_iload X dX12_moneyFor_62 rfl ?_
    refine z_iconst (v := (-1)) X dX12_moneyFor_64 (by decide) ?_
    refine z_icmp_eq (tgt := 112) X dX12_moneyFor_65 (by decide) (fun q => ?_) (fun q => ?_)
    · have h := zp q h
      refine z_aload_n X dX12_moneyFor_112 rfl rfl ?_
      refine r_getA X 12 rfl rfl g_1318 dX12_moneyFor_113 ?_
      refine z_aload_n X dX12_moneyFor_116 rfl rfl ?_
      refine r_getA X 25 rfl rfl g_1331 dX12_moneyFor_117 ?_
      refine z_iload_n X dX12_moneyFor_120 rfl rfl ?_
      obtain ⟨q1, h⟩ := zg h
      refine r_ald X 25 rfl rfl q1 dX12_moneyFor_121 ?_
      obtain ⟨q2, h⟩ := zg h
      refine r_ald X 12 rfl rfl q2 dX12_moneyFor_122 ?_
      refine z_iload_n X dX12_moneyFor_123 rfl rfl ?_
      obtain ⟨q3, h⟩ := zg h
      refine z_idiv X dX12_moneyFor_124 q3 ?_
      obtain ⟨x4, ex4, h⟩ := zb h
      rw [ex4]
      refine z_istore (lo' := [(5, .int (x4)), (0, .ref (ad 40)), (1, .int (v1)), (2, .int (v2)), (3, .int (v3)), (4, .int (v4))]) X dX12_moneyFor_125 (by rw [hml]; decide) rfl rfl ?_
      refine z_iload X dX12_moneyFor_127 rfl ?_
      refine z_aload_n X dX12_moneyFor_129 rfl rfl ?_
      refine r_getS X 1 rfl rfl g_1307 dX12_moneyFor_130 ?_
      refine z_icmp_ge (tgt := 141) X dX12_moneyFor_133 (by decide) (fun q => ?_) (fun q => ?_)
      · have h := zp q h
        refine z_aload_n X dX12_moneyFor_141 rfl rfl ?_
        refine r_getS X 1 rfl rfl g_1307 dX12_moneyFor_142 ?_
        refine zz.pick (lo' := [(0, .ref (ad 40)), (1, .int (v1)), (2, .int (v2)), (3, .int (v3))]) [0, 1, 2, 3] rfl ?_
        exact br_moneyFor_145 X hml hr h
      · have h := zn q h
        refine z_iload X dX12_moneyFor_136 rfl ?_
        refine z_goto (tgt := 145) X dX12_moneyFor_138 (by decide) ?_
        refine zz.pick (lo' := [(0, .ref (ad 40)), (1, .int (v1)), (2, .int (v2)), (3, .int (v3))]) [0, 1, 2, 3] rfl ?_
        exact br_moneyFor_145 X hml hr h
    · have h := zn q h
      refine z_aload_n X dX12_moneyFor_68 rfl rfl ?_
      refine z_iload X dX12_moneyFor_69 rfl ?_
      refine z_aload_n X dX12_moneyFor_71 rfl rfl ?_
      refine r_getA X 34 rfl rfl g_1340 dX12_moneyFor_72 ?_
      refine z_iload X dX12_moneyFor_75 rfl ?_
      obtain ⟨q5, h⟩ := zg h
      refine r_ald X 34 rfl rfl q5 dX12_moneyFor_77 ?_
      refine z_iconst (v := 2) X dX12_moneyFor_78 (by decide) ?_
      refine z_idiv X dX12_moneyFor_79 (by decide) ?_
      obtain ⟨o6, co6, h⟩ := zb2 h
      refine z_callVv (As := [.int (v4), .int (((ρ 34 (v4).toNatClampNeg) / 2))]) (rest := []) (nA := 2) (pu := fun (_ : Unit) => True) (G1 := fun _ => rw D dA A o6 ad) X (cr_goesBack l X.2.2.2.2.2.2.2.2 X.2.2.2.2.2.2.1 co6) g_1571 g_1573 gs_41 g_15 g_1574 hd_yX12_goesBack ⟨rfl, rfl, Nat.le_of_ble_eq_true rfl, Nat.le_of_ble_eq_true rfl⟩ rfl (fun _ hG => rw_recv X hG) rfl (Nat.le_of_ble_eq_true rfl) dX12_moneyFor_80 ⟨Nat.le_refl _, Nat.le_refl _⟩ (fun _ _ => ?_)
      refine z_aload_n X dX12_moneyFor_83 rfl rfl ?_
      refine r_getA X 12 rfl rfl g_1318 dX12_moneyFor_84 ?_
      refine z_aload_n X dX12_moneyFor_87 rfl rfl ?_
      refine r_getA X 25 rfl rfl g_1331 dX12_moneyFor_88 ?_
      refine z_iload_n X dX12_moneyFor_91 rfl rfl ?_
      obtain ⟨q7, h⟩ := zg h
      refine r_ald X 25 rfl rfl q7 dX12_moneyFor_92 ?_
      obtain ⟨q8, h⟩ := zg h
      refine r_ald X 12 rfl rfl q8 dX12_moneyFor_93 ?_
      refine z_iload_n X dX12_moneyFor_94 rfl rfl ?_
      refine z_icmp_ge (tgt := 106) X dX12_moneyFor_95 (by decide) (fun q => ?_) (fun q => ?_)
      · have h := zp q h
        refine z_iconst (v := (-1)) X dX12_moneyFor_106 (by decide) ?_
        refine zz.pick (lo' := [(0, .ref (ad 40)), (1, .int (v1)), (2, .int (v2)), (3, .int (v3))]) [0, 1, 2, 3] rfl ?_
        exact br_moneyFor_107 X hml hr ih h
      · have h := zn q h
        refine z_aload_n X dX12_moneyFor_98 rfl rfl ?_
        refine z_iload_n X dX12_moneyFor_99 rfl rfl ?_
        obtain ⟨o9, co9, h⟩ := zb2 h
        refine z_callVi (As := [.int (v1)]) (rest := []) (nA := 1) (r0 := o9) (pu := fun (_ : Unit) => True) (G1 := fun _ => rw D dA A o6 ad) X (cr_giverTo l X.2.2.2.2.2.2.2.2 X.2.2.2.2.2.2.1 co9) g_1567 g_1569 gs_40 g_15 g_1570 hd_yX12_giverTo ⟨rfl, rfl, Nat.le_of_ble_eq_true rfl, Nat.le_of_ble_eq_true rfl⟩ rfl (fun _ hG => rw_recv X hG) rfl (Nat.le_of_ble_eq_true rfl) dX12_moneyFor_100 ⟨Nat.le_refl _, Nat.le_refl _⟩ (fun _ _ => ?_)
        refine z_goto (tgt := 107) X dX12_moneyFor_103 (by decide) ?_
        refine zz.pick (lo' := [(0, .ref (ad 40)), (1, .int (v1)), (2, .int (v2)), (3, .int (v3))]) [0, 1, 2, 3] rfl ?_
        exact br_moneyFor_107 X hml hr ih h
def fr_moneyFor_60 (ρ : Rho) (v1 : Int32) (v2 : Int32) (v3 : Int32) (s0 : Int32) : Option (Rho × Int32) := fr_moneyFor_62 FU ρ v1 v2 v3 s0
set_option maxRecDepth 100000 in
set_option maxHeartbeats 4000000 in
theorem br_moneyFor_60 {p : Program} {l : Launch} {e : Env} {s : State} {m : MethodId} {args : Array Value} {below : List Frame} {meth : Method} {c : Code} {D : va_G} {dA : Nat → ClassId} {A : Nat → Prop} {ad : Nat → Nat} {o : Rho × Int32} (X : zc p l s m args meth c cX12_moneyFor RX12 D dA A) (hml : c.maxLocals = 7) (hr : meth.sig.returnType = (some .int)) {ρ : Rho} {v1 : Int32} {v2 : Int32} {v3 : Int32} {s0 : Int32} (h : fr_moneyFor_60 ρ v1 v2 v3 s0 = some o) : zz p l e ({ frames := 80, cells := 0, slots := 0, locals := 800 } : Room) s m args below meth c A (rw D dA A ρ ad) 0 0 (MQ below (va_Qi (fun r (_ : Unit) => r = o.2 ∧ True) (fun _ t => rw D dA A o.1 ad t.heap) A) args s 0 0 A) 60 [(0, .ref (ad 40)), (1, .int (v1)), (2, .int (v2)), (3, .int (v3))] [] [.int (s0)] := by
  unfold fr_moneyFor_60 at h
  refine z_istore (lo' := [(4, .int (s0)), (0, .ref (ad 40)), (1, .int (v1)), (2, .int (v2)), (3, .int (v3))]) X dX12_moneyFor_60 (by rw [hml]; decide) rfl rfl ?_
  refine zz.pick (lo' := [(0, .ref (ad 40)), (1, .int (v1)), (2, .int (v2)), (3, .int (v3)), (4, .int (s0))]) [0, 1, 2, 3, 4] rfl ?_
  exact br_moneyFor_62 X hml hr FU h
def fr_moneyFor_59 (ρ : Rho) (v1 : Int32) (v2 : Int32) (v3 : Int32) : Option (Rho × Int32) := fr_moneyFor_60 ρ v1 v2 v3 (-1)
set_option maxRecDepth 100000 in
set_option maxHeartbeats 4000000 in
theorem br_moneyFor_59 {p : Program} {l : Launch} {e : Env} {s : State} {m : MethodId} {args : Array Value} {below : List Frame} {meth : Method} {c : Code} {D : va_G} {dA : Nat → ClassId} {A : Nat → Prop} {ad : Nat → Nat} {o : Rho × Int32} (X : zc p l s m args meth c cX12_moneyFor RX12 D dA A) (hml : c.maxLocals = 7) (hr : meth.sig.returnType = (some .int)) {ρ : Rho} {v1 : Int32} {v2 : Int32} {v3 : Int32} (h : fr_moneyFor_59 ρ v1 v2 v3 = some o) : zz p l e ({ frames := 80, cells := 0, slots := 0, locals := 800 } : Room) s m args below meth c A (rw D dA A ρ ad) 0 0 (MQ below (va_Qi (fun r (_ : Unit) => r = o.2 ∧ True) (fun _ t => rw D dA A o.1 ad t.heap) A) args s 0 0 A) 59 [(0, .ref (ad 40)), (1, .int (v1)), (2, .int (v2)), (3, .int (v3))] [] [] := by
  unfold fr_moneyFor_59 at h
  refine z_iconst (v := (-1)) X dX12_moneyFor_59 (by decide) ?_
  refine zz.pick (lo' := [(0, .ref (ad 40)), (1, .int (v1)), (2, .int (v2)), (3, .int (v3))]) [0, 1, 2, 3] rfl ?_
  exact br_moneyFor_60 X hml hr h
def fr_moneyFor (ρ : Rho) (a1 : Int32) : Option (Rho × Int32) := if a1 < 0 ∨ 80 ≤ (a1).toNatClampNeg then none else (fr_rateNow ρ ((ρ 23 (a1).toNatClampNeg))).bind fun o2 => (if o2 = 0 then some (ρ, (ρ 1 0))
  else if a1 < 0 ∨ 80 ≤ (a1).toNatClampNeg then none else (fr_lets ρ ((ρ 23 (a1).toNatClampNeg)) (o2)).bind fun o4 => (if o4 ≤ 0 then fr_moneyFor_59 ρ a1 o2 o4
  else if a1 < 0 ∨ 80 ≤ (a1).toNatClampNeg then none else if (ρ 25 (a1).toNatClampNeg) < 0 ∨ 4 ≤ ((ρ 25 (a1).toNatClampNeg)).toNatClampNeg then none else (if o2 ≤ (ρ 12 ((ρ 25 (a1).toNatClampNeg)).toNatClampNeg) then fr_moneyFor_59 ρ a1 o2 o4
  else (fr_giverTo ρ (a1)).bind fun o7 => fr_moneyFor_60 ρ a1 o2 o4 o7)))
set_option maxRecDepth 100000 in
set_option maxHeartbeats 4000000 in
theorem br_moneyFor {p : Program} {l : Launch} {e : Env} {s : State} {m : MethodId} {args : Array Value} {below : List Frame} {meth : Method} {c : Code} {D : va_G} {dA : Nat → ClassId} {A : Nat → Prop} {ad : Nat → Nat} {o : Rho × Int32} (X : zc p l s m args meth c cX12_moneyFor RX12 D dA A) (hml : c.maxLocals = 7) (hr : meth.sig.returnType = (some .int)) {ρ : Rho} {a1 : Int32} (h : fr_moneyFor ρ a1 = some o) : zz p l e ({ frames := 80, cells := 0, slots := 0, locals := 800 } : Room) s m args below meth c A (rw D dA A ρ ad) 0 0 (MQ below (va_Qi (fun r (_ : Unit) => r = o.2 ∧ True) (fun _ t => rw D dA A o.1 ad t.heap) A) args s 0 0 A) 0 [(0, .ref (ad 40)), (1, .int (a1))] [] [] := by
  unfold fr_moneyFor at h
  refine z_aload_n X dX12_moneyFor_0 rfl rfl ?_
  refine z_aload_n X dX12_moneyFor_1 rfl rfl ?_
  refine r_getA X 23 rfl rfl g_1329 dX12_moneyFor_2 ?_
  refine z_iload_n X dX12_moneyFor_5 rfl rfl ?_
  obtain ⟨q1, h⟩ := zg h
  refine r_ald X 23 rfl rfl q1 dX12_moneyFor_6 ?_
  obtain ⟨o2, co2, h⟩ := zb2 h
  refine z_callVi (As := [.int ((ρ 23 (a1).toNatClampNeg))]) (rest := []) (nA := 1) (r0 := o2) (pu := fun (_ : Unit) => True) (G1 := fun _ => rw D dA A ρ ad) X (cr_rateNow l X.2.2.2.2.2.2.2.2 X.2.2.2.2.2.2.1 co2) g_1555 g_1557 gs_37 g_15 g_1558 hd_yX12_rateNow ⟨rfl, rfl, Nat.le_of_ble_eq_true rfl, Nat.le_of_ble_eq_true rfl⟩ rfl (fun _ hG => rw_recv X hG) rfl (Nat.le_of_ble_eq_true rfl) dX12_moneyFor_7 ⟨Nat.le_refl _, Nat.le_refl _⟩ (fun _ _ => ?_)
  refine z_istore_n (lo' := [(2, .int (o2)), (0, .ref (ad 40)), (1, .int (a1))]) X dX12_moneyFor_10 rfl (by rw [hml]; decide) rfl rfl ?_
  refine z_iload_n X dX12_moneyFor_11 rfl rfl ?_
  refine z_if_ne (tgt := 20) X dX12_moneyFor_12 (by decide) (fun q => ?_) (fun q => ?_)
  · have h := zp q h
    refine z_aload_n X dX12_moneyFor_15 rfl rfl ?_
    refine r_getS X 1 rfl rfl g_1307 dX12_moneyFor_16 ?_
    obtain rfl := Option.some.inj h
    exact z_iret X hr rfl (fun t hG hF _ => ⟨⟨_, (), rfl, ⟨rfl, trivial⟩, hG⟩, hF⟩) dX12_moneyFor_19
  · have h := zn q h
    refine z_aload_n X dX12_moneyFor_20 rfl rfl ?_
    refine z_aload_n X dX12_moneyFor_21 rfl rfl ?_
    refine r_getA X 23 rfl rfl g_1329 dX12_moneyFor_22 ?_
    refine z_iload_n X dX12_moneyFor_25 rfl rfl ?_
    obtain ⟨q3, h⟩ := zg h
    refine r_ald X 23 rfl rfl q3 dX12_moneyFor_26 ?_
    refine z_iload_n X dX12_moneyFor_27 rfl rfl ?_
    obtain ⟨o4, co4, h⟩ := zb2 h
    refine z_callVi (As := [.int ((ρ 23 (a1).toNatClampNeg)), .int (o2)]) (rest := []) (nA := 2) (r0 := o4) (pu := fun (_ : Unit) => True) (G1 := fun _ => rw D dA A ρ ad) X (cr_lets l X.2.2.2.2.2.2.2.2 X.2.2.2.2.2.2.1 co4) g_1559 g_1561 gs_38 g_15 g_1562 hd_yX12_lets ⟨rfl, rfl, Nat.le_of_ble_eq_true rfl, Nat.le_of_ble_eq_true rfl⟩ rfl (fun _ hG => rw_recv X hG) rfl (Nat.le_of_ble_eq_true rfl) dX12_moneyFor_28 ⟨Nat.le_refl _, Nat.le_refl _⟩ (fun _ _ => ?_)
    refine z_istore_n (lo' := [(3, .int (o4)), (2, .int (o2)), (0, .ref (ad 40)), (1, .int (a1))]) X dX12_moneyFor_31 rfl (by rw [hml]; decide) rfl rfl ?_
    refine z_iload_n X dX12_moneyFor_32 rfl rfl ?_
    refine z_if_le (tgt := 59) X dX12_moneyFor_33 (by decide) (fun q => ?_) (fun q => ?_)
    · have h := zp q h
      refine zz.pick (lo' := [(0, .ref (ad 40)), (1, .int (a1)), (2, .int (o2)), (3, .int (o4))]) [0, 1, 2, 3] rfl ?_
      exact br_moneyFor_59 X hml hr h
    · have h := zn q h
      refine z_aload_n X dX12_moneyFor_36 rfl rfl ?_
      refine r_getA X 12 rfl rfl g_1318 dX12_moneyFor_37 ?_
      refine z_aload_n X dX12_moneyFor_40 rfl rfl ?_
      refine r_getA X 25 rfl rfl g_1331 dX12_moneyFor_41 ?_
      refine z_iload_n X dX12_moneyFor_44 rfl rfl ?_
      obtain ⟨q5, h⟩ := zg h
      refine r_ald X 25 rfl rfl q5 dX12_moneyFor_45 ?_
      obtain ⟨q6, h⟩ := zg h
      refine r_ald X 12 rfl rfl q6 dX12_moneyFor_46 ?_
      refine z_iload_n X dX12_moneyFor_47 rfl rfl ?_
      refine z_icmp_ge (tgt := 59) X dX12_moneyFor_48 (by decide) (fun q => ?_) (fun q => ?_)
      · have h := zp q h
        refine zz.pick (lo' := [(0, .ref (ad 40)), (1, .int (a1)), (2, .int (o2)), (3, .int (o4))]) [0, 1, 2, 3] rfl ?_
        exact br_moneyFor_59 X hml hr h
      · have h := zn q h
        refine z_aload_n X dX12_moneyFor_51 rfl rfl ?_
        refine z_iload_n X dX12_moneyFor_52 rfl rfl ?_
        obtain ⟨o7, co7, h⟩ := zb2 h
        refine z_callVi (As := [.int (a1)]) (rest := []) (nA := 1) (r0 := o7) (pu := fun (_ : Unit) => True) (G1 := fun _ => rw D dA A ρ ad) X (cr_giverTo l X.2.2.2.2.2.2.2.2 X.2.2.2.2.2.2.1 co7) g_1567 g_1569 gs_40 g_15 g_1570 hd_yX12_giverTo ⟨rfl, rfl, Nat.le_of_ble_eq_true rfl, Nat.le_of_ble_eq_true rfl⟩ rfl (fun _ hG => rw_recv X hG) rfl (Nat.le_of_ble_eq_true rfl) dX12_moneyFor_53 ⟨Nat.le_refl _, Nat.le_refl _⟩ (fun _ _ => ?_)
        refine z_goto (tgt := 60) X dX12_moneyFor_56 (by decide) ?_
        refine zz.pick (lo' := [(0, .ref (ad 40)), (1, .int (a1)), (2, .int (o2)), (3, .int (o4))]) [0, 1, 2, 3] rfl ?_
        exact br_moneyFor_60 X hml hr h
theorem cr_moneyFor (l : Launch) {D : va_G} {dA : Nat → ClassId} {A : Nat → Prop} {n : Nat} {ad : Nat → Nat} (hst : l.stackTraces = false) (hA : ∀ q, n ≤ q → A q) {ρ : Rho} {a1 : Int32} {o : Rho × Int32} (h : fr_moneyFor ρ a1 = some o) : Met l yX12_moneyFor (.code yX12_moneyFor cX12_moneyFor 7 (some .int) :: gT) ({ frames := 80, cells := 0, slots := 0, locals := 800 } : Room) (va_Pc [.ref (ad 40), .int a1] (zB D dA A n (rw D dA A ρ ad))) (va_Qi (fun r (_ : Unit) => r = o.2 ∧ True) (fun _ t => rw D dA A o.1 ad t.heap) A) 0 0 A :=
  z_met (by decide) hA hst (Nat.le_of_ble_eq_true rfl) rfl rfl (fun p e s m below meth c X hml hr _ => br_moneyFor X hml hr h)
-- turned(I)I
def fr_turned (ρ : Rho) (a1 : Int32) : Option (Int32) := some (((a1 <<< (5 &&& 31)) ||| (((a1 : Int32).toUInt32 >>> ((27 : Int32).toUInt32 &&& Int32.toUInt32 31)).toInt32)))
set_option maxRecDepth 100000 in
set_option maxHeartbeats 4000000 in
theorem br_turned {p : Program} {l : Launch} {e : Env} {s : State} {m : MethodId} {args : Array Value} {below : List Frame} {meth : Method} {c : Code} {D : va_G} {dA : Nat → ClassId} {A : Nat → Prop} {ad : Nat → Nat} {o : Int32} (X : zc p l s m args meth c cX12_turned RX12 D dA A) (hml : c.maxLocals = 1) (hr : meth.sig.returnType = (some .int)) {ρ : Rho} {a1 : Int32} (h : fr_turned ρ a1 = some o) : zz p l e ({ frames := 20, cells := 0, slots := 0, locals := 200 } : Room) s m args below meth c A (rw D dA A ρ ad) 0 0 (MQ below (va_Qi (fun r (_ : Unit) => r = o ∧ True) (fun _ t => rw D dA A ρ ad t.heap) A) args s 0 0 A) 0 [(0, .int (a1))] [] [] := by
  unfold fr_turned at h
  refine z_iload_n X dX12_turned_0 rfl rfl ?_
  refine z_iconst (v := 5) X dX12_turned_1 (by decide) ?_
  refine z_ishl X dX12_turned_2 ?_
  refine z_iload_n X dX12_turned_3 rfl rfl ?_
  refine z_bipush (v := 27) X dX12_turned_4 (by decide) ?_
  refine z_iushr X dX12_turned_6 ?_
  refine z_ior X dX12_turned_7 ?_
  obtain rfl := Option.some.inj h
  exact z_iret X hr rfl (fun t hG hF _ => ⟨⟨_, (), rfl, ⟨rfl, trivial⟩, hG⟩, hF⟩) dX12_turned_8
theorem cr_turned (l : Launch) {D : va_G} {dA : Nat → ClassId} {A : Nat → Prop} {n : Nat} {ad : Nat → Nat} (hst : l.stackTraces = false) (hA : ∀ q, n ≤ q → A q) {ρ : Rho} {a1 : Int32} {o : Int32} (h : fr_turned ρ a1 = some o) : Met l yX12_turned (.code yX12_turned cX12_turned 1 (some .int) :: gT) ({ frames := 20, cells := 0, slots := 0, locals := 200 } : Room) (va_Pc [.int a1] (zB D dA A n (rw D dA A ρ ad))) (va_Qi (fun r (_ : Unit) => r = o ∧ True) (fun _ t => rw D dA A ρ ad t.heap) A) 0 0 A :=
  z_met (by decide) hA hst (Nat.le_of_ble_eq_true rfl) rfl rfl (fun p e s m below meth c X hml hr _ => br_turned X hml hr h)
-- notes(IIII)V
def fr_notes (ρ : Rho) (a1 : Int32) (a2 : Int32) (a3 : Int32) (a4 : Int32) : Option (Rho) := if a1 < 0 ∨ 80 ≤ (a1).toNatClampNeg then none else (fr_turned ρ ((ρ 31 (a1).toNatClampNeg))).bind fun o2 => if a1 < 0 ∨ 80 ≤ (a1).toNatClampNeg then none else (some (cs ρ 31 (a1).toNatClampNeg (((o2 + (31 * a3)) ^^^ ((8 * a2) + a4))))).bind fun ρ3 => some ρ3
set_option maxRecDepth 100000 in
set_option maxHeartbeats 4000000 in
theorem br_notes {p : Program} {l : Launch} {e : Env} {s : State} {m : MethodId} {args : Array Value} {below : List Frame} {meth : Method} {c : Code} {D : va_G} {dA : Nat → ClassId} {A : Nat → Prop} {ad : Nat → Nat} {o : Rho} (X : zc p l s m args meth c cX12_notes RX12 D dA A) (hml : c.maxLocals = 5) (hr : meth.sig.returnType = none) {ρ : Rho} {a1 : Int32} {a2 : Int32} {a3 : Int32} {a4 : Int32} (h : fr_notes ρ a1 a2 a3 a4 = some o) : zz p l e ({ frames := 40, cells := 0, slots := 0, locals := 400 } : Room) s m args below meth c A (rw D dA A ρ ad) 0 0 (MQ below (va_Qv (fun (_ : Unit) => True) (fun _ t => rw D dA A o ad t.heap) A) args s 0 0 A) 0 [(0, .ref (ad 40)), (1, .int (a1)), (2, .int (a2)), (3, .int (a3)), (4, .int (a4))] [] [] := by
  unfold fr_notes at h
  refine z_aload_n X dX12_notes_0 rfl rfl ?_
  refine r_getA X 31 rfl rfl g_1337 dX12_notes_1 ?_
  refine z_iload_n X dX12_notes_4 rfl rfl ?_
  refine z_aload_n X dX12_notes_5 rfl rfl ?_
  refine r_getA X 31 rfl rfl g_1337 dX12_notes_6 ?_
  refine z_iload_n X dX12_notes_9 rfl rfl ?_
  obtain ⟨q1, h⟩ := zg h
  refine r_ald X 31 rfl rfl q1 dX12_notes_10 ?_
  obtain ⟨o2, co2, h⟩ := zb2 h
  refine z_callSi (As := [.int ((ρ 31 (a1).toNatClampNeg))]) (rest := [.int (a1), .ref (ad 31)]) (nA := 1) (r0 := o2) (pu := fun (_ : Unit) => True) (G1 := fun _ => rw D dA A ρ ad) X (cr_turned l X.2.2.2.2.2.2.2.2 X.2.2.2.2.2.2.1 co2) g_1536 g_1537 g_15 g_1538 hd_yX12_turned ⟨rfl, rfl, Nat.le_of_ble_eq_true rfl, Nat.le_of_ble_eq_true rfl⟩ rfl rfl (Nat.le_of_ble_eq_true rfl) dX12_notes_11 ⟨Nat.le_refl _, Nat.le_refl _⟩ (fun _ _ => ?_)
  refine z_bipush (v := 31) X dX12_notes_14 (by decide) ?_
  refine z_iload_n X dX12_notes_16 rfl rfl ?_
  refine z_imul X dX12_notes_17 ?_
  refine z_iadd X dX12_notes_18 ?_
  refine z_bipush (v := 8) X dX12_notes_19 (by decide) ?_
  refine z_iload_n X dX12_notes_21 rfl rfl ?_
  refine z_imul X dX12_notes_22 ?_
  refine z_iload X dX12_notes_23 rfl ?_
  refine z_iadd X dX12_notes_25 ?_
  refine z_ixor X dX12_notes_26 ?_
  obtain ⟨q4, h⟩ := zg h
  obtain ⟨ρ3, eρ3, h⟩ := zb h
  refine r_ast X 31 rfl rfl q4 eρ3 dX12_notes_27 ?_
  obtain rfl := Option.some.inj h
  exact z_vret X hr (fun t hG hF _ => ⟨⟨(), rfl, trivial, hG⟩, hF⟩) dX12_notes_28
theorem cr_notes (l : Launch) {D : va_G} {dA : Nat → ClassId} {A : Nat → Prop} {n : Nat} {ad : Nat → Nat} (hst : l.stackTraces = false) (hA : ∀ q, n ≤ q → A q) {ρ : Rho} {a1 : Int32} {a2 : Int32} {a3 : Int32} {a4 : Int32} {o : Rho} (h : fr_notes ρ a1 a2 a3 a4 = some o) : Met l yX12_notes (.code yX12_notes cX12_notes 5 none :: gT) ({ frames := 40, cells := 0, slots := 0, locals := 400 } : Room) (va_Pc [.ref (ad 40), .int a1, .int a2, .int a3, .int a4] (zB D dA A n (rw D dA A ρ ad))) (va_Qv (fun (_ : Unit) => True) (fun _ t => rw D dA A o ad t.heap) A) 0 0 A :=
  z_met (by decide) hA hst (Nat.le_of_ble_eq_true rfl) rfl rfl (fun p e s m below meth c X hml hr _ => br_notes X hml hr h)
-- stops(III)V
def fr_stops (ρ : Rho) (a1 : Int32) (a2 : Int32) (a3 : Int32) : Option (Rho) := (fr_allGoesBack ρ (a1)).bind fun o1 => if a1 < 0 ∨ 80 ≤ (a1).toNatClampNeg then none else (some (cs o1 26 (a1).toNatClampNeg (a2))).bind fun ρ2 => if a1 < 0 ∨ 80 ≤ (a1).toNatClampNeg then none else if (ρ2 23 (a1).toNatClampNeg) < 0 ∨ 10 ≤ ((ρ2 23 (a1).toNatClampNeg)).toNatClampNeg then none else (some (cs ρ2 9 ((ρ2 23 (a1).toNatClampNeg)).toNatClampNeg ((-1)))).bind fun ρ5 => if a1 < 0 ∨ 80 ≤ (a1).toNatClampNeg then none else (if (ρ5 32 (a1).toNatClampNeg) ≤ (ρ5 0 0) then (fr_notes ρ5 (a1) (2) ((ρ5 0 0)) (a3)).bind fun o8 => some o8
  else if a1 < 0 ∨ 80 ≤ (a1).toNatClampNeg then none else (fr_notes ρ5 (a1) (2) ((ρ5 32 (a1).toNatClampNeg)) (a3)).bind fun o10 => some o10)
set_option maxRecDepth 100000 in
set_option maxHeartbeats 4000000 in
theorem br_stops {p : Program} {l : Launch} {e : Env} {s : State} {m : MethodId} {args : Array Value} {below : List Frame} {meth : Method} {c : Code} {D : va_G} {dA : Nat → ClassId} {A : Nat → Prop} {ad : Nat → Nat} {o : Rho} (X : zc p l s m args meth c cX12_stops RX12 D dA A) (hml : c.maxLocals = 4) (hr : meth.sig.returnType = none) {ρ : Rho} {a1 : Int32} {a2 : Int32} {a3 : Int32} (h : fr_stops ρ a1 a2 a3 = some o) : zz p l e ({ frames := 60, cells := 0, slots := 0, locals := 600 } : Room) s m args below meth c A (rw D dA A ρ ad) 0 0 (MQ below (va_Qv (fun (_ : Unit) => True) (fun _ t => rw D dA A o ad t.heap) A) args s 0 0 A) 0 [(0, .ref (ad 40)), (1, .int (a1)), (2, .int (a2)), (3, .int (a3))] [] [] := by
  unfold fr_stops at h
  refine z_aload_n X dX12_stops_0 rfl rfl ?_
  refine z_iload_n X dX12_stops_1 rfl rfl ?_
  obtain ⟨o1, co1, h⟩ := zb2 h
  refine z_callVv (As := [.int (a1)]) (rest := []) (nA := 1) (pu := fun (_ : Unit) => True) (G1 := fun _ => rw D dA A o1 ad) X (cr_allGoesBack l X.2.2.2.2.2.2.2.2 X.2.2.2.2.2.2.1 co1) g_1583 g_1585 gs_44 g_15 g_1586 hd_yX12_allGoesBack ⟨rfl, rfl, Nat.le_of_ble_eq_true rfl, Nat.le_of_ble_eq_true rfl⟩ rfl (fun _ hG => rw_recv X hG) rfl (Nat.le_of_ble_eq_true rfl) dX12_stops_2 ⟨Nat.le_refl _, Nat.le_refl _⟩ (fun _ _ => ?_)
  refine z_aload_n X dX12_stops_5 rfl rfl ?_
  refine r_getA X 26 rfl rfl g_1332 dX12_stops_6 ?_
  refine z_iload_n X dX12_stops_9 rfl rfl ?_
  refine z_iload_n X dX12_stops_10 rfl rfl ?_
  obtain ⟨q3, h⟩ := zg h
  obtain ⟨ρ2, eρ2, h⟩ := zb h
  refine r_ast X 26 rfl rfl q3 eρ2 dX12_stops_11 ?_
  refine z_aload_n X dX12_stops_12 rfl rfl ?_
  refine r_getA X 9 rfl rfl g_1315 dX12_stops_13 ?_
  refine z_aload_n X dX12_stops_16 rfl rfl ?_
  refine r_getA X 23 rfl rfl g_1329 dX12_stops_17 ?_
  refine z_iload_n X dX12_stops_20 rfl rfl ?_
  obtain ⟨q4, h⟩ := zg h
  refine r_ald X 23 rfl rfl q4 dX12_stops_21 ?_
  refine z_iconst (v := (-1)) X dX12_stops_22 (by decide) ?_
  obtain ⟨q6, h⟩ := zg h
  obtain ⟨ρ5, eρ5, h⟩ := zb h
  refine r_ast X 9 rfl rfl q6 eρ5 dX12_stops_23 ?_
  refine z_aload_n X dX12_stops_24 rfl rfl ?_
  refine z_iload_n X dX12_stops_25 rfl rfl ?_
  refine z_iconst (v := 2) X dX12_stops_26 (by decide) ?_
  refine z_aload_n X dX12_stops_27 rfl rfl ?_
  refine r_getA X 32 rfl rfl g_1338 dX12_stops_28 ?_
  refine z_iload_n X dX12_stops_31 rfl rfl ?_
  obtain ⟨q7, h⟩ := zg h
  refine r_ald X 32 rfl rfl q7 dX12_stops_32 ?_
  refine z_aload_n X dX12_stops_33 rfl rfl ?_
  refine r_getS X 0 rfl rfl g_1306 dX12_stops_34 ?_
  refine z_icmp_le (tgt := 49) X dX12_stops_37 (by decide) (fun q => ?_) (fun q => ?_)
  · have h := zp q h
    refine z_aload_n X dX12_stops_49 rfl rfl ?_
    refine r_getS X 0 rfl rfl g_1306 dX12_stops_50 ?_
    refine z_iload_n X dX12_stops_53 rfl rfl ?_
    obtain ⟨o8, co8, h⟩ := zb2 h
    refine z_callVv (As := [.int (a1), .int (2), .int ((ρ5 0 0)), .int (a3)]) (rest := []) (nA := 4) (pu := fun (_ : Unit) => True) (G1 := fun _ => rw D dA A o8 ad) X (cr_notes l X.2.2.2.2.2.2.2.2 X.2.2.2.2.2.2.1 co8) g_1532 g_1534 gs_32 g_15 g_1535 hd_yX12_notes ⟨rfl, rfl, Nat.le_of_ble_eq_true rfl, Nat.le_of_ble_eq_true rfl⟩ rfl (fun _ hG => rw_recv X hG) rfl (Nat.le_of_ble_eq_true rfl) dX12_stops_54 ⟨Nat.le_refl _, Nat.le_refl _⟩ (fun _ _ => ?_)
    obtain rfl := Option.some.inj h
    exact z_vret X hr (fun t hG hF _ => ⟨⟨(), rfl, trivial, hG⟩, hF⟩) dX12_stops_57
  · have h := zn q h
    refine z_aload_n X dX12_stops_40 rfl rfl ?_
    refine r_getA X 32 rfl rfl g_1338 dX12_stops_41 ?_
    refine z_iload_n X dX12_stops_44 rfl rfl ?_
    obtain ⟨q9, h⟩ := zg h
    refine r_ald X 32 rfl rfl q9 dX12_stops_45 ?_
    refine z_goto (tgt := 53) X dX12_stops_46 (by decide) ?_
    refine z_iload_n X dX12_stops_53 rfl rfl ?_
    obtain ⟨o10, co10, h⟩ := zb2 h
    refine z_callVv (As := [.int (a1), .int (2), .int ((ρ5 32 (a1).toNatClampNeg)), .int (a3)]) (rest := []) (nA := 4) (pu := fun (_ : Unit) => True) (G1 := fun _ => rw D dA A o10 ad) X (cr_notes l X.2.2.2.2.2.2.2.2 X.2.2.2.2.2.2.1 co10) g_1532 g_1534 gs_32 g_15 g_1535 hd_yX12_notes ⟨rfl, rfl, Nat.le_of_ble_eq_true rfl, Nat.le_of_ble_eq_true rfl⟩ rfl (fun _ hG => rw_recv X hG) rfl (Nat.le_of_ble_eq_true rfl) dX12_stops_54 ⟨Nat.le_refl _, Nat.le_refl _⟩ (fun _ _ => ?_)
    obtain rfl := Option.some.inj h
    exact z_vret X hr (fun t hG hF _ => ⟨⟨(), rfl, trivial, hG⟩, hF⟩) dX12_stops_57
theorem cr_stops (l : Launch) {D : va_G} {dA : Nat → ClassId} {A : Nat → Prop} {n : Nat} {ad : Nat → Nat} (hst : l.stackTraces = false) (hA : ∀ q, n ≤ q → A q) {ρ : Rho} {a1 : Int32} {a2 : Int32} {a3 : Int32} {o : Rho} (h : fr_stops ρ a1 a2 a3 = some o) : Met l yX12_stops (.code yX12_stops cX12_stops 4 none :: gT) ({ frames := 60, cells := 0, slots := 0, locals := 600 } : Room) (va_Pc [.ref (ad 40), .int a1, .int a2, .int a3] (zB D dA A n (rw D dA A ρ ad))) (va_Qv (fun (_ : Unit) => True) (fun _ t => rw D dA A o ad t.heap) A) 0 0 A :=
  z_met (by decide) hA hst (Nat.le_of_ble_eq_true rfl) rfl rfl (fun p e s m below meth c X hml hr _ => br_stops X hml hr h)
-- partiesOf(I)I
def fr_partiesOf_41 (k4 : Rho → Int32 → Int32 → Int32 → Option (Int32)) (ρ : Rho) (v1 : Int32) (v3 : Int32) (s0 : Int32) (s1 : Int32) : Option (Int32) := (some ((s0 + s1))).bind fun x1 => (some (v3 + 1)).bind fun x2 => k4 ρ v1 x1 x2
set_option maxRecDepth 100000 in
set_option maxHeartbeats 4000000 in
theorem br_partiesOf_41 {p : Program} {l : Launch} {e : Env} {s : State} {m : MethodId} {args : Array Value} {below : List Frame} {meth : Method} {c : Code} {D : va_G} {dA : Nat → ClassId} {A : Nat → Prop} {ad : Nat → Nat} {o : Int32} (X : zc p l s m args meth c cX12_partiesOf RX12 D dA A) (hml : c.maxLocals = 4) (hr : meth.sig.returnType = (some .int)) {k4 : Rho → Int32 → Int32 → Int32 → Option (Int32)} (hk4 : ∀ {ρ : Rho} {v1 : Int32} {v2 : Int32} {v3 : Int32}, k4 ρ v1 v2 v3 = some o → zz p l e ({ frames := 20, cells := 0, slots := 0, locals := 200 } : Room) s m args below meth c A (rw D dA A ρ ad) 0 0 (MQ below (va_Qi (fun r (_ : Unit) => r = o ∧ True) (fun _ t => rw D dA A ρ ad t.heap) A) args s 0 0 A) 4 [(0, .ref (ad 40)), (1, .int (v1)), (2, .int (v2)), (3, .int (v3))] [] []) {ρ : Rho} {v1 : Int32} {v3 : Int32} {s0 : Int32} {s1 : Int32} (h : fr_partiesOf_41 k4 ρ v1 v3 s0 s1 = some o) : zz p l e ({ frames := 20, cells := 0, slots := 0, locals := 200 } : Room) s m args below meth c A (rw D dA A ρ ad) 0 0 (MQ below (va_Qi (fun r (_ : Unit) => r = o ∧ True) (fun _ t => rw D dA A ρ ad t.heap) A) args s 0 0 A) 41 [(0, .ref (ad 40)), (1, .int (v1)), (3, .int (v3))] [] [.int (s1), .int (s0)] := by
  unfold fr_partiesOf_41 at h
  refine z_iadd X dX12_partiesOf_41 ?_
  obtain ⟨x1, ex1, h⟩ := zb h
  rw [ex1]
  refine z_istore_n (lo' := [(2, .int (x1)), (0, .ref (ad 40)), (1, .int (v1)), (3, .int (v3))]) X dX12_partiesOf_42 rfl (by rw [hml]; decide) rfl rfl ?_
  obtain ⟨x2, ex2, h⟩ := zb h
  refine z_iinc (v := x2) (lo' := [(3, .int (x2)), (2, .int (x1)), (0, .ref (ad 40)), (1, .int (v1))]) X dX12_partiesOf_43 rfl ex2 (by rw [hml]; decide) rfl rfl ?_
  refine z_goto (tgt := 4) X dX12_partiesOf_46 (by decide) ?_
  refine zz.pick (lo' := [(0, .ref (ad 40)), (1, .int (v1)), (2, .int (x1)), (3, .int (x2))]) [0, 1, 2, 3] rfl ?_
  exact hk4  h
def fr_partiesOf_40 (k4 : Rho → Int32 → Int32 → Int32 → Option (Int32)) (ρ : Rho) (v1 : Int32) (v3 : Int32) (s0 : Int32) : Option (Int32) := fr_partiesOf_41 k4 ρ v1 v3 s0 0
set_option maxRecDepth 100000 in
set_option maxHeartbeats 4000000 in
theorem br_partiesOf_40 {p : Program} {l : Launch} {e : Env} {s : State} {m : MethodId} {args : Array Value} {below : List Frame} {meth : Method} {c : Code} {D : va_G} {dA : Nat → ClassId} {A : Nat → Prop} {ad : Nat → Nat} {o : Int32} (X : zc p l s m args meth c cX12_partiesOf RX12 D dA A) (hml : c.maxLocals = 4) (hr : meth.sig.returnType = (some .int)) {k4 : Rho → Int32 → Int32 → Int32 → Option (Int32)} (hk4 : ∀ {ρ : Rho} {v1 : Int32} {v2 : Int32} {v3 : Int32}, k4 ρ v1 v2 v3 = some o → zz p l e ({ frames := 20, cells := 0, slots := 0, locals := 200 } : Room) s m args below meth c A (rw D dA A ρ ad) 0 0 (MQ below (va_Qi (fun r (_ : Unit) => r = o ∧ True) (fun _ t => rw D dA A ρ ad t.heap) A) args s 0 0 A) 4 [(0, .ref (ad 40)), (1, .int (v1)), (2, .int (v2)), (3, .int (v3))] [] []) {ρ : Rho} {v1 : Int32} {v3 : Int32} {s0 : Int32} (h : fr_partiesOf_40 k4 ρ v1 v3 s0 = some o) : zz p l e ({ frames := 20, cells := 0, slots := 0, locals := 200 } : Room) s m args below meth c A (rw D dA A ρ ad) 0 0 (MQ below (va_Qi (fun r (_ : Unit) => r = o ∧ True) (fun _ t => rw D dA A ρ ad t.heap) A) args s 0 0 A) 40 [(0, .ref (ad 40)), (1, .int (v1)), (3, .int (v3))] [] [.int (s0)] := by
  unfold fr_partiesOf_40 at h
  refine z_iconst (v := 0) X dX12_partiesOf_40 (by decide) ?_
  refine zz.pick (lo' := [(0, .ref (ad 40)), (1, .int (v1)), (3, .int (v3))]) [0, 1, 3] rfl ?_
  exact br_partiesOf_41 X hml hr hk4 h
def fr_partiesOf_4 : Nat → Rho → Int32 → Int32 → Int32 → Option (Int32)
  | 0, _, _, _, _ => none
  | n + 1, ρ, v1, v2, v3 => (if 10 ≤ v3 then some (v2)
  else if v3 < 0 ∨ 10 ≤ (v3).toNatClampNeg then none else (if (ρ 9 (v3).toNatClampNeg) = (-1) then fr_partiesOf_40 (fr_partiesOf_4 n) ρ v1 v3 v2
  else if v3 < 0 ∨ 10 ≤ (v3).toNatClampNeg then none else if (ρ 9 (v3).toNatClampNeg) < 0 ∨ 80 ≤ ((ρ 9 (v3).toNatClampNeg)).toNatClampNeg then none else (if (ρ 24 ((ρ 9 (v3).toNatClampNeg)).toNatClampNeg) = v1 then fr_partiesOf_41 (fr_partiesOf_4 n) ρ v1 v3 v2 1
  else fr_partiesOf_40 (fr_partiesOf_4 n) ρ v1 v3 v2)))
set_option maxRecDepth 100000 in
set_option maxHeartbeats 4000000 in
theorem br_partiesOf_4 {p : Program} {l : Launch} {e : Env} {s : State} {m : MethodId} {args : Array Value} {below : List Frame} {meth : Method} {c : Code} {D : va_G} {dA : Nat → ClassId} {A : Nat → Prop} {ad : Nat → Nat} {o : Int32} (X : zc p l s m args meth c cX12_partiesOf RX12 D dA A) (hml : c.maxLocals = 4) (hr : meth.sig.returnType = (some .int)) : ∀ (n : Nat) {ρ : Rho} {v1 : Int32} {v2 : Int32} {v3 : Int32}, fr_partiesOf_4  n ρ v1 v2 v3 = some o → zz p l e ({ frames := 20, cells := 0, slots := 0, locals := 200 } : Room) s m args below meth c A (rw D dA A ρ ad) 0 0 (MQ below (va_Qi (fun r (_ : Unit) => r = o ∧ True) (fun _ t => rw D dA A ρ ad t.heap) A) args s 0 0 A) 4 [(0, .ref (ad 40)), (1, .int (v1)), (2, .int (v2)), (3, .int (v3))] [] [] := by
  intro n
  induction n with
  | zero => intro ρ v1 v2 v3 h; exact (nomatch (show none = some o from h))
  | succ n ih =>
    intro ρ v1 v2 v3 h
    rw [fr_partiesOf_4] at h
    refine z_iload_n X dX12_partiesOf_4 rfl rfl ?_
    refine z_bipush (v := 10) X dX12_partiesOf_5 (by decide) ?_
    refine z_icmp_ge (tgt := 49) X dX12_partiesOf_7 (by decide) (fun q => ?_) (fun q => ?_)
    · have h := zp q h
      refine z_iload_n X dX12_partiesOf_49 rfl rfl ?_
      obtain rfl := Option.some.inj h
      exact z_iret X hr rfl (fun t hG hF _ => ⟨⟨_, (), rfl, ⟨rfl, trivial⟩, hG⟩, hF⟩) dX12_partiesOf_50
    · have h := zn q h
      refine z_iload_n X dX12_partiesOf_10 rfl rfl ?_
      refine z_aload_n X dX12_partiesOf_11 rfl rfl ?_
      refine r_getA X 9 rfl rfl g_1315 dX12_partiesOf_12 ?_
      refine z_iload_n X dX12_partiesOf_15 rfl rfl ?_
      obtain ⟨q1, h⟩ := zg h
      refine r_ald X 9 rfl rfl q1 dX12_partiesOf_16 ?_
      refine z_iconst (v := (-1)) X dX12_partiesOf_17 (by decide) ?_
      refine z_icmp_eq (tgt := 40) X dX12_partiesOf_18 (by decide) (fun q => ?_) (fun q => ?_)
      · have h := zp q h
        refine zz.pick (lo' := [(0, .ref (ad 40)), (1, .int (v1)), (3, .int (v3))]) [0, 1, 3] rfl ?_
        exact br_partiesOf_40 X hml hr ih h
      · have h := zn q h
        refine z_aload_n X dX12_partiesOf_21 rfl rfl ?_
        refine r_getA X 24 rfl rfl g_1330 dX12_partiesOf_22 ?_
        refine z_aload_n X dX12_partiesOf_25 rfl rfl ?_
        refine r_getA X 9 rfl rfl g_1315 dX12_partiesOf_26 ?_
        refine z_iload_n X dX12_partiesOf_29 rfl rfl ?_
        obtain ⟨q2, h⟩ := zg h
        refine r_ald X 9 rfl rfl q2 dX12_partiesOf_30 ?_
        obtain ⟨q3, h⟩ := zg h
        refine r_ald X 24 rfl rfl q3 dX12_partiesOf_31 ?_
        refine z_iload_n X dX12_partiesOf_32 rfl rfl ?_
        refine z_icmp_ne (tgt := 40) X dX12_partiesOf_33 (by decide) (fun q => ?_) (fun q => ?_)
        · have h := zp q h
          refine z_iconst (v := 1) X dX12_partiesOf_36 (by decide) ?_
          refine z_goto (tgt := 41) X dX12_partiesOf_37 (by decide) ?_
          refine zz.pick (lo' := [(0, .ref (ad 40)), (1, .int (v1)), (3, .int (v3))]) [0, 1, 3] rfl ?_
          exact br_partiesOf_41 X hml hr ih h
        · have h := zn q h
          refine zz.pick (lo' := [(0, .ref (ad 40)), (1, .int (v1)), (3, .int (v3))]) [0, 1, 3] rfl ?_
          exact br_partiesOf_40 X hml hr ih h
def fr_partiesOf (ρ : Rho) (a1 : Int32) : Option (Int32) := fr_partiesOf_4 FU ρ a1 0 0
set_option maxRecDepth 100000 in
set_option maxHeartbeats 4000000 in
theorem br_partiesOf {p : Program} {l : Launch} {e : Env} {s : State} {m : MethodId} {args : Array Value} {below : List Frame} {meth : Method} {c : Code} {D : va_G} {dA : Nat → ClassId} {A : Nat → Prop} {ad : Nat → Nat} {o : Int32} (X : zc p l s m args meth c cX12_partiesOf RX12 D dA A) (hml : c.maxLocals = 4) (hr : meth.sig.returnType = (some .int)) {ρ : Rho} {a1 : Int32} (h : fr_partiesOf ρ a1 = some o) : zz p l e ({ frames := 20, cells := 0, slots := 0, locals := 200 } : Room) s m args below meth c A (rw D dA A ρ ad) 0 0 (MQ below (va_Qi (fun r (_ : Unit) => r = o ∧ True) (fun _ t => rw D dA A ρ ad t.heap) A) args s 0 0 A) 0 [(0, .ref (ad 40)), (1, .int (a1))] [] [] := by
  unfold fr_partiesOf at h
  refine z_iconst (v := 0) X dX12_partiesOf_0 (by decide) ?_
  refine z_istore_n (lo' := [(2, .int (0)), (0, .ref (ad 40)), (1, .int (a1))]) X dX12_partiesOf_1 rfl (by rw [hml]; decide) rfl rfl ?_
  refine z_iconst (v := 0) X dX12_partiesOf_2 (by decide) ?_
  refine z_istore_n (lo' := [(3, .int (0)), (2, .int (0)), (0, .ref (ad 40)), (1, .int (a1))]) X dX12_partiesOf_3 rfl (by rw [hml]; decide) rfl rfl ?_
  refine zz.pick (lo' := [(0, .ref (ad 40)), (1, .int (a1)), (2, .int (0)), (3, .int (0))]) [0, 1, 2, 3] rfl ?_
  exact br_partiesOf_4 X hml hr FU h
theorem cr_partiesOf (l : Launch) {D : va_G} {dA : Nat → ClassId} {A : Nat → Prop} {n : Nat} {ad : Nat → Nat} (hst : l.stackTraces = false) (hA : ∀ q, n ≤ q → A q) {ρ : Rho} {a1 : Int32} {o : Int32} (h : fr_partiesOf ρ a1 = some o) : Met l yX12_partiesOf (.code yX12_partiesOf cX12_partiesOf 4 (some .int) :: gT) ({ frames := 20, cells := 0, slots := 0, locals := 200 } : Room) (va_Pc [.ref (ad 40), .int a1] (zB D dA A n (rw D dA A ρ ad))) (va_Qi (fun r (_ : Unit) => r = o ∧ True) (fun _ t => rw D dA A ρ ad t.heap) A) 0 0 A :=
  z_met (by decide) hA hst (Nat.le_of_ble_eq_true rfl) rfl rfl (fun p e s m below meth c X hml hr _ => br_partiesOf X hml hr h)
-- closes(III)V
def fr_closes_82 (k24 : Rho → Int32 → Int32 → Option (Rho)) (ρ : Rho) (v1 : Int32) (v4 : Int32) : Option (Rho) := (some (v4 + 1)).bind fun x1 => k24 ρ v1 x1
set_option maxRecDepth 100000 in
set_option maxHeartbeats 4000000 in
theorem br_closes_82 {p : Program} {l : Launch} {e : Env} {s : State} {m : MethodId} {args : Array Value} {below : List Frame} {meth : Method} {c : Code} {D : va_G} {dA : Nat → ClassId} {A : Nat → Prop} {ad : Nat → Nat} {o : Rho} (X : zc p l s m args meth c cX12_closes RX12 D dA A) (hml : c.maxLocals = 5) (hr : meth.sig.returnType = none) {k24 : Rho → Int32 → Int32 → Option (Rho)} (hk24 : ∀ {ρ : Rho} {v1 : Int32} {v4 : Int32}, k24 ρ v1 v4 = some o → zz p l e ({ frames := 80, cells := 0, slots := 0, locals := 800 } : Room) s m args below meth c A (rw D dA A ρ ad) 0 0 (MQ below (va_Qv (fun (_ : Unit) => True) (fun _ t => rw D dA A o ad t.heap) A) args s 0 0 A) 24 [(0, .ref (ad 40)), (1, .int (v1)), (4, .int (v4))] [] []) {ρ : Rho} {v1 : Int32} {v4 : Int32} (h : fr_closes_82 k24 ρ v1 v4 = some o) : zz p l e ({ frames := 80, cells := 0, slots := 0, locals := 800 } : Room) s m args below meth c A (rw D dA A ρ ad) 0 0 (MQ below (va_Qv (fun (_ : Unit) => True) (fun _ t => rw D dA A o ad t.heap) A) args s 0 0 A) 82 [(0, .ref (ad 40)), (1, .int (v1)), (4, .int (v4))] [] [] := by
  unfold fr_closes_82 at h
  obtain ⟨x1, ex1, h⟩ := zb h
  refine z_iinc (v := x1) (lo' := [(4, .int (x1)), (0, .ref (ad 40)), (1, .int (v1))]) X dX12_closes_82 rfl ex1 (by rw [hml]; decide) rfl rfl ?_
  refine z_goto (tgt := 24) X dX12_closes_85 (by decide) ?_
  refine zz.pick (lo' := [(0, .ref (ad 40)), (1, .int (v1)), (4, .int (x1))]) [0, 1, 4] rfl ?_
  exact hk24  h
def fr_closes_24 : Nat → Rho → Int32 → Int32 → Option (Rho)
  | 0, _, _, _ => none
  | n + 1, ρ, v1, v4 => (if 10 ≤ v4 then some ρ
  else if v4 < 0 ∨ 10 ≤ (v4).toNatClampNeg then none else (if (ρ 9 (v4).toNatClampNeg) = (-1) then fr_closes_82 (fr_closes_24 n) ρ v1 v4
  else if v4 < 0 ∨ 10 ≤ (v4).toNatClampNeg then none else if (ρ 9 (v4).toNatClampNeg) < 0 ∨ 80 ≤ ((ρ 9 (v4).toNatClampNeg)).toNatClampNeg then none else if v1 < 0 ∨ 80 ≤ (v1).toNatClampNeg then none else (if (ρ 24 ((ρ 9 (v4).toNatClampNeg)).toNatClampNeg) = (ρ 24 (v1).toNatClampNeg) then if v4 < 0 ∨ 10 ≤ (v4).toNatClampNeg then none else if v4 < 0 ∨ 10 ≤ (v4).toNatClampNeg then none else (fr_stops ρ ((ρ 9 (v4).toNatClampNeg)) (1) ((ρ 6 (v4).toNatClampNeg))).bind fun o7 => fr_closes_82 (fr_closes_24 n) o7 v1 v4
  else fr_closes_82 (fr_closes_24 n) ρ v1 v4)))
set_option maxRecDepth 100000 in
set_option maxHeartbeats 4000000 in
theorem br_closes_24 {p : Program} {l : Launch} {e : Env} {s : State} {m : MethodId} {args : Array Value} {below : List Frame} {meth : Method} {c : Code} {D : va_G} {dA : Nat → ClassId} {A : Nat → Prop} {ad : Nat → Nat} {o : Rho} (X : zc p l s m args meth c cX12_closes RX12 D dA A) (hml : c.maxLocals = 5) (hr : meth.sig.returnType = none) : ∀ (n : Nat) {ρ : Rho} {v1 : Int32} {v4 : Int32}, fr_closes_24  n ρ v1 v4 = some o → zz p l e ({ frames := 80, cells := 0, slots := 0, locals := 800 } : Room) s m args below meth c A (rw D dA A ρ ad) 0 0 (MQ below (va_Qv (fun (_ : Unit) => True) (fun _ t => rw D dA A o ad t.heap) A) args s 0 0 A) 24 [(0, .ref (ad 40)), (1, .int (v1)), (4, .int (v4))] [] [] := by
  intro n
  induction n with
  | zero => intro ρ v1 v4 h; exact (nomatch (show none = some o from h))
  | succ n ih =>
    intro ρ v1 v4 h
    rw [fr_closes_24] at h
    refine z_iload X dX12_closes_24 rfl ?_
    refine z_bipush (v := 10) X dX12_closes_26 (by decide) ?_
    refine z_icmp_ge (tgt := 88) X dX12_closes_28 (by decide) (fun q => ?_) (fun q => ?_)
    · have h := zp q h
      obtain rfl := Option.some.inj h
      exact z_vret X hr (fun t hG hF _ => ⟨⟨(), rfl, trivial, hG⟩, hF⟩) dX12_closes_88
    · have h := zn q h
      refine z_aload_n X dX12_closes_31 rfl rfl ?_
      refine r_getA X 9 rfl rfl g_1315 dX12_closes_32 ?_
      refine z_iload X dX12_closes_35 rfl ?_
      obtain ⟨q1, h⟩ := zg h
      refine r_ald X 9 rfl rfl q1 dX12_closes_37 ?_
      refine z_iconst (v := (-1)) X dX12_closes_38 (by decide) ?_
      refine z_icmp_eq (tgt := 82) X dX12_closes_39 (by decide) (fun q => ?_) (fun q => ?_)
      · have h := zp q h
        refine zz.pick (lo' := [(0, .ref (ad 40)), (1, .int (v1)), (4, .int (v4))]) [0, 1, 4] rfl ?_
        exact br_closes_82 X hml hr ih h
      · have h := zn q h
        refine z_aload_n X dX12_closes_42 rfl rfl ?_
        refine r_getA X 24 rfl rfl g_1330 dX12_closes_43 ?_
        refine z_aload_n X dX12_closes_46 rfl rfl ?_
        refine r_getA X 9 rfl rfl g_1315 dX12_closes_47 ?_
        refine z_iload X dX12_closes_50 rfl ?_
        obtain ⟨q2, h⟩ := zg h
        refine r_ald X 9 rfl rfl q2 dX12_closes_52 ?_
        obtain ⟨q3, h⟩ := zg h
        refine r_ald X 24 rfl rfl q3 dX12_closes_53 ?_
        refine z_aload_n X dX12_closes_54 rfl rfl ?_
        refine r_getA X 24 rfl rfl g_1330 dX12_closes_55 ?_
        refine z_iload_n X dX12_closes_58 rfl rfl ?_
        obtain ⟨q4, h⟩ := zg h
        refine r_ald X 24 rfl rfl q4 dX12_closes_59 ?_
        refine z_icmp_ne (tgt := 82) X dX12_closes_60 (by decide) (fun q => ?_) (fun q => ?_)
        · have h := zp q h
          refine z_aload_n X dX12_closes_63 rfl rfl ?_
          refine z_aload_n X dX12_closes_64 rfl rfl ?_
          refine r_getA X 9 rfl rfl g_1315 dX12_closes_65 ?_
          refine z_iload X dX12_closes_68 rfl ?_
          obtain ⟨q5, h⟩ := zg h
          refine r_ald X 9 rfl rfl q5 dX12_closes_70 ?_
          refine z_iconst (v := 1) X dX12_closes_71 (by decide) ?_
          refine z_aload_n X dX12_closes_72 rfl rfl ?_
          refine r_getA X 6 rfl rfl g_1312 dX12_closes_73 ?_
          refine z_iload X dX12_closes_76 rfl ?_
          obtain ⟨q6, h⟩ := zg h
          refine r_ald X 6 rfl rfl q6 dX12_closes_78 ?_
          obtain ⟨o7, co7, h⟩ := zb2 h
          refine z_callVv (As := [.int ((ρ 9 (v4).toNatClampNeg)), .int (1), .int ((ρ 6 (v4).toNatClampNeg))]) (rest := []) (nA := 3) (pu := fun (_ : Unit) => True) (G1 := fun _ => rw D dA A o7 ad) X (cr_stops l X.2.2.2.2.2.2.2.2 X.2.2.2.2.2.2.1 co7) g_1579 g_1581 gs_43 g_15 g_1582 hd_yX12_stops ⟨rfl, rfl, Nat.le_of_ble_eq_true rfl, Nat.le_of_ble_eq_true rfl⟩ rfl (fun _ hG => rw_recv X hG) rfl (Nat.le_of_ble_eq_true rfl) dX12_closes_79 ⟨Nat.le_refl _, Nat.le_refl _⟩ (fun _ _ => ?_)
          refine zz.pick (lo' := [(0, .ref (ad 40)), (1, .int (v1)), (4, .int (v4))]) [0, 1, 4] rfl ?_
          exact br_closes_82 X hml hr ih h
        · have h := zn q h
          refine zz.pick (lo' := [(0, .ref (ad 40)), (1, .int (v1)), (4, .int (v4))]) [0, 1, 4] rfl ?_
          exact br_closes_82 X hml hr ih h
def fr_closes (ρ : Rho) (a1 : Int32) (a2 : Int32) (a3 : Int32) : Option (Rho) := (fr_stops ρ (a1) (a2) (a3)).bind fun o1 => if a1 < 0 ∨ 80 ≤ (a1).toNatClampNeg then none else (fr_partiesOf o1 ((o1 24 (a1).toNatClampNeg))).bind fun o3 => (if o3 = 1 then fr_closes_24 FU o1 a1 0
  else some o1)
set_option maxRecDepth 100000 in
set_option maxHeartbeats 4000000 in
theorem br_closes {p : Program} {l : Launch} {e : Env} {s : State} {m : MethodId} {args : Array Value} {below : List Frame} {meth : Method} {c : Code} {D : va_G} {dA : Nat → ClassId} {A : Nat → Prop} {ad : Nat → Nat} {o : Rho} (X : zc p l s m args meth c cX12_closes RX12 D dA A) (hml : c.maxLocals = 5) (hr : meth.sig.returnType = none) {ρ : Rho} {a1 : Int32} {a2 : Int32} {a3 : Int32} (h : fr_closes ρ a1 a2 a3 = some o) : zz p l e ({ frames := 80, cells := 0, slots := 0, locals := 800 } : Room) s m args below meth c A (rw D dA A ρ ad) 0 0 (MQ below (va_Qv (fun (_ : Unit) => True) (fun _ t => rw D dA A o ad t.heap) A) args s 0 0 A) 0 [(0, .ref (ad 40)), (1, .int (a1)), (2, .int (a2)), (3, .int (a3))] [] [] := by
  unfold fr_closes at h
  refine z_aload_n X dX12_closes_0 rfl rfl ?_
  refine z_iload_n X dX12_closes_1 rfl rfl ?_
  refine z_iload_n X dX12_closes_2 rfl rfl ?_
  refine z_iload_n X dX12_closes_3 rfl rfl ?_
  obtain ⟨o1, co1, h⟩ := zb2 h
  refine z_callVv (As := [.int (a1), .int (a2), .int (a3)]) (rest := []) (nA := 3) (pu := fun (_ : Unit) => True) (G1 := fun _ => rw D dA A o1 ad) X (cr_stops l X.2.2.2.2.2.2.2.2 X.2.2.2.2.2.2.1 co1) g_1579 g_1581 gs_43 g_15 g_1582 hd_yX12_stops ⟨rfl, rfl, Nat.le_of_ble_eq_true rfl, Nat.le_of_ble_eq_true rfl⟩ rfl (fun _ hG => rw_recv X hG) rfl (Nat.le_of_ble_eq_true rfl) dX12_closes_4 ⟨Nat.le_refl _, Nat.le_refl _⟩ (fun _ _ => ?_)
  refine z_aload_n X dX12_closes_7 rfl rfl ?_
  refine z_aload_n X dX12_closes_8 rfl rfl ?_
  refine r_getA X 24 rfl rfl g_1330 dX12_closes_9 ?_
  refine z_iload_n X dX12_closes_12 rfl rfl ?_
  obtain ⟨q2, h⟩ := zg h
  refine r_ald X 24 rfl rfl q2 dX12_closes_13 ?_
  obtain ⟨o3, co3, h⟩ := zb2 h
  refine z_callVi (As := [.int ((o1 24 (a1).toNatClampNeg))]) (rest := []) (nA := 1) (r0 := o3) (pu := fun (_ : Unit) => True) (G1 := fun _ => rw D dA A o1 ad) X (cr_partiesOf l X.2.2.2.2.2.2.2.2 X.2.2.2.2.2.2.1 co3) g_1587 g_1589 gs_45 g_15 g_1590 hd_yX12_partiesOf ⟨rfl, rfl, Nat.le_of_ble_eq_true rfl, Nat.le_of_ble_eq_true rfl⟩ rfl (fun _ hG => rw_recv X hG) rfl (Nat.le_of_ble_eq_true rfl) dX12_closes_14 ⟨Nat.le_refl _, Nat.le_refl _⟩ (fun _ _ => ?_)
  refine z_iconst (v := 1) X dX12_closes_17 (by decide) ?_
  refine z_icmp_ne (tgt := 88) X dX12_closes_18 (by decide) (fun q => ?_) (fun q => ?_)
  · have h := zp q h
    refine z_iconst (v := 0) X dX12_closes_21 (by decide) ?_
    refine z_istore (lo' := [(4, .int (0)), (0, .ref (ad 40)), (1, .int (a1)), (2, .int (a2)), (3, .int (a3))]) X dX12_closes_22 (by rw [hml]; decide) rfl rfl ?_
    refine zz.pick (lo' := [(0, .ref (ad 40)), (1, .int (a1)), (4, .int (0))]) [0, 1, 4] rfl ?_
    exact br_closes_24 X hml hr FU h
  · have h := zn q h
    obtain rfl := Option.some.inj h
    exact z_vret X hr (fun t hG hF _ => ⟨⟨(), rfl, trivial, hG⟩, hF⟩) dX12_closes_88
theorem cr_closes (l : Launch) {D : va_G} {dA : Nat → ClassId} {A : Nat → Prop} {n : Nat} {ad : Nat → Nat} (hst : l.stackTraces = false) (hA : ∀ q, n ≤ q → A q) {ρ : Rho} {a1 : Int32} {a2 : Int32} {a3 : Int32} {o : Rho} (h : fr_closes ρ a1 a2 a3 = some o) : Met l yX12_closes (.code yX12_closes cX12_closes 5 none :: gT) ({ frames := 80, cells := 0, slots := 0, locals := 800 } : Room) (va_Pc [.ref (ad 40), .int a1, .int a2, .int a3] (zB D dA A n (rw D dA A ρ ad))) (va_Qv (fun (_ : Unit) => True) (fun _ t => rw D dA A o ad t.heap) A) 0 0 A :=
  z_met (by decide) hA hst (Nat.le_of_ble_eq_true rfl) rfl rfl (fun p e s m below meth c X hml hr _ => br_closes X hml hr h)
-- getsSlice(I)V
def fr_getsSlice_37 (ρ : Rho) (v1 : Int32) (v2 : Int32) (s0 : Int32) : Option (Rho) := if v2 < 0 ∨ 40 ≤ (v2).toNatClampNeg then none else if v2 < 0 ∨ 40 ≤ (v2).toNatClampNeg then none else (some (cs ρ 17 (v2).toNatClampNeg (((ρ 17 (v2).toNatClampNeg) - s0)))).bind fun ρ2 => if v1 < 0 ∨ 80 ≤ (v1).toNatClampNeg then none else (some (cs ρ2 33 (v1).toNatClampNeg (v2))).bind fun ρ4 => if v1 < 0 ∨ 80 ≤ (v1).toNatClampNeg then none else (some (cs ρ4 34 (v1).toNatClampNeg (s0))).bind fun ρ6 => some ρ6
set_option maxRecDepth 100000 in
set_option maxHeartbeats 4000000 in
theorem br_getsSlice_37 {p : Program} {l : Launch} {e : Env} {s : State} {m : MethodId} {args : Array Value} {below : List Frame} {meth : Method} {c : Code} {D : va_G} {dA : Nat → ClassId} {A : Nat → Prop} {ad : Nat → Nat} {o : Rho} (X : zc p l s m args meth c cX12_getsSlice RX12 D dA A) (hml : c.maxLocals = 4) (hr : meth.sig.returnType = none) {ρ : Rho} {v1 : Int32} {v2 : Int32} {s0 : Int32} (h : fr_getsSlice_37 ρ v1 v2 s0 = some o) : zz p l e ({ frames := 100, cells := 0, slots := 0, locals := 1000 } : Room) s m args below meth c A (rw D dA A ρ ad) 0 0 (MQ below (va_Qv (fun (_ : Unit) => True) (fun _ t => rw D dA A o ad t.heap) A) args s 0 0 A) 37 [(0, .ref (ad 40)), (1, .int (v1)), (2, .int (v2))] [] [.int (s0)] := by
  unfold fr_getsSlice_37 at h
  refine z_istore_n (lo' := [(3, .int (s0)), (0, .ref (ad 40)), (1, .int (v1)), (2, .int (v2))]) X dX12_getsSlice_37 rfl (by rw [hml]; decide) rfl rfl ?_
  refine z_aload_n X dX12_getsSlice_38 rfl rfl ?_
  refine r_getA X 17 rfl rfl g_1323 dX12_getsSlice_39 ?_
  refine z_iload_n X dX12_getsSlice_42 rfl rfl ?_
  refine z_dup2 X dX12_getsSlice_43 rfl rfl ?_
  obtain ⟨q1, h⟩ := zg h
  refine r_ald X 17 rfl rfl q1 dX12_getsSlice_44 ?_
  refine z_iload_n X dX12_getsSlice_45 rfl rfl ?_
  refine z_isub X dX12_getsSlice_46 ?_
  obtain ⟨q3, h⟩ := zg h
  obtain ⟨ρ2, eρ2, h⟩ := zb h
  refine r_ast X 17 rfl rfl q3 eρ2 dX12_getsSlice_47 ?_
  refine z_aload_n X dX12_getsSlice_48 rfl rfl ?_
  refine r_getA X 33 rfl rfl g_1339 dX12_getsSlice_49 ?_
  refine z_iload_n X dX12_getsSlice_52 rfl rfl ?_
  refine z_iload_n X dX12_getsSlice_53 rfl rfl ?_
  obtain ⟨q5, h⟩ := zg h
  obtain ⟨ρ4, eρ4, h⟩ := zb h
  refine r_ast X 33 rfl rfl q5 eρ4 dX12_getsSlice_54 ?_
  refine z_aload_n X dX12_getsSlice_55 rfl rfl ?_
  refine r_getA X 34 rfl rfl g_1340 dX12_getsSlice_56 ?_
  refine z_iload_n X dX12_getsSlice_59 rfl rfl ?_
  refine z_iload_n X dX12_getsSlice_60 rfl rfl ?_
  obtain ⟨q7, h⟩ := zg h
  obtain ⟨ρ6, eρ6, h⟩ := zb h
  refine r_ast X 34 rfl rfl q7 eρ6 dX12_getsSlice_61 ?_
  obtain rfl := Option.some.inj h
  exact z_vret X hr (fun t hG hF _ => ⟨⟨(), rfl, trivial, hG⟩, hF⟩) dX12_getsSlice_62
def fr_getsSlice (ρ : Rho) (a1 : Int32) : Option (Rho) := (fr_bundleFor ρ (a1)).bind fun o1 => (if o1 = (-1) then (fr_moneyFor ρ (a1)).bind fun o2 => (some (o2.2)).bind fun x3 => if a1 < 0 ∨ 80 ≤ (a1).toNatClampNeg then none else (some (cs o2.1 33 (a1).toNatClampNeg ((-1)))).bind fun ρ4 => if a1 < 0 ∨ 80 ≤ (a1).toNatClampNeg then none else (some (cs ρ4 34 (a1).toNatClampNeg (x3))).bind fun ρ6 => if a1 < 0 ∨ 80 ≤ (a1).toNatClampNeg then none else (fr_rateNow ρ6 ((ρ6 23 (a1).toNatClampNeg))).bind fun o9 => if a1 < 0 ∨ 80 ≤ (a1).toNatClampNeg then none else (some (cs ρ6 35 (a1).toNatClampNeg (o9))).bind fun ρ10 => (if x3 = 0 then (some (cs ρ10 36 0 (((ρ10 36 0) + 1)))).bind fun ρ12 => if a1 < 0 ∨ 80 ≤ (a1).toNatClampNeg then none else if (ρ12 23 (a1).toNatClampNeg) < 0 ∨ 10 ≤ ((ρ12 23 (a1).toNatClampNeg)).toNatClampNeg then none else (fr_closes ρ12 (a1) (2) ((ρ12 6 ((ρ12 23 (a1).toNatClampNeg)).toNatClampNeg))).bind fun o15 => some o15
  else some ρ10)
  else if o1 < 0 ∨ 40 ≤ (o1).toNatClampNeg then none else (if (ρ 1 0) ≤ (ρ 17 (o1).toNatClampNeg) then fr_getsSlice_37 ρ a1 o1 (ρ 1 0)
  else if o1 < 0 ∨ 40 ≤ (o1).toNatClampNeg then none else fr_getsSlice_37 ρ a1 o1 (ρ 17 (o1).toNatClampNeg)))
set_option maxRecDepth 100000 in
set_option maxHeartbeats 4000000 in
theorem br_getsSlice {p : Program} {l : Launch} {e : Env} {s : State} {m : MethodId} {args : Array Value} {below : List Frame} {meth : Method} {c : Code} {D : va_G} {dA : Nat → ClassId} {A : Nat → Prop} {ad : Nat → Nat} {o : Rho} (X : zc p l s m args meth c cX12_getsSlice RX12 D dA A) (hml : c.maxLocals = 4) (hr : meth.sig.returnType = none) {ρ : Rho} {a1 : Int32} (h : fr_getsSlice ρ a1 = some o) : zz p l e ({ frames := 100, cells := 0, slots := 0, locals := 1000 } : Room) s m args below meth c A (rw D dA A ρ ad) 0 0 (MQ below (va_Qv (fun (_ : Unit) => True) (fun _ t => rw D dA A o ad t.heap) A) args s 0 0 A) 0 [(0, .ref (ad 40)), (1, .int (a1))] [] [] := by
  unfold fr_getsSlice at h
  refine z_aload_n X dX12_getsSlice_0 rfl rfl ?_
  refine z_iload_n X dX12_getsSlice_1 rfl rfl ?_
  obtain ⟨o1, co1, h⟩ := zb2 h
  refine z_callVi (As := [.int (a1)]) (rest := []) (nA := 1) (r0 := o1) (pu := fun (_ : Unit) => True) (G1 := fun _ => rw D dA A ρ ad) X (cr_bundleFor l X.2.2.2.2.2.2.2.2 X.2.2.2.2.2.2.1 co1) g_1543 g_1545 gs_34 g_15 g_1546 hd_yX12_bundleFor ⟨rfl, rfl, Nat.le_of_ble_eq_true rfl, Nat.le_of_ble_eq_true rfl⟩ rfl (fun _ hG => rw_recv X hG) rfl (Nat.le_of_ble_eq_true rfl) dX12_getsSlice_2 ⟨Nat.le_refl _, Nat.le_refl _⟩ (fun _ _ => ?_)
  refine z_istore_n (lo' := [(2, .int (o1)), (0, .ref (ad 40)), (1, .int (a1))]) X dX12_getsSlice_5 rfl (by rw [hml]; decide) rfl rfl ?_
  refine z_iload_n X dX12_getsSlice_6 rfl rfl ?_
  refine z_iconst (v := (-1)) X dX12_getsSlice_7 (by decide) ?_
  refine z_icmp_eq (tgt := 63) X dX12_getsSlice_8 (by decide) (fun q => ?_) (fun q => ?_)
  · have h := zp q h
    refine z_aload_n X dX12_getsSlice_63 rfl rfl ?_
    refine z_iload_n X dX12_getsSlice_64 rfl rfl ?_
    obtain ⟨o2, co2, h⟩ := zb2 h
    refine z_callVi (As := [.int (a1)]) (rest := []) (nA := 1) (r0 := o2.2) (pu := fun (_ : Unit) => True) (G1 := fun _ => rw D dA A o2.1 ad) X (cr_moneyFor l X.2.2.2.2.2.2.2.2 X.2.2.2.2.2.2.1 co2) g_1551 g_1553 gs_36 g_15 g_1554 hd_yX12_moneyFor ⟨rfl, rfl, Nat.le_of_ble_eq_true rfl, Nat.le_of_ble_eq_true rfl⟩ rfl (fun _ hG => rw_recv X hG) rfl (Nat.le_of_ble_eq_true rfl) dX12_getsSlice_65 ⟨Nat.le_refl _, Nat.le_refl _⟩ (fun _ _ => ?_)
    obtain ⟨x3, ex3, h⟩ := zb h
    rw [ex3]
    refine z_istore_n (lo' := [(3, .int (x3)), (2, .int (o1)), (0, .ref (ad 40)), (1, .int (a1))]) X dX12_getsSlice_68 rfl (by rw [hml]; decide) rfl rfl ?_
    refine z_aload_n X dX12_getsSlice_69 rfl rfl ?_
    refine r_getA X 33 rfl rfl g_1339 dX12_getsSlice_70 ?_
    refine z_iload_n X dX12_getsSlice_73 rfl rfl ?_
    refine z_iconst (v := (-1)) X dX12_getsSlice_74 (by decide) ?_
    obtain ⟨q5, h⟩ := zg h
    obtain ⟨ρ4, eρ4, h⟩ := zb h
    refine r_ast X 33 rfl rfl q5 eρ4 dX12_getsSlice_75 ?_
    refine z_aload_n X dX12_getsSlice_76 rfl rfl ?_
    refine r_getA X 34 rfl rfl g_1340 dX12_getsSlice_77 ?_
    refine z_iload_n X dX12_getsSlice_80 rfl rfl ?_
    refine z_iload_n X dX12_getsSlice_81 rfl rfl ?_
    obtain ⟨q7, h⟩ := zg h
    obtain ⟨ρ6, eρ6, h⟩ := zb h
    refine r_ast X 34 rfl rfl q7 eρ6 dX12_getsSlice_82 ?_
    refine z_aload_n X dX12_getsSlice_83 rfl rfl ?_
    refine r_getA X 35 rfl rfl g_1341 dX12_getsSlice_84 ?_
    refine z_iload_n X dX12_getsSlice_87 rfl rfl ?_
    refine z_aload_n X dX12_getsSlice_88 rfl rfl ?_
    refine z_aload_n X dX12_getsSlice_89 rfl rfl ?_
    refine r_getA X 23 rfl rfl g_1329 dX12_getsSlice_90 ?_
    refine z_iload_n X dX12_getsSlice_93 rfl rfl ?_
    obtain ⟨q8, h⟩ := zg h
    refine r_ald X 23 rfl rfl q8 dX12_getsSlice_94 ?_
    obtain ⟨o9, co9, h⟩ := zb2 h
    refine z_callVi (As := [.int ((ρ6 23 (a1).toNatClampNeg))]) (rest := [.int (a1), .ref (ad 35)]) (nA := 1) (r0 := o9) (pu := fun (_ : Unit) => True) (G1 := fun _ => rw D dA A ρ6 ad) X (cr_rateNow l X.2.2.2.2.2.2.2.2 X.2.2.2.2.2.2.1 co9) g_1555 g_1557 gs_37 g_15 g_1558 hd_yX12_rateNow ⟨rfl, rfl, Nat.le_of_ble_eq_true rfl, Nat.le_of_ble_eq_true rfl⟩ rfl (fun _ hG => rw_recv X hG) rfl (Nat.le_of_ble_eq_true rfl) dX12_getsSlice_95 ⟨Nat.le_refl _, Nat.le_refl _⟩ (fun _ _ => ?_)
    obtain ⟨q11, h⟩ := zg h
    obtain ⟨ρ10, eρ10, h⟩ := zb h
    refine r_ast X 35 rfl rfl q11 eρ10 dX12_getsSlice_98 ?_
    refine z_iload_n X dX12_getsSlice_99 rfl rfl ?_
    refine z_if_ne (tgt := 130) X dX12_getsSlice_100 (by decide) (fun q => ?_) (fun q => ?_)
    · have h := zp q h
      refine z_aload_n X dX12_getsSlice_103 rfl rfl ?_
      refine z_dup X dX12_getsSlice_104 rfl ?_
      refine r_getS X 36 rfl rfl g_1342 dX12_getsSlice_105 ?_
      refine z_iconst (v := 1) X dX12_getsSlice_108 (by decide) ?_
      refine z_iadd X dX12_getsSlice_109 ?_
      obtain ⟨ρ12, eρ12, h⟩ := zb h
      refine r_putS X 36 rfl rfl rfl g_1342 eρ12 dX12_getsSlice_110 ?_
      refine z_aload_n X dX12_getsSlice_113 rfl rfl ?_
      refine z_iload_n X dX12_getsSlice_114 rfl rfl ?_
      refine z_iconst (v := 2) X dX12_getsSlice_115 (by decide) ?_
      refine z_aload_n X dX12_getsSlice_116 rfl rfl ?_
      refine r_getA X 6 rfl rfl g_1312 dX12_getsSlice_117 ?_
      refine z_aload_n X dX12_getsSlice_120 rfl rfl ?_
      refine r_getA X 23 rfl rfl g_1329 dX12_getsSlice_121 ?_
      refine z_iload_n X dX12_getsSlice_124 rfl rfl ?_
      obtain ⟨q13, h⟩ := zg h
      refine r_ald X 23 rfl rfl q13 dX12_getsSlice_125 ?_
      obtain ⟨q14, h⟩ := zg h
      refine r_ald X 6 rfl rfl q14 dX12_getsSlice_126 ?_
      obtain ⟨o15, co15, h⟩ := zb2 h
      refine z_callVv (As := [.int (a1), .int (2), .int ((ρ12 6 ((ρ12 23 (a1).toNatClampNeg)).toNatClampNeg))]) (rest := []) (nA := 3) (pu := fun (_ : Unit) => True) (G1 := fun _ => rw D dA A o15 ad) X (cr_closes l X.2.2.2.2.2.2.2.2 X.2.2.2.2.2.2.1 co15) g_1575 g_1577 gs_42 g_15 g_1578 hd_yX12_closes ⟨rfl, rfl, Nat.le_of_ble_eq_true rfl, Nat.le_of_ble_eq_true rfl⟩ rfl (fun _ hG => rw_recv X hG) rfl (Nat.le_of_ble_eq_true rfl) dX12_getsSlice_127 ⟨Nat.le_refl _, Nat.le_refl _⟩ (fun _ _ => ?_)
      obtain rfl := Option.some.inj h
      exact z_vret X hr (fun t hG hF _ => ⟨⟨(), rfl, trivial, hG⟩, hF⟩) dX12_getsSlice_130
    · have h := zn q h
      obtain rfl := Option.some.inj h
      exact z_vret X hr (fun t hG hF _ => ⟨⟨(), rfl, trivial, hG⟩, hF⟩) dX12_getsSlice_130
  · have h := zn q h
    refine z_aload_n X dX12_getsSlice_11 rfl rfl ?_
    refine r_getA X 17 rfl rfl g_1323 dX12_getsSlice_12 ?_
    refine z_iload_n X dX12_getsSlice_15 rfl rfl ?_
    obtain ⟨q16, h⟩ := zg h
    refine r_ald X 17 rfl rfl q16 dX12_getsSlice_16 ?_
    refine z_aload_n X dX12_getsSlice_17 rfl rfl ?_
    refine r_getS X 1 rfl rfl g_1307 dX12_getsSlice_18 ?_
    refine z_icmp_ge (tgt := 33) X dX12_getsSlice_21 (by decide) (fun q => ?_) (fun q => ?_)
    · have h := zp q h
      refine z_aload_n X dX12_getsSlice_33 rfl rfl ?_
      refine r_getS X 1 rfl rfl g_1307 dX12_getsSlice_34 ?_
      refine zz.pick (lo' := [(0, .ref (ad 40)), (1, .int (a1)), (2, .int (o1))]) [0, 1, 2] rfl ?_
      exact br_getsSlice_37 X hml hr h
    · have h := zn q h
      refine z_aload_n X dX12_getsSlice_24 rfl rfl ?_
      refine r_getA X 17 rfl rfl g_1323 dX12_getsSlice_25 ?_
      refine z_iload_n X dX12_getsSlice_28 rfl rfl ?_
      obtain ⟨q17, h⟩ := zg h
      refine r_ald X 17 rfl rfl q17 dX12_getsSlice_29 ?_
      refine z_goto (tgt := 37) X dX12_getsSlice_30 (by decide) ?_
      refine zz.pick (lo' := [(0, .ref (ad 40)), (1, .int (a1)), (2, .int (o1))]) [0, 1, 2] rfl ?_
      exact br_getsSlice_37 X hml hr h
theorem cr_getsSlice (l : Launch) {D : va_G} {dA : Nat → ClassId} {A : Nat → Prop} {n : Nat} {ad : Nat → Nat} (hst : l.stackTraces = false) (hA : ∀ q, n ≤ q → A q) {ρ : Rho} {a1 : Int32} {o : Rho} (h : fr_getsSlice ρ a1 = some o) : Met l yX12_getsSlice (.code yX12_getsSlice cX12_getsSlice 4 none :: gT) ({ frames := 100, cells := 0, slots := 0, locals := 1000 } : Room) (va_Pc [.ref (ad 40), .int a1] (zB D dA A n (rw D dA A ρ ad))) (va_Qv (fun (_ : Unit) => True) (fun _ t => rw D dA A o ad t.heap) A) 0 0 A :=
  z_met (by decide) hA hst (Nat.le_of_ble_eq_true rfl) rfl rfl (fun p e s m below meth c X hml hr _ => br_getsSlice X hml hr h)
-- begins(III)I
def fr_begins (ρ : Rho) (a1 : Int32) (a2 : Int32) (a3 : Int32) : Option (Rho × Int32) := (some ((ρ 22 0))).bind fun x1 => (some (cs ρ 22 0 (((ρ 22 0) + 1)))).bind fun ρ2 => if x1 < 0 ∨ 80 ≤ (x1).toNatClampNeg then none else (some (cs ρ2 23 (x1).toNatClampNeg (a1))).bind fun ρ3 => if x1 < 0 ∨ 80 ≤ (x1).toNatClampNeg then none else (some (cs ρ3 24 (x1).toNatClampNeg (a2))).bind fun ρ5 => if x1 < 0 ∨ 80 ≤ (x1).toNatClampNeg then none else (some (cs ρ5 25 (x1).toNatClampNeg (a3))).bind fun ρ7 => if x1 < 0 ∨ 80 ≤ (x1).toNatClampNeg then none else (some (cs ρ7 30 (x1).toNatClampNeg (a1))).bind fun ρ9 => if x1 < 0 ∨ 80 ≤ (x1).toNatClampNeg then none else (some (cs ρ9 31 (x1).toNatClampNeg (a1))).bind fun ρ11 => if x1 < 0 ∨ 80 ≤ (x1).toNatClampNeg then none else (some (cs ρ11 33 (x1).toNatClampNeg ((-2)))).bind fun ρ13 => if x1 < 0 ∨ 80 ≤ (x1).toNatClampNeg then none else (some (cs ρ13 32 (x1).toNatClampNeg ((ρ13 0 0)))).bind fun ρ15 => if a1 < 0 ∨ 10 ≤ (a1).toNatClampNeg then none else (some (cs ρ15 9 (a1).toNatClampNeg (x1))).bind fun ρ17 => if a1 < 0 ∨ 10 ≤ (a1).toNatClampNeg then none else (fr_notes ρ17 (x1) (0) ((ρ17 0 0)) ((ρ17 6 (a1).toNatClampNeg))).bind fun o20 => some (o20, x1)
set_option maxRecDepth 100000 in
set_option maxHeartbeats 4000000 in
theorem br_begins {p : Program} {l : Launch} {e : Env} {s : State} {m : MethodId} {args : Array Value} {below : List Frame} {meth : Method} {c : Code} {D : va_G} {dA : Nat → ClassId} {A : Nat → Prop} {ad : Nat → Nat} {o : Rho × Int32} (X : zc p l s m args meth c cX12_begins RX12 D dA A) (hml : c.maxLocals = 5) (hr : meth.sig.returnType = (some .int)) {ρ : Rho} {a1 : Int32} {a2 : Int32} {a3 : Int32} (h : fr_begins ρ a1 a2 a3 = some o) : zz p l e ({ frames := 60, cells := 0, slots := 0, locals := 600 } : Room) s m args below meth c A (rw D dA A ρ ad) 0 0 (MQ below (va_Qi (fun r (_ : Unit) => r = o.2 ∧ True) (fun _ t => rw D dA A o.1 ad t.heap) A) args s 0 0 A) 0 [(0, .ref (ad 40)), (1, .int (a1)), (2, .int (a2)), (3, .int (a3))] [] [] := by
  unfold fr_begins at h
  refine z_aload_n X dX12_begins_0 rfl rfl ?_
  refine r_getS X 22 rfl rfl g_1328 dX12_begins_1 ?_
  obtain ⟨x1, ex1, h⟩ := zb h
  rw [ex1]
  refine z_istore (lo' := [(4, .int (x1)), (0, .ref (ad 40)), (1, .int (a1)), (2, .int (a2)), (3, .int (a3))]) X dX12_begins_4 (by rw [hml]; decide) rfl rfl ?_
  refine z_aload_n X dX12_begins_6 rfl rfl ?_
  refine z_dup X dX12_begins_7 rfl ?_
  refine r_getS X 22 rfl rfl g_1328 dX12_begins_8 ?_
  refine z_iconst (v := 1) X dX12_begins_11 (by decide) ?_
  refine z_iadd X dX12_begins_12 ?_
  obtain ⟨ρ2, eρ2, h⟩ := zb h
  refine r_putS X 22 rfl rfl rfl g_1328 eρ2 dX12_begins_13 ?_
  refine z_aload_n X dX12_begins_16 rfl rfl ?_
  refine r_getA X 23 rfl rfl g_1329 dX12_begins_17 ?_
  refine z_iload X dX12_begins_20 rfl ?_
  refine z_iload_n X dX12_begins_22 rfl rfl ?_
  obtain ⟨q4, h⟩ := zg h
  obtain ⟨ρ3, eρ3, h⟩ := zb h
  refine r_ast X 23 rfl rfl q4 eρ3 dX12_begins_23 ?_
  refine z_aload_n X dX12_begins_24 rfl rfl ?_
  refine r_getA X 24 rfl rfl g_1330 dX12_begins_25 ?_
  refine z_iload X dX12_begins_28 rfl ?_
  refine z_iload_n X dX12_begins_30 rfl rfl ?_
  obtain ⟨q6, h⟩ := zg h
  obtain ⟨ρ5, eρ5, h⟩ := zb h
  refine r_ast X 24 rfl rfl q6 eρ5 dX12_begins_31 ?_
  refine z_aload_n X dX12_begins_32 rfl rfl ?_
  refine r_getA X 25 rfl rfl g_1331 dX12_begins_33 ?_
  refine z_iload X dX12_begins_36 rfl ?_
  refine z_iload_n X dX12_begins_38 rfl rfl ?_
  obtain ⟨q8, h⟩ := zg h
  obtain ⟨ρ7, eρ7, h⟩ := zb h
  refine r_ast X 25 rfl rfl q8 eρ7 dX12_begins_39 ?_
  refine z_aload_n X dX12_begins_40 rfl rfl ?_
  refine r_getA X 30 rfl rfl g_1336 dX12_begins_41 ?_
  refine z_iload X dX12_begins_44 rfl ?_
  refine z_iload_n X dX12_begins_46 rfl rfl ?_
  obtain ⟨q10, h⟩ := zg h
  obtain ⟨ρ9, eρ9, h⟩ := zb h
  refine r_ast X 30 rfl rfl q10 eρ9 dX12_begins_47 ?_
  refine z_aload_n X dX12_begins_48 rfl rfl ?_
  refine r_getA X 31 rfl rfl g_1337 dX12_begins_49 ?_
  refine z_iload X dX12_begins_52 rfl ?_
  refine z_iload_n X dX12_begins_54 rfl rfl ?_
  obtain ⟨q12, h⟩ := zg h
  obtain ⟨ρ11, eρ11, h⟩ := zb h
  refine r_ast X 31 rfl rfl q12 eρ11 dX12_begins_55 ?_
  refine z_aload_n X dX12_begins_56 rfl rfl ?_
  refine r_getA X 33 rfl rfl g_1339 dX12_begins_57 ?_
  refine z_iload X dX12_begins_60 rfl ?_
  refine z_bipush (v := (-2)) X dX12_begins_62 (by decide) ?_
  obtain ⟨q14, h⟩ := zg h
  obtain ⟨ρ13, eρ13, h⟩ := zb h
  refine r_ast X 33 rfl rfl q14 eρ13 dX12_begins_64 ?_
  refine z_aload_n X dX12_begins_65 rfl rfl ?_
  refine r_getA X 32 rfl rfl g_1338 dX12_begins_66 ?_
  refine z_iload X dX12_begins_69 rfl ?_
  refine z_aload_n X dX12_begins_71 rfl rfl ?_
  refine r_getS X 0 rfl rfl g_1306 dX12_begins_72 ?_
  obtain ⟨q16, h⟩ := zg h
  obtain ⟨ρ15, eρ15, h⟩ := zb h
  refine r_ast X 32 rfl rfl q16 eρ15 dX12_begins_75 ?_
  refine z_aload_n X dX12_begins_76 rfl rfl ?_
  refine r_getA X 9 rfl rfl g_1315 dX12_begins_77 ?_
  refine z_iload_n X dX12_begins_80 rfl rfl ?_
  refine z_iload X dX12_begins_81 rfl ?_
  obtain ⟨q18, h⟩ := zg h
  obtain ⟨ρ17, eρ17, h⟩ := zb h
  refine r_ast X 9 rfl rfl q18 eρ17 dX12_begins_83 ?_
  refine z_aload_n X dX12_begins_84 rfl rfl ?_
  refine z_iload X dX12_begins_85 rfl ?_
  refine z_iconst (v := 0) X dX12_begins_87 (by decide) ?_
  refine z_aload_n X dX12_begins_88 rfl rfl ?_
  refine r_getS X 0 rfl rfl g_1306 dX12_begins_89 ?_
  refine z_aload_n X dX12_begins_92 rfl rfl ?_
  refine r_getA X 6 rfl rfl g_1312 dX12_begins_93 ?_
  refine z_iload_n X dX12_begins_96 rfl rfl ?_
  obtain ⟨q19, h⟩ := zg h
  refine r_ald X 6 rfl rfl q19 dX12_begins_97 ?_
  obtain ⟨o20, co20, h⟩ := zb2 h
  refine z_callVv (As := [.int (x1), .int (0), .int ((ρ17 0 0)), .int ((ρ17 6 (a1).toNatClampNeg))]) (rest := []) (nA := 4) (pu := fun (_ : Unit) => True) (G1 := fun _ => rw D dA A o20 ad) X (cr_notes l X.2.2.2.2.2.2.2.2 X.2.2.2.2.2.2.1 co20) g_1532 g_1534 gs_32 g_15 g_1535 hd_yX12_notes ⟨rfl, rfl, Nat.le_of_ble_eq_true rfl, Nat.le_of_ble_eq_true rfl⟩ rfl (fun _ hG => rw_recv X hG) rfl (Nat.le_of_ble_eq_true rfl) dX12_begins_98 ⟨Nat.le_refl _, Nat.le_refl _⟩ (fun _ _ => ?_)
  refine z_iload X dX12_begins_101 rfl ?_
  obtain rfl := Option.some.inj h
  exact z_iret X hr rfl (fun t hG hF _ => ⟨⟨_, (), rfl, ⟨rfl, trivial⟩, hG⟩, hF⟩) dX12_begins_103
theorem cr_begins (l : Launch) {D : va_G} {dA : Nat → ClassId} {A : Nat → Prop} {n : Nat} {ad : Nat → Nat} (hst : l.stackTraces = false) (hA : ∀ q, n ≤ q → A q) {ρ : Rho} {a1 : Int32} {a2 : Int32} {a3 : Int32} {o : Rho × Int32} (h : fr_begins ρ a1 a2 a3 = some o) : Met l yX12_begins (.code yX12_begins cX12_begins 5 (some .int) :: gT) ({ frames := 60, cells := 0, slots := 0, locals := 600 } : Room) (va_Pc [.ref (ad 40), .int a1, .int a2, .int a3] (zB D dA A n (rw D dA A ρ ad))) (va_Qi (fun r (_ : Unit) => r = o.2 ∧ True) (fun _ t => rw D dA A o.1 ad t.heap) A) 0 0 A :=
  z_met (by decide) hA hst (Nat.le_of_ble_eq_true rfl) rfl rfl (fun p e s m below meth c X hml hr _ => br_begins X hml hr h)
-- hasChannels(II)Z
def fr_hasChannels (ρ : Rho) (a1 : Int32) (a2 : Int32) : Option (Int32) := (fr_legsIn ρ (a1)).bind fun o1 => if a1 < 0 ∨ 8 ≤ (a1).toNatClampNeg then none else if a1 < 0 ∨ 8 ≤ (a1).toNatClampNeg then none else (if ((ρ 3 (a1).toNatClampNeg) - (ρ 4 (a1).toNatClampNeg)) < (o1 + a2) then some (0)
  else some (1))
set_option maxRecDepth 100000 in
set_option maxHeartbeats 4000000 in
theorem br_hasChannels {p : Program} {l : Launch} {e : Env} {s : State} {m : MethodId} {args : Array Value} {below : List Frame} {meth : Method} {c : Code} {D : va_G} {dA : Nat → ClassId} {A : Nat → Prop} {ad : Nat → Nat} {o : Int32} (X : zc p l s m args meth c cX12_hasChannels RX12 D dA A) (hml : c.maxLocals = 3) (hr : meth.sig.returnType = (some .boolean)) {ρ : Rho} {a1 : Int32} {a2 : Int32} (h : fr_hasChannels ρ a1 a2 = some o) : zz p l e ({ frames := 40, cells := 0, slots := 0, locals := 400 } : Room) s m args below meth c A (rw D dA A ρ ad) 0 0 (MQ below (va_Qi (fun r (_ : Unit) => r = o ∧ True) (fun _ t => rw D dA A ρ ad t.heap) A) args s 0 0 A) 0 [(0, .ref (ad 40)), (1, .int (a1)), (2, .int (a2))] [] [] := by
  unfold fr_hasChannels at h
  refine z_aload_n X dX12_hasChannels_0 rfl rfl ?_
  refine z_iload_n X dX12_hasChannels_1 rfl rfl ?_
  obtain ⟨o1, co1, h⟩ := zb2 h
  refine z_callVi (As := [.int (a1)]) (rest := []) (nA := 1) (r0 := o1) (pu := fun (_ : Unit) => True) (G1 := fun _ => rw D dA A ρ ad) X (cr_legsIn l X.2.2.2.2.2.2.2.2 X.2.2.2.2.2.2.1 co1) g_1453 g_1455 gs_26 g_15 g_1456 hd_yX12_legsIn ⟨rfl, rfl, Nat.le_of_ble_eq_true rfl, Nat.le_of_ble_eq_true rfl⟩ rfl (fun _ hG => rw_recv X hG) rfl (Nat.le_of_ble_eq_true rfl) dX12_hasChannels_2 ⟨Nat.le_refl _, Nat.le_refl _⟩ (fun _ _ => ?_)
  refine z_iload_n X dX12_hasChannels_5 rfl rfl ?_
  refine z_iadd X dX12_hasChannels_6 ?_
  refine z_aload_n X dX12_hasChannels_7 rfl rfl ?_
  refine r_getA X 3 rfl rfl g_1309 dX12_hasChannels_8 ?_
  refine z_iload_n X dX12_hasChannels_11 rfl rfl ?_
  obtain ⟨q2, h⟩ := zg h
  refine r_ald X 3 rfl rfl q2 dX12_hasChannels_12 ?_
  refine z_aload_n X dX12_hasChannels_13 rfl rfl ?_
  refine r_getA X 4 rfl rfl g_1310 dX12_hasChannels_14 ?_
  refine z_iload_n X dX12_hasChannels_17 rfl rfl ?_
  obtain ⟨q3, h⟩ := zg h
  refine r_ald X 4 rfl rfl q3 dX12_hasChannels_18 ?_
  refine z_isub X dX12_hasChannels_19 ?_
  refine z_icmp_gt (tgt := 27) X dX12_hasChannels_20 (by decide) (fun q => ?_) (fun q => ?_)
  · have h := zp q h
    refine z_iconst (v := 0) X dX12_hasChannels_27 (by decide) ?_
    obtain rfl := Option.some.inj h
    exact z_iret X hr rfl (fun t hG hF _ => ⟨⟨_, (), rfl, ⟨rfl, trivial⟩, hG⟩, hF⟩) dX12_hasChannels_28
  · have h := zn q h
    refine z_iconst (v := 1) X dX12_hasChannels_23 (by decide) ?_
    refine z_goto (tgt := 28) X dX12_hasChannels_24 (by decide) ?_
    obtain rfl := Option.some.inj h
    exact z_iret X hr rfl (fun t hG hF _ => ⟨⟨_, (), rfl, ⟨rfl, trivial⟩, hG⟩, hF⟩) dX12_hasChannels_28
theorem cr_hasChannels (l : Launch) {D : va_G} {dA : Nat → ClassId} {A : Nat → Prop} {n : Nat} {ad : Nat → Nat} (hst : l.stackTraces = false) (hA : ∀ q, n ≤ q → A q) {ρ : Rho} {a1 : Int32} {a2 : Int32} {o : Int32} (h : fr_hasChannels ρ a1 a2 = some o) : Met l yX12_hasChannels (.code yX12_hasChannels cX12_hasChannels 3 (some .boolean) :: gT) ({ frames := 40, cells := 0, slots := 0, locals := 400 } : Room) (va_Pc [.ref (ad 40), .int a1, .int a2] (zB D dA A n (rw D dA A ρ ad))) (va_Qi (fun r (_ : Unit) => r = o ∧ True) (fun _ t => rw D dA A ρ ad t.heap) A) 0 0 A :=
  z_met (by decide) hA hst (Nat.le_of_ble_eq_true rfl) rfl rfl (fun p e s m below meth c X hml hr _ => br_hasChannels X hml hr h)
-- begin(IIZ)I
def fr_begin_242 (ρ : Rho) (v7 : Int32) (v8 : Int32) (s1 : Int32) (s2 : Int32) (s4 : Int32) : Option (Rho × Int32) := if s4 < 0 ∨ 10 ≤ (s4).toNatClampNeg then none else (fr_begins ρ (s1) (s2) ((ρ 7 (s4).toNatClampNeg))).bind fun o2 => (some (o2.2)).bind fun x3 => (fr_getsSlice o2.1 (v8)).bind fun o4 => if x3 < 0 ∨ 80 ≤ (x3).toNatClampNeg then none else (if (o4 26 (x3).toNatClampNeg) = 0 then (fr_getsSlice o4 (x3)).bind fun o6 => some (o6, v7)
  else some (o4, v7))
set_option maxRecDepth 100000 in
set_option maxHeartbeats 4000000 in
theorem br_begin_242 {p : Program} {l : Launch} {e : Env} {s : State} {m : MethodId} {args : Array Value} {below : List Frame} {meth : Method} {c : Code} {D : va_G} {dA : Nat → ClassId} {A : Nat → Prop} {ad : Nat → Nat} {o : Rho × Int32} (X : zc p l s m args meth c cX12_begin RX12 D dA A) (hml : c.maxLocals = 10) (hr : meth.sig.returnType = (some .int)) {ρ : Rho} {v7 : Int32} {v8 : Int32} {s1 : Int32} {s2 : Int32} {s4 : Int32} (h : fr_begin_242 ρ v7 v8 s1 s2 s4 = some o) : zz p l e ({ frames := 120, cells := 0, slots := 0, locals := 1200 } : Room) s m args below meth c A (rw D dA A ρ ad) 0 0 (MQ below (va_Qi (fun r (_ : Unit) => r = o.2 ∧ True) (fun _ t => rw D dA A o.1 ad t.heap) A) args s 0 0 A) 242 [(0, .ref (ad 40)), (7, .int (v7)), (8, .int (v8))] [] [.int (s4), .ref (ad 7), .int (s2), .int (s1), .ref (ad 40)] := by
  unfold fr_begin_242 at h
  obtain ⟨q1, h⟩ := zg h
  refine r_ald X 7 rfl rfl q1 dX12_begin_242 ?_
  obtain ⟨o2, co2, h⟩ := zb2 h
  refine z_callVi (As := [.int (s1), .int (s2), .int ((ρ 7 (s4).toNatClampNeg))]) (rest := []) (nA := 3) (r0 := o2.2) (pu := fun (_ : Unit) => True) (G1 := fun _ => rw D dA A o2.1 ad) X (cr_begins l X.2.2.2.2.2.2.2.2 X.2.2.2.2.2.2.1 co2) g_1528 g_1530 gs_31 g_15 g_1531 hd_yX12_begins ⟨rfl, rfl, Nat.le_of_ble_eq_true rfl, Nat.le_of_ble_eq_true rfl⟩ rfl (fun _ hG => rw_recv X hG) rfl (Nat.le_of_ble_eq_true rfl) dX12_begin_243 ⟨Nat.le_refl _, Nat.le_refl _⟩ (fun _ _ => ?_)
  obtain ⟨x3, ex3, h⟩ := zb h
  rw [ex3]
  refine z_istore (lo' := [(9, .int (x3)), (0, .ref (ad 40)), (7, .int (v7)), (8, .int (v8))]) X dX12_begin_246 (by rw [hml]; decide) rfl rfl ?_
  refine z_aload_n X dX12_begin_248 rfl rfl ?_
  refine z_iload X dX12_begin_249 rfl ?_
  obtain ⟨o4, co4, h⟩ := zb2 h
  refine z_callVv (As := [.int (v8)]) (rest := []) (nA := 1) (pu := fun (_ : Unit) => True) (G1 := fun _ => rw D dA A o4 ad) X (cr_getsSlice l X.2.2.2.2.2.2.2.2 X.2.2.2.2.2.2.1 co4) g_1539 g_1541 gs_33 g_15 g_1542 hd_yX12_getsSlice ⟨rfl, rfl, Nat.le_of_ble_eq_true rfl, Nat.le_of_ble_eq_true rfl⟩ rfl (fun _ hG => rw_recv X hG) rfl (Nat.le_of_ble_eq_true rfl) dX12_begin_251 ⟨Nat.le_refl _, Nat.le_refl _⟩ (fun _ _ => ?_)
  refine z_aload_n X dX12_begin_254 rfl rfl ?_
  refine r_getA X 26 rfl rfl g_1332 dX12_begin_255 ?_
  refine z_iload X dX12_begin_258 rfl ?_
  obtain ⟨q5, h⟩ := zg h
  refine r_ald X 26 rfl rfl q5 dX12_begin_260 ?_
  refine z_if_ne (tgt := 270) X dX12_begin_261 (by decide) (fun q => ?_) (fun q => ?_)
  · have h := zp q h
    refine z_aload_n X dX12_begin_264 rfl rfl ?_
    refine z_iload X dX12_begin_265 rfl ?_
    obtain ⟨o6, co6, h⟩ := zb2 h
    refine z_callVv (As := [.int (x3)]) (rest := []) (nA := 1) (pu := fun (_ : Unit) => True) (G1 := fun _ => rw D dA A o6 ad) X (cr_getsSlice l X.2.2.2.2.2.2.2.2 X.2.2.2.2.2.2.1 co6) g_1539 g_1541 gs_33 g_15 g_1542 hd_yX12_getsSlice ⟨rfl, rfl, Nat.le_of_ble_eq_true rfl, Nat.le_of_ble_eq_true rfl⟩ rfl (fun _ hG => rw_recv X hG) rfl (Nat.le_of_ble_eq_true rfl) dX12_begin_267 ⟨Nat.le_refl _, Nat.le_refl _⟩ (fun _ _ => ?_)
    refine z_iload X dX12_begin_270 rfl ?_
    obtain rfl := Option.some.inj h
    exact z_iret X hr rfl (fun t hG hF _ => ⟨⟨_, (), rfl, ⟨rfl, trivial⟩, hG⟩, hF⟩) dX12_begin_272
  · have h := zn q h
    refine z_iload X dX12_begin_270 rfl ?_
    obtain rfl := Option.some.inj h
    exact z_iret X hr rfl (fun t hG hF _ => ⟨⟨_, (), rfl, ⟨rfl, trivial⟩, hG⟩, hF⟩) dX12_begin_272
def fr_begin_178 (ρ : Rho) (v1 : Int32) (v2 : Int32) (v3 : Int32) (s1 : Int32) : Option (Rho × Int32) := (fr_can ρ (s1)).bind fun o1 => (if o1.2 = 0 then some (o1.1, 0)
  else (some ((o1.1 20 0))).bind fun x2 => (some (cs o1.1 20 0 (((o1.1 20 0) + 1)))).bind fun ρ3 => if x2 < 0 ∨ 40 ≤ (x2).toNatClampNeg then none else (some (cs ρ3 21 (x2).toNatClampNeg (v1))).bind fun ρ4 => if v1 < 0 ∨ 10 ≤ (v1).toNatClampNeg then none else (fr_begins ρ4 (v1) (x2) ((ρ4 7 (v1).toNatClampNeg))).bind fun o7 => (some (o7.2)).bind fun x8 => (if v3 = 0 then fr_begin_242 o7.1 x2 x8 v2 x2 v2
  else fr_begin_242 o7.1 x2 x8 v2 x2 v1))
set_option maxRecDepth 100000 in
set_option maxHeartbeats 4000000 in
theorem br_begin_178 {p : Program} {l : Launch} {e : Env} {s : State} {m : MethodId} {args : Array Value} {below : List Frame} {meth : Method} {c : Code} {D : va_G} {dA : Nat → ClassId} {A : Nat → Prop} {ad : Nat → Nat} {o : Rho × Int32} (X : zc p l s m args meth c cX12_begin RX12 D dA A) (hml : c.maxLocals = 10) (hr : meth.sig.returnType = (some .int)) {ρ : Rho} {v1 : Int32} {v2 : Int32} {v3 : Int32} {s1 : Int32} (h : fr_begin_178 ρ v1 v2 v3 s1 = some o) : zz p l e ({ frames := 120, cells := 0, slots := 0, locals := 1200 } : Room) s m args below meth c A (rw D dA A ρ ad) 0 0 (MQ below (va_Qi (fun r (_ : Unit) => r = o.2 ∧ True) (fun _ t => rw D dA A o.1 ad t.heap) A) args s 0 0 A) 178 [(0, .ref (ad 40)), (1, .int (v1)), (2, .int (v2)), (3, .int (v3))] [] [.int (s1), .ref (ad 40)] := by
  unfold fr_begin_178 at h
  obtain ⟨o1, co1, h⟩ := zb2 h
  refine z_callVi (As := [.int (s1)]) (rest := []) (nA := 1) (r0 := o1.2) (pu := fun (_ : Unit) => True) (G1 := fun _ => rw D dA A o1.1 ad) X (cr_can l X.2.2.2.2.2.2.2.2 X.2.2.2.2.2.2.1 co1) g_1445 g_1447 gs_25 g_15 g_1448 hd_yX12_can ⟨rfl, rfl, Nat.le_of_ble_eq_true rfl, Nat.le_of_ble_eq_true rfl⟩ rfl (fun _ hG => rw_recv X hG) rfl (Nat.le_of_ble_eq_true rfl) dX12_begin_178 ⟨Nat.le_refl _, Nat.le_refl _⟩ (fun _ _ => ?_)
  refine z_if_ne (tgt := 186) X dX12_begin_181 (by decide) (fun q => ?_) (fun q => ?_)
  · have h := zp q h
    refine z_iconst (v := 0) X dX12_begin_184 (by decide) ?_
    obtain rfl := Option.some.inj h
    exact z_iret X hr rfl (fun t hG hF _ => ⟨⟨_, (), rfl, ⟨rfl, trivial⟩, hG⟩, hF⟩) dX12_begin_185
  · have h := zn q h
    refine z_aload_n X dX12_begin_186 rfl rfl ?_
    refine r_getS X 20 rfl rfl g_1326 dX12_begin_187 ?_
    obtain ⟨x2, ex2, h⟩ := zb h
    rw [ex2]
    refine z_istore (lo' := [(7, .int (x2)), (0, .ref (ad 40)), (1, .int (v1)), (2, .int (v2)), (3, .int (v3))]) X dX12_begin_190 (by rw [hml]; decide) rfl rfl ?_
    refine z_aload_n X dX12_begin_192 rfl rfl ?_
    refine z_dup X dX12_begin_193 rfl ?_
    refine r_getS X 20 rfl rfl g_1326 dX12_begin_194 ?_
    refine z_iconst (v := 1) X dX12_begin_197 (by decide) ?_
    refine z_iadd X dX12_begin_198 ?_
    obtain ⟨ρ3, eρ3, h⟩ := zb h
    refine r_putS X 20 rfl rfl rfl g_1326 eρ3 dX12_begin_199 ?_
    refine z_aload_n X dX12_begin_202 rfl rfl ?_
    refine r_getA X 21 rfl rfl g_1327 dX12_begin_203 ?_
    refine z_iload X dX12_begin_206 rfl ?_
    refine z_iload_n X dX12_begin_208 rfl rfl ?_
    obtain ⟨q5, h⟩ := zg h
    obtain ⟨ρ4, eρ4, h⟩ := zb h
    refine r_ast X 21 rfl rfl q5 eρ4 dX12_begin_209 ?_
    refine z_aload_n X dX12_begin_210 rfl rfl ?_
    refine z_iload_n X dX12_begin_211 rfl rfl ?_
    refine z_iload X dX12_begin_212 rfl ?_
    refine z_aload_n X dX12_begin_214 rfl rfl ?_
    refine r_getA X 7 rfl rfl g_1313 dX12_begin_215 ?_
    refine z_iload_n X dX12_begin_218 rfl rfl ?_
    obtain ⟨q6, h⟩ := zg h
    refine r_ald X 7 rfl rfl q6 dX12_begin_219 ?_
    obtain ⟨o7, co7, h⟩ := zb2 h
    refine z_callVi (As := [.int (v1), .int (x2), .int ((ρ4 7 (v1).toNatClampNeg))]) (rest := []) (nA := 3) (r0 := o7.2) (pu := fun (_ : Unit) => True) (G1 := fun _ => rw D dA A o7.1 ad) X (cr_begins l X.2.2.2.2.2.2.2.2 X.2.2.2.2.2.2.1 co7) g_1528 g_1530 gs_31 g_15 g_1531 hd_yX12_begins ⟨rfl, rfl, Nat.le_of_ble_eq_true rfl, Nat.le_of_ble_eq_true rfl⟩ rfl (fun _ hG => rw_recv X hG) rfl (Nat.le_of_ble_eq_true rfl) dX12_begin_220 ⟨Nat.le_refl _, Nat.le_refl _⟩ (fun _ _ => ?_)
    obtain ⟨x8, ex8, h⟩ := zb h
    rw [ex8]
    refine z_istore (lo' := [(8, .int (x8)), (7, .int (x2)), (0, .ref (ad 40)), (1, .int (v1)), (2, .int (v2)), (3, .int (v3))]) X dX12_begin_223 (by rw [hml]; decide) rfl rfl ?_
    refine z_aload_n X dX12_begin_225 rfl rfl ?_
    refine z_iload_n X dX12_begin_226 rfl rfl ?_
    refine z_iload X dX12_begin_227 rfl ?_
    refine z_aload_n X dX12_begin_229 rfl rfl ?_
    refine r_getA X 7 rfl rfl g_1313 dX12_begin_230 ?_
    refine z_iload_n X dX12_begin_233 rfl rfl ?_
    refine z_if_eq (tgt := 241) X dX12_begin_234 (by decide) (fun q => ?_) (fun q => ?_)
    · have h := zp q h
      refine z_iload_n X dX12_begin_241 rfl rfl ?_
      refine zz.pick (lo' := [(0, .ref (ad 40)), (7, .int (x2)), (8, .int (x8))]) [0, 7, 8] rfl ?_
      exact br_begin_242 X hml hr h
    · have h := zn q h
      refine z_iload_n X dX12_begin_237 rfl rfl ?_
      refine z_goto (tgt := 242) X dX12_begin_238 (by decide) ?_
      refine zz.pick (lo' := [(0, .ref (ad 40)), (7, .int (x2)), (8, .int (x8))]) [0, 7, 8] rfl ?_
      exact br_begin_242 X hml hr h
def fr_begin_147 (ρ : Rho) (v1 : Int32) (v2 : Int32) (v3 : Int32) (v4 : Int32) (s0 : Int32) : Option (Rho × Int32) := (if v4 = 0 then fr_begin_178 ρ v1 v2 v3 1
  else (if v1 = v2 then fr_begin_178 ρ v1 v2 v3 2
  else (if s0 = 0 then fr_begin_178 ρ v1 v2 v3 0
  else fr_begin_178 ρ v1 v2 v3 3)))
set_option maxRecDepth 100000 in
set_option maxHeartbeats 4000000 in
theorem br_begin_147 {p : Program} {l : Launch} {e : Env} {s : State} {m : MethodId} {args : Array Value} {below : List Frame} {meth : Method} {c : Code} {D : va_G} {dA : Nat → ClassId} {A : Nat → Prop} {ad : Nat → Nat} {o : Rho × Int32} (X : zc p l s m args meth c cX12_begin RX12 D dA A) (hml : c.maxLocals = 10) (hr : meth.sig.returnType = (some .int)) {ρ : Rho} {v1 : Int32} {v2 : Int32} {v3 : Int32} {v4 : Int32} {s0 : Int32} (h : fr_begin_147 ρ v1 v2 v3 v4 s0 = some o) : zz p l e ({ frames := 120, cells := 0, slots := 0, locals := 1200 } : Room) s m args below meth c A (rw D dA A ρ ad) 0 0 (MQ below (va_Qi (fun r (_ : Unit) => r = o.2 ∧ True) (fun _ t => rw D dA A o.1 ad t.heap) A) args s 0 0 A) 147 [(0, .ref (ad 40)), (1, .int (v1)), (2, .int (v2)), (3, .int (v3)), (4, .int (v4))] [] [.int (s0)] := by
  unfold fr_begin_147 at h
  refine z_istore (lo' := [(5, .int (s0)), (0, .ref (ad 40)), (1, .int (v1)), (2, .int (v2)), (3, .int (v3)), (4, .int (v4))]) X dX12_begin_147 (by rw [hml]; decide) rfl rfl ?_
  refine z_aload_n X dX12_begin_149 rfl rfl ?_
  refine z_iload X dX12_begin_150 rfl ?_
  refine z_if_ne (tgt := 159) X dX12_begin_152 (by decide) (fun q => ?_) (fun q => ?_)
  · have h := zp q h
    refine z_iconst (v := 1) X dX12_begin_155 (by decide) ?_
    refine z_goto (tgt := 178) X dX12_begin_156 (by decide) ?_
    refine zz.pick (lo' := [(0, .ref (ad 40)), (1, .int (v1)), (2, .int (v2)), (3, .int (v3))]) [0, 1, 2, 3] rfl ?_
    exact br_begin_178 X hml hr h
  · have h := zn q h
    refine z_iload_n X dX12_begin_159 rfl rfl ?_
    refine z_iload_n X dX12_begin_160 rfl rfl ?_
    refine z_icmp_ne (tgt := 168) X dX12_begin_161 (by decide) (fun q => ?_) (fun q => ?_)
    · have h := zp q h
      refine z_iconst (v := 2) X dX12_begin_164 (by decide) ?_
      refine z_goto (tgt := 178) X dX12_begin_165 (by decide) ?_
      refine zz.pick (lo' := [(0, .ref (ad 40)), (1, .int (v1)), (2, .int (v2)), (3, .int (v3))]) [0, 1, 2, 3] rfl ?_
      exact br_begin_178 X hml hr h
    · have h := zn q h
      refine z_iload X dX12_begin_168 rfl ?_
      refine z_if_eq (tgt := 177) X dX12_begin_170 (by decide) (fun q => ?_) (fun q => ?_)
      · have h := zp q h
        refine z_iconst (v := 0) X dX12_begin_177 (by decide) ?_
        refine zz.pick (lo' := [(0, .ref (ad 40)), (1, .int (v1)), (2, .int (v2)), (3, .int (v3))]) [0, 1, 2, 3] rfl ?_
        exact br_begin_178 X hml hr h
      · have h := zn q h
        refine z_iconst (v := 3) X dX12_begin_173 (by decide) ?_
        refine z_goto (tgt := 178) X dX12_begin_174 (by decide) ?_
        refine zz.pick (lo' := [(0, .ref (ad 40)), (1, .int (v1)), (2, .int (v2)), (3, .int (v3))]) [0, 1, 2, 3] rfl ?_
        exact br_begin_178 X hml hr h
def fr_begin_142 (ρ : Rho) (v1 : Int32) (v2 : Int32) (v3 : Int32) (v4 : Int32) : Option (Rho × Int32) := fr_begin_147 ρ v1 v2 v3 v4 1
set_option maxRecDepth 100000 in
set_option maxHeartbeats 4000000 in
theorem br_begin_142 {p : Program} {l : Launch} {e : Env} {s : State} {m : MethodId} {args : Array Value} {below : List Frame} {meth : Method} {c : Code} {D : va_G} {dA : Nat → ClassId} {A : Nat → Prop} {ad : Nat → Nat} {o : Rho × Int32} (X : zc p l s m args meth c cX12_begin RX12 D dA A) (hml : c.maxLocals = 10) (hr : meth.sig.returnType = (some .int)) {ρ : Rho} {v1 : Int32} {v2 : Int32} {v3 : Int32} {v4 : Int32} (h : fr_begin_142 ρ v1 v2 v3 v4 = some o) : zz p l e ({ frames := 120, cells := 0, slots := 0, locals := 1200 } : Room) s m args below meth c A (rw D dA A ρ ad) 0 0 (MQ below (va_Qi (fun r (_ : Unit) => r = o.2 ∧ True) (fun _ t => rw D dA A o.1 ad t.heap) A) args s 0 0 A) 142 [(0, .ref (ad 40)), (1, .int (v1)), (2, .int (v2)), (3, .int (v3)), (4, .int (v4))] [] [] := by
  unfold fr_begin_142 at h
  refine z_iconst (v := 1) X dX12_begin_142 (by decide) ?_
  refine z_goto (tgt := 147) X dX12_begin_143 (by decide) ?_
  refine zz.pick (lo' := [(0, .ref (ad 40)), (1, .int (v1)), (2, .int (v2)), (3, .int (v3)), (4, .int (v4))]) [0, 1, 2, 3, 4] rfl ?_
  exact br_begin_147 X hml hr h
def fr_begin_122 (ρ : Rho) (v1 : Int32) (v2 : Int32) (v3 : Int32) (v4 : Int32) (s1 : Int32) (s2 : Int32) : Option (Rho × Int32) := (fr_hasChannels ρ (s1) (s2)).bind fun o1 => (if o1 = 0 then fr_begin_142 ρ v1 v2 v3 v4
  else if v2 < 0 ∨ 10 ≤ (v2).toNatClampNeg then none else (fr_hasChannels ρ ((ρ 6 (v2).toNatClampNeg)) (1)).bind fun o3 => (if o3 = 0 then fr_begin_142 ρ v1 v2 v3 v4
  else fr_begin_147 ρ v1 v2 v3 v4 0))
set_option maxRecDepth 100000 in
set_option maxHeartbeats 4000000 in
theorem br_begin_122 {p : Program} {l : Launch} {e : Env} {s : State} {m : MethodId} {args : Array Value} {below : List Frame} {meth : Method} {c : Code} {D : va_G} {dA : Nat → ClassId} {A : Nat → Prop} {ad : Nat → Nat} {o : Rho × Int32} (X : zc p l s m args meth c cX12_begin RX12 D dA A) (hml : c.maxLocals = 10) (hr : meth.sig.returnType = (some .int)) {ρ : Rho} {v1 : Int32} {v2 : Int32} {v3 : Int32} {v4 : Int32} {s1 : Int32} {s2 : Int32} (h : fr_begin_122 ρ v1 v2 v3 v4 s1 s2 = some o) : zz p l e ({ frames := 120, cells := 0, slots := 0, locals := 1200 } : Room) s m args below meth c A (rw D dA A ρ ad) 0 0 (MQ below (va_Qi (fun r (_ : Unit) => r = o.2 ∧ True) (fun _ t => rw D dA A o.1 ad t.heap) A) args s 0 0 A) 122 [(0, .ref (ad 40)), (1, .int (v1)), (2, .int (v2)), (3, .int (v3)), (4, .int (v4))] [] [.int (s2), .int (s1), .ref (ad 40)] := by
  unfold fr_begin_122 at h
  obtain ⟨o1, co1, h⟩ := zb2 h
  refine z_callVi (As := [.int (s1), .int (s2)]) (rest := []) (nA := 2) (r0 := o1) (pu := fun (_ : Unit) => True) (G1 := fun _ => rw D dA A ρ ad) X (cr_hasChannels l X.2.2.2.2.2.2.2.2 X.2.2.2.2.2.2.1 co1) g_1524 g_1526 gs_30 g_15 g_1527 hd_yX12_hasChannels ⟨rfl, rfl, Nat.le_of_ble_eq_true rfl, Nat.le_of_ble_eq_true rfl⟩ rfl (fun _ hG => rw_recv X hG) rfl (Nat.le_of_ble_eq_true rfl) dX12_begin_122 ⟨Nat.le_refl _, Nat.le_refl _⟩ (fun _ _ => ?_)
  refine z_if_eq (tgt := 142) X dX12_begin_125 (by decide) (fun q => ?_) (fun q => ?_)
  · have h := zp q h
    refine zz.pick (lo' := [(0, .ref (ad 40)), (1, .int (v1)), (2, .int (v2)), (3, .int (v3)), (4, .int (v4))]) [0, 1, 2, 3, 4] rfl ?_
    exact br_begin_142 X hml hr h
  · have h := zn q h
    refine z_aload_n X dX12_begin_128 rfl rfl ?_
    refine z_aload_n X dX12_begin_129 rfl rfl ?_
    refine r_getA X 6 rfl rfl g_1312 dX12_begin_130 ?_
    refine z_iload_n X dX12_begin_133 rfl rfl ?_
    obtain ⟨q2, h⟩ := zg h
    refine r_ald X 6 rfl rfl q2 dX12_begin_134 ?_
    refine z_iconst (v := 1) X dX12_begin_135 (by decide) ?_
    obtain ⟨o3, co3, h⟩ := zb2 h
    refine z_callVi (As := [.int ((ρ 6 (v2).toNatClampNeg)), .int (1)]) (rest := []) (nA := 2) (r0 := o3) (pu := fun (_ : Unit) => True) (G1 := fun _ => rw D dA A ρ ad) X (cr_hasChannels l X.2.2.2.2.2.2.2.2 X.2.2.2.2.2.2.1 co3) g_1524 g_1526 gs_30 g_15 g_1527 hd_yX12_hasChannels ⟨rfl, rfl, Nat.le_of_ble_eq_true rfl, Nat.le_of_ble_eq_true rfl⟩ rfl (fun _ hG => rw_recv X hG) rfl (Nat.le_of_ble_eq_true rfl) dX12_begin_136 ⟨Nat.le_refl _, Nat.le_refl _⟩ (fun _ _ => ?_)
    refine z_if_ne (tgt := 146) X dX12_begin_139 (by decide) (fun q => ?_) (fun q => ?_)
    · have h := zp q h
      refine zz.pick (lo' := [(0, .ref (ad 40)), (1, .int (v1)), (2, .int (v2)), (3, .int (v3)), (4, .int (v4))]) [0, 1, 2, 3, 4] rfl ?_
      exact br_begin_142 X hml hr h
    · have h := zn q h
      refine z_iconst (v := 0) X dX12_begin_146 (by decide) ?_
      refine zz.pick (lo' := [(0, .ref (ad 40)), (1, .int (v1)), (2, .int (v2)), (3, .int (v3)), (4, .int (v4))]) [0, 1, 2, 3, 4] rfl ?_
      exact br_begin_147 X hml hr h
def fr_begin_98 (ρ : Rho) (v1 : Int32) (v2 : Int32) (v3 : Int32) (v4 : Int32) (v5 : Int32) (s0 : Int32) : Option (Rho × Int32) := (if v5 = 0 then if v1 < 0 ∨ 10 ≤ (v1).toNatClampNeg then none else (if s0 = 0 then fr_begin_122 ρ v1 v2 v3 v4 (ρ 6 (v1).toNatClampNeg) 1
  else fr_begin_122 ρ v1 v2 v3 v4 (ρ 6 (v1).toNatClampNeg) 2)
  else fr_begin_142 ρ v1 v2 v3 v4)
set_option maxRecDepth 100000 in
set_option maxHeartbeats 4000000 in
theorem br_begin_98 {p : Program} {l : Launch} {e : Env} {s : State} {m : MethodId} {args : Array Value} {below : List Frame} {meth : Method} {c : Code} {D : va_G} {dA : Nat → ClassId} {A : Nat → Prop} {ad : Nat → Nat} {o : Rho × Int32} (X : zc p l s m args meth c cX12_begin RX12 D dA A) (hml : c.maxLocals = 10) (hr : meth.sig.returnType = (some .int)) {ρ : Rho} {v1 : Int32} {v2 : Int32} {v3 : Int32} {v4 : Int32} {v5 : Int32} {s0 : Int32} (h : fr_begin_98 ρ v1 v2 v3 v4 v5 s0 = some o) : zz p l e ({ frames := 120, cells := 0, slots := 0, locals := 1200 } : Room) s m args below meth c A (rw D dA A ρ ad) 0 0 (MQ below (va_Qi (fun r (_ : Unit) => r = o.2 ∧ True) (fun _ t => rw D dA A o.1 ad t.heap) A) args s 0 0 A) 98 [(0, .ref (ad 40)), (1, .int (v1)), (2, .int (v2)), (3, .int (v3)), (4, .int (v4)), (5, .int (v5))] [] [.int (s0)] := by
  unfold fr_begin_98 at h
  refine z_istore (lo' := [(6, .int (s0)), (0, .ref (ad 40)), (1, .int (v1)), (2, .int (v2)), (3, .int (v3)), (4, .int (v4)), (5, .int (v5))]) X dX12_begin_98 (by rw [hml]; decide) rfl rfl ?_
  refine z_iload X dX12_begin_100 rfl ?_
  refine z_if_ne (tgt := 142) X dX12_begin_102 (by decide) (fun q => ?_) (fun q => ?_)
  · have h := zp q h
    refine z_aload_n X dX12_begin_105 rfl rfl ?_
    refine z_aload_n X dX12_begin_106 rfl rfl ?_
    refine r_getA X 6 rfl rfl g_1312 dX12_begin_107 ?_
    refine z_iload_n X dX12_begin_110 rfl rfl ?_
    obtain ⟨q1, h⟩ := zg h
    refine r_ald X 6 rfl rfl q1 dX12_begin_111 ?_
    refine z_iload X dX12_begin_112 rfl ?_
    refine z_if_eq (tgt := 121) X dX12_begin_114 (by decide) (fun q => ?_) (fun q => ?_)
    · have h := zp q h
      refine z_iconst (v := 1) X dX12_begin_121 (by decide) ?_
      refine zz.pick (lo' := [(0, .ref (ad 40)), (1, .int (v1)), (2, .int (v2)), (3, .int (v3)), (4, .int (v4))]) [0, 1, 2, 3, 4] rfl ?_
      exact br_begin_122 X hml hr h
    · have h := zn q h
      refine z_iconst (v := 2) X dX12_begin_117 (by decide) ?_
      refine z_goto (tgt := 122) X dX12_begin_118 (by decide) ?_
      refine zz.pick (lo' := [(0, .ref (ad 40)), (1, .int (v1)), (2, .int (v2)), (3, .int (v3)), (4, .int (v4))]) [0, 1, 2, 3, 4] rfl ?_
      exact br_begin_122 X hml hr h
  · have h := zn q h
    refine zz.pick (lo' := [(0, .ref (ad 40)), (1, .int (v1)), (2, .int (v2)), (3, .int (v3)), (4, .int (v4))]) [0, 1, 2, 3, 4] rfl ?_
    exact br_begin_142 X hml hr h
def fr_begin_97 (ρ : Rho) (v1 : Int32) (v2 : Int32) (v3 : Int32) (v4 : Int32) (v5 : Int32) : Option (Rho × Int32) := fr_begin_98 ρ v1 v2 v3 v4 v5 0
set_option maxRecDepth 100000 in
set_option maxHeartbeats 4000000 in
theorem br_begin_97 {p : Program} {l : Launch} {e : Env} {s : State} {m : MethodId} {args : Array Value} {below : List Frame} {meth : Method} {c : Code} {D : va_G} {dA : Nat → ClassId} {A : Nat → Prop} {ad : Nat → Nat} {o : Rho × Int32} (X : zc p l s m args meth c cX12_begin RX12 D dA A) (hml : c.maxLocals = 10) (hr : meth.sig.returnType = (some .int)) {ρ : Rho} {v1 : Int32} {v2 : Int32} {v3 : Int32} {v4 : Int32} {v5 : Int32} (h : fr_begin_97 ρ v1 v2 v3 v4 v5 = some o) : zz p l e ({ frames := 120, cells := 0, slots := 0, locals := 1200 } : Room) s m args below meth c A (rw D dA A ρ ad) 0 0 (MQ below (va_Qi (fun r (_ : Unit) => r = o.2 ∧ True) (fun _ t => rw D dA A o.1 ad t.heap) A) args s 0 0 A) 97 [(0, .ref (ad 40)), (1, .int (v1)), (2, .int (v2)), (3, .int (v3)), (4, .int (v4)), (5, .int (v5))] [] [] := by
  unfold fr_begin_97 at h
  refine z_iconst (v := 0) X dX12_begin_97 (by decide) ?_
  refine zz.pick (lo' := [(0, .ref (ad 40)), (1, .int (v1)), (2, .int (v2)), (3, .int (v3)), (4, .int (v4)), (5, .int (v5))]) [0, 1, 2, 3, 4, 5] rfl ?_
  exact br_begin_98 X hml hr h
def fr_begin_71 (ρ : Rho) (v1 : Int32) (v2 : Int32) (v3 : Int32) (v4 : Int32) (s0 : Int32) : Option (Rho × Int32) := (if v4 = 0 then fr_begin_97 ρ v1 v2 v3 v4 s0
  else if v1 < 0 ∨ 10 ≤ (v1).toNatClampNeg then none else if v2 < 0 ∨ 10 ≤ (v2).toNatClampNeg then none else (if (ρ 6 (v1).toNatClampNeg) = (ρ 6 (v2).toNatClampNeg) then fr_begin_98 ρ v1 v2 v3 v4 s0 1
  else fr_begin_97 ρ v1 v2 v3 v4 s0))
set_option maxRecDepth 100000 in
set_option maxHeartbeats 4000000 in
theorem br_begin_71 {p : Program} {l : Launch} {e : Env} {s : State} {m : MethodId} {args : Array Value} {below : List Frame} {meth : Method} {c : Code} {D : va_G} {dA : Nat → ClassId} {A : Nat → Prop} {ad : Nat → Nat} {o : Rho × Int32} (X : zc p l s m args meth c cX12_begin RX12 D dA A) (hml : c.maxLocals = 10) (hr : meth.sig.returnType = (some .int)) {ρ : Rho} {v1 : Int32} {v2 : Int32} {v3 : Int32} {v4 : Int32} {s0 : Int32} (h : fr_begin_71 ρ v1 v2 v3 v4 s0 = some o) : zz p l e ({ frames := 120, cells := 0, slots := 0, locals := 1200 } : Room) s m args below meth c A (rw D dA A ρ ad) 0 0 (MQ below (va_Qi (fun r (_ : Unit) => r = o.2 ∧ True) (fun _ t => rw D dA A o.1 ad t.heap) A) args s 0 0 A) 71 [(0, .ref (ad 40)), (1, .int (v1)), (2, .int (v2)), (3, .int (v3)), (4, .int (v4))] [] [.int (s0)] := by
  unfold fr_begin_71 at h
  refine z_istore (lo' := [(5, .int (s0)), (0, .ref (ad 40)), (1, .int (v1)), (2, .int (v2)), (3, .int (v3)), (4, .int (v4))]) X dX12_begin_71 (by rw [hml]; decide) rfl rfl ?_
  refine z_iload X dX12_begin_73 rfl ?_
  refine z_if_eq (tgt := 97) X dX12_begin_75 (by decide) (fun q => ?_) (fun q => ?_)
  · have h := zp q h
    refine zz.pick (lo' := [(0, .ref (ad 40)), (1, .int (v1)), (2, .int (v2)), (3, .int (v3)), (4, .int (v4)), (5, .int (s0))]) [0, 1, 2, 3, 4, 5] rfl ?_
    exact br_begin_97 X hml hr h
  · have h := zn q h
    refine z_aload_n X dX12_begin_78 rfl rfl ?_
    refine r_getA X 6 rfl rfl g_1312 dX12_begin_79 ?_
    refine z_iload_n X dX12_begin_82 rfl rfl ?_
    obtain ⟨q1, h⟩ := zg h
    refine r_ald X 6 rfl rfl q1 dX12_begin_83 ?_
    refine z_aload_n X dX12_begin_84 rfl rfl ?_
    refine r_getA X 6 rfl rfl g_1312 dX12_begin_85 ?_
    refine z_iload_n X dX12_begin_88 rfl rfl ?_
    obtain ⟨q2, h⟩ := zg h
    refine r_ald X 6 rfl rfl q2 dX12_begin_89 ?_
    refine z_icmp_ne (tgt := 97) X dX12_begin_90 (by decide) (fun q => ?_) (fun q => ?_)
    · have h := zp q h
      refine z_iconst (v := 1) X dX12_begin_93 (by decide) ?_
      refine z_goto (tgt := 98) X dX12_begin_94 (by decide) ?_
      refine zz.pick (lo' := [(0, .ref (ad 40)), (1, .int (v1)), (2, .int (v2)), (3, .int (v3)), (4, .int (v4)), (5, .int (s0))]) [0, 1, 2, 3, 4, 5] rfl ?_
      exact br_begin_98 X hml hr h
    · have h := zn q h
      refine zz.pick (lo' := [(0, .ref (ad 40)), (1, .int (v1)), (2, .int (v2)), (3, .int (v3)), (4, .int (v4)), (5, .int (s0))]) [0, 1, 2, 3, 4, 5] rfl ?_
      exact br_begin_97 X hml hr h
def fr_begin_66 (ρ : Rho) (v1 : Int32) (v2 : Int32) (v3 : Int32) (v4 : Int32) : Option (Rho × Int32) := fr_begin_71 ρ v1 v2 v3 v4 1
set_option maxRecDepth 100000 in
set_option maxHeartbeats 4000000 in
theorem br_begin_66 {p : Program} {l : Launch} {e : Env} {s : State} {m : MethodId} {args : Array Value} {below : List Frame} {meth : Method} {c : Code} {D : va_G} {dA : Nat → ClassId} {A : Nat → Prop} {ad : Nat → Nat} {o : Rho × Int32} (X : zc p l s m args meth c cX12_begin RX12 D dA A) (hml : c.maxLocals = 10) (hr : meth.sig.returnType = (some .int)) {ρ : Rho} {v1 : Int32} {v2 : Int32} {v3 : Int32} {v4 : Int32} (h : fr_begin_66 ρ v1 v2 v3 v4 = some o) : zz p l e ({ frames := 120, cells := 0, slots := 0, locals := 1200 } : Room) s m args below meth c A (rw D dA A ρ ad) 0 0 (MQ below (va_Qi (fun r (_ : Unit) => r = o.2 ∧ True) (fun _ t => rw D dA A o.1 ad t.heap) A) args s 0 0 A) 66 [(0, .ref (ad 40)), (1, .int (v1)), (2, .int (v2)), (3, .int (v3)), (4, .int (v4))] [] [] := by
  unfold fr_begin_66 at h
  refine z_iconst (v := 1) X dX12_begin_66 (by decide) ?_
  refine z_goto (tgt := 71) X dX12_begin_67 (by decide) ?_
  refine zz.pick (lo' := [(0, .ref (ad 40)), (1, .int (v1)), (2, .int (v2)), (3, .int (v3)), (4, .int (v4))]) [0, 1, 2, 3, 4] rfl ?_
  exact br_begin_71 X hml hr h
def fr_begin_19 (ρ : Rho) (v1 : Int32) (v2 : Int32) (v3 : Int32) (s0 : Int32) : Option (Rho × Int32) := (if s0 = 0 then fr_begin_66 ρ v1 v2 v3 s0
  else if v1 < 0 ∨ 10 ≤ (v1).toNatClampNeg then none else (if (ρ 9 (v1).toNatClampNeg) = (-1) then if v2 < 0 ∨ 10 ≤ (v2).toNatClampNeg then none else (if (ρ 9 (v2).toNatClampNeg) = (-1) then (if (ρ 20 0) = 40 then fr_begin_66 ρ v1 v2 v3 s0
  else (if ((ρ 22 0) + 2) ≤ 80 then fr_begin_71 ρ v1 v2 v3 s0 0
  else fr_begin_66 ρ v1 v2 v3 s0))
  else fr_begin_66 ρ v1 v2 v3 s0)
  else fr_begin_66 ρ v1 v2 v3 s0))
set_option maxRecDepth 100000 in
set_option maxHeartbeats 4000000 in
theorem br_begin_19 {p : Program} {l : Launch} {e : Env} {s : State} {m : MethodId} {args : Array Value} {below : List Frame} {meth : Method} {c : Code} {D : va_G} {dA : Nat → ClassId} {A : Nat → Prop} {ad : Nat → Nat} {o : Rho × Int32} (X : zc p l s m args meth c cX12_begin RX12 D dA A) (hml : c.maxLocals = 10) (hr : meth.sig.returnType = (some .int)) {ρ : Rho} {v1 : Int32} {v2 : Int32} {v3 : Int32} {s0 : Int32} (h : fr_begin_19 ρ v1 v2 v3 s0 = some o) : zz p l e ({ frames := 120, cells := 0, slots := 0, locals := 1200 } : Room) s m args below meth c A (rw D dA A ρ ad) 0 0 (MQ below (va_Qi (fun r (_ : Unit) => r = o.2 ∧ True) (fun _ t => rw D dA A o.1 ad t.heap) A) args s 0 0 A) 19 [(0, .ref (ad 40)), (1, .int (v1)), (2, .int (v2)), (3, .int (v3))] [] [.int (s0)] := by
  unfold fr_begin_19 at h
  refine z_istore (lo' := [(4, .int (s0)), (0, .ref (ad 40)), (1, .int (v1)), (2, .int (v2)), (3, .int (v3))]) X dX12_begin_19 (by rw [hml]; decide) rfl rfl ?_
  refine z_iload X dX12_begin_21 rfl ?_
  refine z_if_eq (tgt := 66) X dX12_begin_23 (by decide) (fun q => ?_) (fun q => ?_)
  · have h := zp q h
    refine zz.pick (lo' := [(0, .ref (ad 40)), (1, .int (v1)), (2, .int (v2)), (3, .int (v3)), (4, .int (s0))]) [0, 1, 2, 3, 4] rfl ?_
    exact br_begin_66 X hml hr h
  · have h := zn q h
    refine z_aload_n X dX12_begin_26 rfl rfl ?_
    refine r_getA X 9 rfl rfl g_1315 dX12_begin_27 ?_
    refine z_iload_n X dX12_begin_30 rfl rfl ?_
    obtain ⟨q1, h⟩ := zg h
    refine r_ald X 9 rfl rfl q1 dX12_begin_31 ?_
    refine z_iconst (v := (-1)) X dX12_begin_32 (by decide) ?_
    refine z_icmp_ne (tgt := 66) X dX12_begin_33 (by decide) (fun q => ?_) (fun q => ?_)
    · have h := zp q h
      refine z_aload_n X dX12_begin_36 rfl rfl ?_
      refine r_getA X 9 rfl rfl g_1315 dX12_begin_37 ?_
      refine z_iload_n X dX12_begin_40 rfl rfl ?_
      obtain ⟨q2, h⟩ := zg h
      refine r_ald X 9 rfl rfl q2 dX12_begin_41 ?_
      refine z_iconst (v := (-1)) X dX12_begin_42 (by decide) ?_
      refine z_icmp_ne (tgt := 66) X dX12_begin_43 (by decide) (fun q => ?_) (fun q => ?_)
      · have h := zp q h
        refine z_aload_n X dX12_begin_46 rfl rfl ?_
        refine r_getS X 20 rfl rfl g_1326 dX12_begin_47 ?_
        refine z_bipush (v := 40) X dX12_begin_50 (by decide) ?_
        refine z_icmp_eq (tgt := 66) X dX12_begin_52 (by decide) (fun q => ?_) (fun q => ?_)
        · have h := zp q h
          refine zz.pick (lo' := [(0, .ref (ad 40)), (1, .int (v1)), (2, .int (v2)), (3, .int (v3)), (4, .int (s0))]) [0, 1, 2, 3, 4] rfl ?_
          exact br_begin_66 X hml hr h
        · have h := zn q h
          refine z_aload_n X dX12_begin_55 rfl rfl ?_
          refine r_getS X 22 rfl rfl g_1328 dX12_begin_56 ?_
          refine z_iconst (v := 2) X dX12_begin_59 (by decide) ?_
          refine z_iadd X dX12_begin_60 ?_
          refine z_bipush (v := 80) X dX12_begin_61 (by decide) ?_
          refine z_icmp_le (tgt := 70) X dX12_begin_63 (by decide) (fun q => ?_) (fun q => ?_)
          · have h := zp q h
            refine z_iconst (v := 0) X dX12_begin_70 (by decide) ?_
            refine zz.pick (lo' := [(0, .ref (ad 40)), (1, .int (v1)), (2, .int (v2)), (3, .int (v3)), (4, .int (s0))]) [0, 1, 2, 3, 4] rfl ?_
            exact br_begin_71 X hml hr h
          · have h := zn q h
            refine zz.pick (lo' := [(0, .ref (ad 40)), (1, .int (v1)), (2, .int (v2)), (3, .int (v3)), (4, .int (s0))]) [0, 1, 2, 3, 4] rfl ?_
            exact br_begin_66 X hml hr h
      · have h := zn q h
        refine zz.pick (lo' := [(0, .ref (ad 40)), (1, .int (v1)), (2, .int (v2)), (3, .int (v3)), (4, .int (s0))]) [0, 1, 2, 3, 4] rfl ?_
        exact br_begin_66 X hml hr h
    · have h := zn q h
      refine zz.pick (lo' := [(0, .ref (ad 40)), (1, .int (v1)), (2, .int (v2)), (3, .int (v3)), (4, .int (s0))]) [0, 1, 2, 3, 4] rfl ?_
      exact br_begin_66 X hml hr h
def fr_begin_18 (ρ : Rho) (v1 : Int32) (v2 : Int32) (v3 : Int32) : Option (Rho × Int32) := fr_begin_19 ρ v1 v2 v3 0
set_option maxRecDepth 100000 in
set_option maxHeartbeats 4000000 in
theorem br_begin_18 {p : Program} {l : Launch} {e : Env} {s : State} {m : MethodId} {args : Array Value} {below : List Frame} {meth : Method} {c : Code} {D : va_G} {dA : Nat → ClassId} {A : Nat → Prop} {ad : Nat → Nat} {o : Rho × Int32} (X : zc p l s m args meth c cX12_begin RX12 D dA A) (hml : c.maxLocals = 10) (hr : meth.sig.returnType = (some .int)) {ρ : Rho} {v1 : Int32} {v2 : Int32} {v3 : Int32} (h : fr_begin_18 ρ v1 v2 v3 = some o) : zz p l e ({ frames := 120, cells := 0, slots := 0, locals := 1200 } : Room) s m args below meth c A (rw D dA A ρ ad) 0 0 (MQ below (va_Qi (fun r (_ : Unit) => r = o.2 ∧ True) (fun _ t => rw D dA A o.1 ad t.heap) A) args s 0 0 A) 18 [(0, .ref (ad 40)), (1, .int (v1)), (2, .int (v2)), (3, .int (v3))] [] [] := by
  unfold fr_begin_18 at h
  refine z_iconst (v := 0) X dX12_begin_18 (by decide) ?_
  refine zz.pick (lo' := [(0, .ref (ad 40)), (1, .int (v1)), (2, .int (v2)), (3, .int (v3))]) [0, 1, 2, 3] rfl ?_
  exact br_begin_19 X hml hr h
def fr_begin (ρ : Rho) (a1 : Int32) (a2 : Int32) (a3 : Int32) : Option (Rho × Int32) := (fr_isPhone ρ (a1)).bind fun o1 => (if o1 = 0 then fr_begin_18 ρ a1 a2 a3
  else (fr_isPhone ρ (a2)).bind fun o2 => (if o2 = 0 then fr_begin_18 ρ a1 a2 a3
  else fr_begin_19 ρ a1 a2 a3 1))
set_option maxRecDepth 100000 in
set_option maxHeartbeats 4000000 in
theorem br_begin {p : Program} {l : Launch} {e : Env} {s : State} {m : MethodId} {args : Array Value} {below : List Frame} {meth : Method} {c : Code} {D : va_G} {dA : Nat → ClassId} {A : Nat → Prop} {ad : Nat → Nat} {o : Rho × Int32} (X : zc p l s m args meth c cX12_begin RX12 D dA A) (hml : c.maxLocals = 10) (hr : meth.sig.returnType = (some .int)) {ρ : Rho} {a1 : Int32} {a2 : Int32} {a3 : Int32} (h : fr_begin ρ a1 a2 a3 = some o) : zz p l e ({ frames := 120, cells := 0, slots := 0, locals := 1200 } : Room) s m args below meth c A (rw D dA A ρ ad) 0 0 (MQ below (va_Qi (fun r (_ : Unit) => r = o.2 ∧ True) (fun _ t => rw D dA A o.1 ad t.heap) A) args s 0 0 A) 0 [(0, .ref (ad 40)), (1, .int (a1)), (2, .int (a2)), (3, .int (a3))] [] [] := by
  unfold fr_begin at h
  refine z_iload_n X dX12_begin_0 rfl rfl ?_
  obtain ⟨o1, co1, h⟩ := zb2 h
  refine z_callSi (As := [.int (a1)]) (rest := []) (nA := 1) (r0 := o1) (pu := fun (_ : Unit) => True) (G1 := fun _ => rw D dA A ρ ad) X (cr_isPhone l X.2.2.2.2.2.2.2.2 X.2.2.2.2.2.2.1 co1) g_1469 g_1470 g_15 g_1471 hd_yX12_isPhone ⟨rfl, rfl, Nat.le_of_ble_eq_true rfl, Nat.le_of_ble_eq_true rfl⟩ rfl rfl (Nat.le_of_ble_eq_true rfl) dX12_begin_1 ⟨Nat.le_refl _, Nat.le_refl _⟩ (fun _ _ => ?_)
  refine z_if_eq (tgt := 18) X dX12_begin_4 (by decide) (fun q => ?_) (fun q => ?_)
  · have h := zp q h
    refine zz.pick (lo' := [(0, .ref (ad 40)), (1, .int (a1)), (2, .int (a2)), (3, .int (a3))]) [0, 1, 2, 3] rfl ?_
    exact br_begin_18 X hml hr h
  · have h := zn q h
    refine z_iload_n X dX12_begin_7 rfl rfl ?_
    obtain ⟨o2, co2, h⟩ := zb2 h
    refine z_callSi (As := [.int (a2)]) (rest := []) (nA := 1) (r0 := o2) (pu := fun (_ : Unit) => True) (G1 := fun _ => rw D dA A ρ ad) X (cr_isPhone l X.2.2.2.2.2.2.2.2 X.2.2.2.2.2.2.1 co2) g_1469 g_1470 g_15 g_1471 hd_yX12_isPhone ⟨rfl, rfl, Nat.le_of_ble_eq_true rfl, Nat.le_of_ble_eq_true rfl⟩ rfl rfl (Nat.le_of_ble_eq_true rfl) dX12_begin_8 ⟨Nat.le_refl _, Nat.le_refl _⟩ (fun _ _ => ?_)
    refine z_if_eq (tgt := 18) X dX12_begin_11 (by decide) (fun q => ?_) (fun q => ?_)
    · have h := zp q h
      refine zz.pick (lo' := [(0, .ref (ad 40)), (1, .int (a1)), (2, .int (a2)), (3, .int (a3))]) [0, 1, 2, 3] rfl ?_
      exact br_begin_18 X hml hr h
    · have h := zn q h
      refine z_iconst (v := 1) X dX12_begin_14 (by decide) ?_
      refine z_goto (tgt := 19) X dX12_begin_15 (by decide) ?_
      refine zz.pick (lo' := [(0, .ref (ad 40)), (1, .int (a1)), (2, .int (a2)), (3, .int (a3))]) [0, 1, 2, 3] rfl ?_
      exact br_begin_19 X hml hr h
theorem cr_begin (l : Launch) {D : va_G} {dA : Nat → ClassId} {A : Nat → Prop} {n : Nat} {ad : Nat → Nat} (hst : l.stackTraces = false) (hA : ∀ q, n ≤ q → A q) {ρ : Rho} {a1 : Int32} {a2 : Int32} {a3 : Int32} {o : Rho × Int32} (h : fr_begin ρ a1 a2 a3 = some o) : Met l yX12_begin (.code yX12_begin cX12_begin 10 (some .int) :: gT) ({ frames := 120, cells := 0, slots := 0, locals := 1200 } : Room) (va_Pc [.ref (ad 40), .int a1, .int a2, .int a3] (zB D dA A n (rw D dA A ρ ad))) (va_Qi (fun r (_ : Unit) => r = o.2 ∧ True) (fun _ t => rw D dA A o.1 ad t.heap) A) 0 0 A :=
  z_met (by decide) hA hst (Nat.le_of_ble_eq_true rfl) rfl rfl (fun p e s m below meth c X hml hr _ => br_begin X hml hr h)
-- join(IIZ)I
def fr_join_133 (ρ : Rho) (s1 : Int32) (s2 : Int32) (s4 : Int32) : Option (Rho × Int32) := if s4 < 0 ∨ 10 ≤ (s4).toNatClampNeg then none else (fr_begins ρ (s1) (s2) ((ρ 7 (s4).toNatClampNeg))).bind fun o2 => (some (o2.2)).bind fun x3 => (fr_getsSlice o2.1 (x3)).bind fun o4 => some (o4, x3)
set_option maxRecDepth 100000 in
set_option maxHeartbeats 4000000 in
theorem br_join_133 {p : Program} {l : Launch} {e : Env} {s : State} {m : MethodId} {args : Array Value} {below : List Frame} {meth : Method} {c : Code} {D : va_G} {dA : Nat → ClassId} {A : Nat → Prop} {ad : Nat → Nat} {o : Rho × Int32} (X : zc p l s m args meth c cX12_join RX12 D dA A) (hml : c.maxLocals = 7) (hr : meth.sig.returnType = (some .int)) {ρ : Rho} {s1 : Int32} {s2 : Int32} {s4 : Int32} (h : fr_join_133 ρ s1 s2 s4 = some o) : zz p l e ({ frames := 120, cells := 0, slots := 0, locals := 1200 } : Room) s m args below meth c A (rw D dA A ρ ad) 0 0 (MQ below (va_Qi (fun r (_ : Unit) => r = o.2 ∧ True) (fun _ t => rw D dA A o.1 ad t.heap) A) args s 0 0 A) 133 [(0, .ref (ad 40))] [] [.int (s4), .ref (ad 7), .int (s2), .int (s1), .ref (ad 40)] := by
  unfold fr_join_133 at h
  obtain ⟨q1, h⟩ := zg h
  refine r_ald X 7 rfl rfl q1 dX12_join_133 ?_
  obtain ⟨o2, co2, h⟩ := zb2 h
  refine z_callVi (As := [.int (s1), .int (s2), .int ((ρ 7 (s4).toNatClampNeg))]) (rest := []) (nA := 3) (r0 := o2.2) (pu := fun (_ : Unit) => True) (G1 := fun _ => rw D dA A o2.1 ad) X (cr_begins l X.2.2.2.2.2.2.2.2 X.2.2.2.2.2.2.1 co2) g_1528 g_1530 gs_31 g_15 g_1531 hd_yX12_begins ⟨rfl, rfl, Nat.le_of_ble_eq_true rfl, Nat.le_of_ble_eq_true rfl⟩ rfl (fun _ hG => rw_recv X hG) rfl (Nat.le_of_ble_eq_true rfl) dX12_join_134 ⟨Nat.le_refl _, Nat.le_refl _⟩ (fun _ _ => ?_)
  obtain ⟨x3, ex3, h⟩ := zb h
  rw [ex3]
  refine z_istore (lo' := [(6, .int (x3)), (0, .ref (ad 40))]) X dX12_join_137 (by rw [hml]; decide) rfl rfl ?_
  refine z_aload_n X dX12_join_139 rfl rfl ?_
  refine z_iload X dX12_join_140 rfl ?_
  obtain ⟨o4, co4, h⟩ := zb2 h
  refine z_callVv (As := [.int (x3)]) (rest := []) (nA := 1) (pu := fun (_ : Unit) => True) (G1 := fun _ => rw D dA A o4 ad) X (cr_getsSlice l X.2.2.2.2.2.2.2.2 X.2.2.2.2.2.2.1 co4) g_1539 g_1541 gs_33 g_15 g_1542 hd_yX12_getsSlice ⟨rfl, rfl, Nat.le_of_ble_eq_true rfl, Nat.le_of_ble_eq_true rfl⟩ rfl (fun _ hG => rw_recv X hG) rfl (Nat.le_of_ble_eq_true rfl) dX12_join_142 ⟨Nat.le_refl _, Nat.le_refl _⟩ (fun _ _ => ?_)
  refine z_iload X dX12_join_145 rfl ?_
  obtain rfl := Option.some.inj h
  exact z_iret X hr rfl (fun t hG hF _ => ⟨⟨_, (), rfl, ⟨rfl, trivial⟩, hG⟩, hF⟩) dX12_join_147
def fr_join_104 (ρ : Rho) (v1 : Int32) (v2 : Int32) (v3 : Int32) (s1 : Int32) : Option (Rho × Int32) := (fr_can ρ (s1)).bind fun o1 => (if o1.2 = 0 then some (o1.1, 0)
  else (if v3 = 0 then fr_join_133 o1.1 v1 v2 v1
  else if v2 < 0 ∨ 40 ≤ (v2).toNatClampNeg then none else fr_join_133 o1.1 v1 v2 (o1.1 21 (v2).toNatClampNeg)))
set_option maxRecDepth 100000 in
set_option maxHeartbeats 4000000 in
theorem br_join_104 {p : Program} {l : Launch} {e : Env} {s : State} {m : MethodId} {args : Array Value} {below : List Frame} {meth : Method} {c : Code} {D : va_G} {dA : Nat → ClassId} {A : Nat → Prop} {ad : Nat → Nat} {o : Rho × Int32} (X : zc p l s m args meth c cX12_join RX12 D dA A) (hml : c.maxLocals = 7) (hr : meth.sig.returnType = (some .int)) {ρ : Rho} {v1 : Int32} {v2 : Int32} {v3 : Int32} {s1 : Int32} (h : fr_join_104 ρ v1 v2 v3 s1 = some o) : zz p l e ({ frames := 120, cells := 0, slots := 0, locals := 1200 } : Room) s m args below meth c A (rw D dA A ρ ad) 0 0 (MQ below (va_Qi (fun r (_ : Unit) => r = o.2 ∧ True) (fun _ t => rw D dA A o.1 ad t.heap) A) args s 0 0 A) 104 [(0, .ref (ad 40)), (1, .int (v1)), (2, .int (v2)), (3, .int (v3))] [] [.int (s1), .ref (ad 40)] := by
  unfold fr_join_104 at h
  obtain ⟨o1, co1, h⟩ := zb2 h
  refine z_callVi (As := [.int (s1)]) (rest := []) (nA := 1) (r0 := o1.2) (pu := fun (_ : Unit) => True) (G1 := fun _ => rw D dA A o1.1 ad) X (cr_can l X.2.2.2.2.2.2.2.2 X.2.2.2.2.2.2.1 co1) g_1445 g_1447 gs_25 g_15 g_1448 hd_yX12_can ⟨rfl, rfl, Nat.le_of_ble_eq_true rfl, Nat.le_of_ble_eq_true rfl⟩ rfl (fun _ hG => rw_recv X hG) rfl (Nat.le_of_ble_eq_true rfl) dX12_join_104 ⟨Nat.le_refl _, Nat.le_refl _⟩ (fun _ _ => ?_)
  refine z_if_ne (tgt := 112) X dX12_join_107 (by decide) (fun q => ?_) (fun q => ?_)
  · have h := zp q h
    refine z_iconst (v := 0) X dX12_join_110 (by decide) ?_
    obtain rfl := Option.some.inj h
    exact z_iret X hr rfl (fun t hG hF _ => ⟨⟨_, (), rfl, ⟨rfl, trivial⟩, hG⟩, hF⟩) dX12_join_111
  · have h := zn q h
    refine z_aload_n X dX12_join_112 rfl rfl ?_
    refine z_iload_n X dX12_join_113 rfl rfl ?_
    refine z_iload_n X dX12_join_114 rfl rfl ?_
    refine z_aload_n X dX12_join_115 rfl rfl ?_
    refine r_getA X 7 rfl rfl g_1313 dX12_join_116 ?_
    refine z_iload_n X dX12_join_119 rfl rfl ?_
    refine z_if_eq (tgt := 132) X dX12_join_120 (by decide) (fun q => ?_) (fun q => ?_)
    · have h := zp q h
      refine z_iload_n X dX12_join_132 rfl rfl ?_
      refine zz.pick (lo' := [(0, .ref (ad 40))]) [0] rfl ?_
      exact br_join_133 X hml hr h
    · have h := zn q h
      refine z_aload_n X dX12_join_123 rfl rfl ?_
      refine r_getA X 21 rfl rfl g_1327 dX12_join_124 ?_
      refine z_iload_n X dX12_join_127 rfl rfl ?_
      obtain ⟨q2, h⟩ := zg h
      refine r_ald X 21 rfl rfl q2 dX12_join_128 ?_
      refine z_goto (tgt := 133) X dX12_join_129 (by decide) ?_
      refine zz.pick (lo' := [(0, .ref (ad 40))]) [0] rfl ?_
      exact br_join_133 X hml hr h
def fr_join_82 (ρ : Rho) (v1 : Int32) (v2 : Int32) (v3 : Int32) (v4 : Int32) (s0 : Int32) : Option (Rho × Int32) := (if v4 = 0 then fr_join_104 ρ v1 v2 v3 1
  else (if s0 = 0 then fr_join_104 ρ v1 v2 v3 0
  else fr_join_104 ρ v1 v2 v3 2))
set_option maxRecDepth 100000 in
set_option maxHeartbeats 4000000 in
theorem br_join_82 {p : Program} {l : Launch} {e : Env} {s : State} {m : MethodId} {args : Array Value} {below : List Frame} {meth : Method} {c : Code} {D : va_G} {dA : Nat → ClassId} {A : Nat → Prop} {ad : Nat → Nat} {o : Rho × Int32} (X : zc p l s m args meth c cX12_join RX12 D dA A) (hml : c.maxLocals = 7) (hr : meth.sig.returnType = (some .int)) {ρ : Rho} {v1 : Int32} {v2 : Int32} {v3 : Int32} {v4 : Int32} {s0 : Int32} (h : fr_join_82 ρ v1 v2 v3 v4 s0 = some o) : zz p l e ({ frames := 120, cells := 0, slots := 0, locals := 1200 } : Room) s m args below meth c A (rw D dA A ρ ad) 0 0 (MQ below (va_Qi (fun r (_ : Unit) => r = o.2 ∧ True) (fun _ t => rw D dA A o.1 ad t.heap) A) args s 0 0 A) 82 [(0, .ref (ad 40)), (1, .int (v1)), (2, .int (v2)), (3, .int (v3)), (4, .int (v4))] [] [.int (s0)] := by
  unfold fr_join_82 at h
  refine z_istore (lo' := [(5, .int (s0)), (0, .ref (ad 40)), (1, .int (v1)), (2, .int (v2)), (3, .int (v3)), (4, .int (v4))]) X dX12_join_82 (by rw [hml]; decide) rfl rfl ?_
  refine z_aload_n X dX12_join_84 rfl rfl ?_
  refine z_iload X dX12_join_85 rfl ?_
  refine z_if_ne (tgt := 94) X dX12_join_87 (by decide) (fun q => ?_) (fun q => ?_)
  · have h := zp q h
    refine z_iconst (v := 1) X dX12_join_90 (by decide) ?_
    refine z_goto (tgt := 104) X dX12_join_91 (by decide) ?_
    refine zz.pick (lo' := [(0, .ref (ad 40)), (1, .int (v1)), (2, .int (v2)), (3, .int (v3))]) [0, 1, 2, 3] rfl ?_
    exact br_join_104 X hml hr h
  · have h := zn q h
    refine z_iload X dX12_join_94 rfl ?_
    refine z_if_eq (tgt := 103) X dX12_join_96 (by decide) (fun q => ?_) (fun q => ?_)
    · have h := zp q h
      refine z_iconst (v := 0) X dX12_join_103 (by decide) ?_
      refine zz.pick (lo' := [(0, .ref (ad 40)), (1, .int (v1)), (2, .int (v2)), (3, .int (v3))]) [0, 1, 2, 3] rfl ?_
      exact br_join_104 X hml hr h
    · have h := zn q h
      refine z_iconst (v := 2) X dX12_join_99 (by decide) ?_
      refine z_goto (tgt := 104) X dX12_join_100 (by decide) ?_
      refine zz.pick (lo' := [(0, .ref (ad 40)), (1, .int (v1)), (2, .int (v2)), (3, .int (v3))]) [0, 1, 2, 3] rfl ?_
      exact br_join_104 X hml hr h
def fr_join_81 (ρ : Rho) (v1 : Int32) (v2 : Int32) (v3 : Int32) (v4 : Int32) : Option (Rho × Int32) := fr_join_82 ρ v1 v2 v3 v4 0
set_option maxRecDepth 100000 in
set_option maxHeartbeats 4000000 in
theorem br_join_81 {p : Program} {l : Launch} {e : Env} {s : State} {m : MethodId} {args : Array Value} {below : List Frame} {meth : Method} {c : Code} {D : va_G} {dA : Nat → ClassId} {A : Nat → Prop} {ad : Nat → Nat} {o : Rho × Int32} (X : zc p l s m args meth c cX12_join RX12 D dA A) (hml : c.maxLocals = 7) (hr : meth.sig.returnType = (some .int)) {ρ : Rho} {v1 : Int32} {v2 : Int32} {v3 : Int32} {v4 : Int32} (h : fr_join_81 ρ v1 v2 v3 v4 = some o) : zz p l e ({ frames := 120, cells := 0, slots := 0, locals := 1200 } : Room) s m args below meth c A (rw D dA A ρ ad) 0 0 (MQ below (va_Qi (fun r (_ : Unit) => r = o.2 ∧ True) (fun _ t => rw D dA A o.1 ad t.heap) A) args s 0 0 A) 81 [(0, .ref (ad 40)), (1, .int (v1)), (2, .int (v2)), (3, .int (v3)), (4, .int (v4))] [] [] := by
  unfold fr_join_81 at h
  refine z_iconst (v := 0) X dX12_join_81 (by decide) ?_
  refine zz.pick (lo' := [(0, .ref (ad 40)), (1, .int (v1)), (2, .int (v2)), (3, .int (v3)), (4, .int (v4))]) [0, 1, 2, 3, 4] rfl ?_
  exact br_join_82 X hml hr h
def fr_join_77 (ρ : Rho) (v1 : Int32) (v2 : Int32) (v3 : Int32) (v4 : Int32) : Option (Rho × Int32) := fr_join_82 ρ v1 v2 v3 v4 1
set_option maxRecDepth 100000 in
set_option maxHeartbeats 4000000 in
theorem br_join_77 {p : Program} {l : Launch} {e : Env} {s : State} {m : MethodId} {args : Array Value} {below : List Frame} {meth : Method} {c : Code} {D : va_G} {dA : Nat → ClassId} {A : Nat → Prop} {ad : Nat → Nat} {o : Rho × Int32} (X : zc p l s m args meth c cX12_join RX12 D dA A) (hml : c.maxLocals = 7) (hr : meth.sig.returnType = (some .int)) {ρ : Rho} {v1 : Int32} {v2 : Int32} {v3 : Int32} {v4 : Int32} (h : fr_join_77 ρ v1 v2 v3 v4 = some o) : zz p l e ({ frames := 120, cells := 0, slots := 0, locals := 1200 } : Room) s m args below meth c A (rw D dA A ρ ad) 0 0 (MQ below (va_Qi (fun r (_ : Unit) => r = o.2 ∧ True) (fun _ t => rw D dA A o.1 ad t.heap) A) args s 0 0 A) 77 [(0, .ref (ad 40)), (1, .int (v1)), (2, .int (v2)), (3, .int (v3)), (4, .int (v4))] [] [] := by
  unfold fr_join_77 at h
  refine z_iconst (v := 1) X dX12_join_77 (by decide) ?_
  refine z_goto (tgt := 82) X dX12_join_78 (by decide) ?_
  refine zz.pick (lo' := [(0, .ref (ad 40)), (1, .int (v1)), (2, .int (v2)), (3, .int (v3)), (4, .int (v4))]) [0, 1, 2, 3, 4] rfl ?_
  exact br_join_82 X hml hr h
def fr_join_20 (ρ : Rho) (v1 : Int32) (v2 : Int32) (v3 : Int32) (s0 : Int32) : Option (Rho × Int32) := (if s0 = 0 then fr_join_81 ρ v1 v2 v3 s0
  else if v1 < 0 ∨ 10 ≤ (v1).toNatClampNeg then none else (if (ρ 9 (v1).toNatClampNeg) = (-1) then (fr_partiesOf ρ (v2)).bind fun o2 => (if o2 = 0 then fr_join_77 ρ v1 v2 v3 s0
  else (fr_partiesOf ρ (v2)).bind fun o3 => (if o3 = 4 then fr_join_77 ρ v1 v2 v3 s0
  else if v1 < 0 ∨ 10 ≤ (v1).toNatClampNeg then none else (fr_hasChannels ρ ((ρ 6 (v1).toNatClampNeg)) (1)).bind fun o5 => (if o5 = 0 then fr_join_77 ρ v1 v2 v3 s0
  else (if (ρ 22 0) = 80 then fr_join_77 ρ v1 v2 v3 s0
  else fr_join_81 ρ v1 v2 v3 s0))))
  else fr_join_77 ρ v1 v2 v3 s0))
set_option maxRecDepth 100000 in
set_option maxHeartbeats 4000000 in
theorem br_join_20 {p : Program} {l : Launch} {e : Env} {s : State} {m : MethodId} {args : Array Value} {below : List Frame} {meth : Method} {c : Code} {D : va_G} {dA : Nat → ClassId} {A : Nat → Prop} {ad : Nat → Nat} {o : Rho × Int32} (X : zc p l s m args meth c cX12_join RX12 D dA A) (hml : c.maxLocals = 7) (hr : meth.sig.returnType = (some .int)) {ρ : Rho} {v1 : Int32} {v2 : Int32} {v3 : Int32} {s0 : Int32} (h : fr_join_20 ρ v1 v2 v3 s0 = some o) : zz p l e ({ frames := 120, cells := 0, slots := 0, locals := 1200 } : Room) s m args below meth c A (rw D dA A ρ ad) 0 0 (MQ below (va_Qi (fun r (_ : Unit) => r = o.2 ∧ True) (fun _ t => rw D dA A o.1 ad t.heap) A) args s 0 0 A) 20 [(0, .ref (ad 40)), (1, .int (v1)), (2, .int (v2)), (3, .int (v3))] [] [.int (s0)] := by
  unfold fr_join_20 at h
  refine z_istore (lo' := [(4, .int (s0)), (0, .ref (ad 40)), (1, .int (v1)), (2, .int (v2)), (3, .int (v3))]) X dX12_join_20 (by rw [hml]; decide) rfl rfl ?_
  refine z_iload X dX12_join_22 rfl ?_
  refine z_if_eq (tgt := 81) X dX12_join_24 (by decide) (fun q => ?_) (fun q => ?_)
  · have h := zp q h
    refine zz.pick (lo' := [(0, .ref (ad 40)), (1, .int (v1)), (2, .int (v2)), (3, .int (v3)), (4, .int (s0))]) [0, 1, 2, 3, 4] rfl ?_
    exact br_join_81 X hml hr h
  · have h := zn q h
    refine z_aload_n X dX12_join_27 rfl rfl ?_
    refine r_getA X 9 rfl rfl g_1315 dX12_join_28 ?_
    refine z_iload_n X dX12_join_31 rfl rfl ?_
    obtain ⟨q1, h⟩ := zg h
    refine r_ald X 9 rfl rfl q1 dX12_join_32 ?_
    refine z_iconst (v := (-1)) X dX12_join_33 (by decide) ?_
    refine z_icmp_ne (tgt := 77) X dX12_join_34 (by decide) (fun q => ?_) (fun q => ?_)
    · have h := zp q h
      refine z_aload_n X dX12_join_37 rfl rfl ?_
      refine z_iload_n X dX12_join_38 rfl rfl ?_
      obtain ⟨o2, co2, h⟩ := zb2 h
      refine z_callVi (As := [.int (v2)]) (rest := []) (nA := 1) (r0 := o2) (pu := fun (_ : Unit) => True) (G1 := fun _ => rw D dA A ρ ad) X (cr_partiesOf l X.2.2.2.2.2.2.2.2 X.2.2.2.2.2.2.1 co2) g_1587 g_1589 gs_45 g_15 g_1590 hd_yX12_partiesOf ⟨rfl, rfl, Nat.le_of_ble_eq_true rfl, Nat.le_of_ble_eq_true rfl⟩ rfl (fun _ hG => rw_recv X hG) rfl (Nat.le_of_ble_eq_true rfl) dX12_join_39 ⟨Nat.le_refl _, Nat.le_refl _⟩ (fun _ _ => ?_)
      refine z_if_eq (tgt := 77) X dX12_join_42 (by decide) (fun q => ?_) (fun q => ?_)
      · have h := zp q h
        refine zz.pick (lo' := [(0, .ref (ad 40)), (1, .int (v1)), (2, .int (v2)), (3, .int (v3)), (4, .int (s0))]) [0, 1, 2, 3, 4] rfl ?_
        exact br_join_77 X hml hr h
      · have h := zn q h
        refine z_aload_n X dX12_join_45 rfl rfl ?_
        refine z_iload_n X dX12_join_46 rfl rfl ?_
        obtain ⟨o3, co3, h⟩ := zb2 h
        refine z_callVi (As := [.int (v2)]) (rest := []) (nA := 1) (r0 := o3) (pu := fun (_ : Unit) => True) (G1 := fun _ => rw D dA A ρ ad) X (cr_partiesOf l X.2.2.2.2.2.2.2.2 X.2.2.2.2.2.2.1 co3) g_1587 g_1589 gs_45 g_15 g_1590 hd_yX12_partiesOf ⟨rfl, rfl, Nat.le_of_ble_eq_true rfl, Nat.le_of_ble_eq_true rfl⟩ rfl (fun _ hG => rw_recv X hG) rfl (Nat.le_of_ble_eq_true rfl) dX12_join_47 ⟨Nat.le_refl _, Nat.le_refl _⟩ (fun _ _ => ?_)
        refine z_iconst (v := 4) X dX12_join_50 (by decide) ?_
        refine z_icmp_eq (tgt := 77) X dX12_join_51 (by decide) (fun q => ?_) (fun q => ?_)
        · have h := zp q h
          refine zz.pick (lo' := [(0, .ref (ad 40)), (1, .int (v1)), (2, .int (v2)), (3, .int (v3)), (4, .int (s0))]) [0, 1, 2, 3, 4] rfl ?_
          exact br_join_77 X hml hr h
        · have h := zn q h
          refine z_aload_n X dX12_join_54 rfl rfl ?_
          refine z_aload_n X dX12_join_55 rfl rfl ?_
          refine r_getA X 6 rfl rfl g_1312 dX12_join_56 ?_
          refine z_iload_n X dX12_join_59 rfl rfl ?_
          obtain ⟨q4, h⟩ := zg h
          refine r_ald X 6 rfl rfl q4 dX12_join_60 ?_
          refine z_iconst (v := 1) X dX12_join_61 (by decide) ?_
          obtain ⟨o5, co5, h⟩ := zb2 h
          refine z_callVi (As := [.int ((ρ 6 (v1).toNatClampNeg)), .int (1)]) (rest := []) (nA := 2) (r0 := o5) (pu := fun (_ : Unit) => True) (G1 := fun _ => rw D dA A ρ ad) X (cr_hasChannels l X.2.2.2.2.2.2.2.2 X.2.2.2.2.2.2.1 co5) g_1524 g_1526 gs_30 g_15 g_1527 hd_yX12_hasChannels ⟨rfl, rfl, Nat.le_of_ble_eq_true rfl, Nat.le_of_ble_eq_true rfl⟩ rfl (fun _ hG => rw_recv X hG) rfl (Nat.le_of_ble_eq_true rfl) dX12_join_62 ⟨Nat.le_refl _, Nat.le_refl _⟩ (fun _ _ => ?_)
          refine z_if_eq (tgt := 77) X dX12_join_65 (by decide) (fun q => ?_) (fun q => ?_)
          · have h := zp q h
            refine zz.pick (lo' := [(0, .ref (ad 40)), (1, .int (v1)), (2, .int (v2)), (3, .int (v3)), (4, .int (s0))]) [0, 1, 2, 3, 4] rfl ?_
            exact br_join_77 X hml hr h
          · have h := zn q h
            refine z_aload_n X dX12_join_68 rfl rfl ?_
            refine r_getS X 22 rfl rfl g_1328 dX12_join_69 ?_
            refine z_bipush (v := 80) X dX12_join_72 (by decide) ?_
            refine z_icmp_ne (tgt := 81) X dX12_join_74 (by decide) (fun q => ?_) (fun q => ?_)
            · have h := zp q h
              refine zz.pick (lo' := [(0, .ref (ad 40)), (1, .int (v1)), (2, .int (v2)), (3, .int (v3)), (4, .int (s0))]) [0, 1, 2, 3, 4] rfl ?_
              exact br_join_77 X hml hr h
            · have h := zn q h
              refine zz.pick (lo' := [(0, .ref (ad 40)), (1, .int (v1)), (2, .int (v2)), (3, .int (v3)), (4, .int (s0))]) [0, 1, 2, 3, 4] rfl ?_
              exact br_join_81 X hml hr h
    · have h := zn q h
      refine zz.pick (lo' := [(0, .ref (ad 40)), (1, .int (v1)), (2, .int (v2)), (3, .int (v3)), (4, .int (s0))]) [0, 1, 2, 3, 4] rfl ?_
      exact br_join_77 X hml hr h
def fr_join_19 (ρ : Rho) (v1 : Int32) (v2 : Int32) (v3 : Int32) : Option (Rho × Int32) := fr_join_20 ρ v1 v2 v3 0
set_option maxRecDepth 100000 in
set_option maxHeartbeats 4000000 in
theorem br_join_19 {p : Program} {l : Launch} {e : Env} {s : State} {m : MethodId} {args : Array Value} {below : List Frame} {meth : Method} {c : Code} {D : va_G} {dA : Nat → ClassId} {A : Nat → Prop} {ad : Nat → Nat} {o : Rho × Int32} (X : zc p l s m args meth c cX12_join RX12 D dA A) (hml : c.maxLocals = 7) (hr : meth.sig.returnType = (some .int)) {ρ : Rho} {v1 : Int32} {v2 : Int32} {v3 : Int32} (h : fr_join_19 ρ v1 v2 v3 = some o) : zz p l e ({ frames := 120, cells := 0, slots := 0, locals := 1200 } : Room) s m args below meth c A (rw D dA A ρ ad) 0 0 (MQ below (va_Qi (fun r (_ : Unit) => r = o.2 ∧ True) (fun _ t => rw D dA A o.1 ad t.heap) A) args s 0 0 A) 19 [(0, .ref (ad 40)), (1, .int (v1)), (2, .int (v2)), (3, .int (v3))] [] [] := by
  unfold fr_join_19 at h
  refine z_iconst (v := 0) X dX12_join_19 (by decide) ?_
  refine zz.pick (lo' := [(0, .ref (ad 40)), (1, .int (v1)), (2, .int (v2)), (3, .int (v3))]) [0, 1, 2, 3] rfl ?_
  exact br_join_20 X hml hr h
def fr_join (ρ : Rho) (a1 : Int32) (a2 : Int32) (a3 : Int32) : Option (Rho × Int32) := (fr_isPhone ρ (a1)).bind fun o1 => (if o1 = 0 then fr_join_19 ρ a1 a2 a3
  else (fr_isCall ρ (a2)).bind fun o2 => (if o2 = 0 then fr_join_19 ρ a1 a2 a3
  else fr_join_20 ρ a1 a2 a3 1))
set_option maxRecDepth 100000 in
set_option maxHeartbeats 4000000 in
theorem br_join {p : Program} {l : Launch} {e : Env} {s : State} {m : MethodId} {args : Array Value} {below : List Frame} {meth : Method} {c : Code} {D : va_G} {dA : Nat → ClassId} {A : Nat → Prop} {ad : Nat → Nat} {o : Rho × Int32} (X : zc p l s m args meth c cX12_join RX12 D dA A) (hml : c.maxLocals = 7) (hr : meth.sig.returnType = (some .int)) {ρ : Rho} {a1 : Int32} {a2 : Int32} {a3 : Int32} (h : fr_join ρ a1 a2 a3 = some o) : zz p l e ({ frames := 120, cells := 0, slots := 0, locals := 1200 } : Room) s m args below meth c A (rw D dA A ρ ad) 0 0 (MQ below (va_Qi (fun r (_ : Unit) => r = o.2 ∧ True) (fun _ t => rw D dA A o.1 ad t.heap) A) args s 0 0 A) 0 [(0, .ref (ad 40)), (1, .int (a1)), (2, .int (a2)), (3, .int (a3))] [] [] := by
  unfold fr_join at h
  refine z_iload_n X dX12_join_0 rfl rfl ?_
  obtain ⟨o1, co1, h⟩ := zb2 h
  refine z_callSi (As := [.int (a1)]) (rest := []) (nA := 1) (r0 := o1) (pu := fun (_ : Unit) => True) (G1 := fun _ => rw D dA A ρ ad) X (cr_isPhone l X.2.2.2.2.2.2.2.2 X.2.2.2.2.2.2.1 co1) g_1469 g_1470 g_15 g_1471 hd_yX12_isPhone ⟨rfl, rfl, Nat.le_of_ble_eq_true rfl, Nat.le_of_ble_eq_true rfl⟩ rfl rfl (Nat.le_of_ble_eq_true rfl) dX12_join_1 ⟨Nat.le_refl _, Nat.le_refl _⟩ (fun _ _ => ?_)
  refine z_if_eq (tgt := 19) X dX12_join_4 (by decide) (fun q => ?_) (fun q => ?_)
  · have h := zp q h
    refine zz.pick (lo' := [(0, .ref (ad 40)), (1, .int (a1)), (2, .int (a2)), (3, .int (a3))]) [0, 1, 2, 3] rfl ?_
    exact br_join_19 X hml hr h
  · have h := zn q h
    refine z_aload_n X dX12_join_7 rfl rfl ?_
    refine z_iload_n X dX12_join_8 rfl rfl ?_
    obtain ⟨o2, co2, h⟩ := zb2 h
    refine z_callVi (As := [.int (a2)]) (rest := []) (nA := 1) (r0 := o2) (pu := fun (_ : Unit) => True) (G1 := fun _ => rw D dA A ρ ad) X (cr_isCall l X.2.2.2.2.2.2.2.2 X.2.2.2.2.2.2.1 co2) g_1595 g_1597 gs_46 g_15 g_1598 hd_yX12_isCall ⟨rfl, rfl, Nat.le_of_ble_eq_true rfl, Nat.le_of_ble_eq_true rfl⟩ rfl (fun _ hG => rw_recv X hG) rfl (Nat.le_of_ble_eq_true rfl) dX12_join_9 ⟨Nat.le_refl _, Nat.le_refl _⟩ (fun _ _ => ?_)
    refine z_if_eq (tgt := 19) X dX12_join_12 (by decide) (fun q => ?_) (fun q => ?_)
    · have h := zp q h
      refine zz.pick (lo' := [(0, .ref (ad 40)), (1, .int (a1)), (2, .int (a2)), (3, .int (a3))]) [0, 1, 2, 3] rfl ?_
      exact br_join_19 X hml hr h
    · have h := zn q h
      refine z_iconst (v := 1) X dX12_join_15 (by decide) ?_
      refine z_goto (tgt := 20) X dX12_join_16 (by decide) ?_
      refine zz.pick (lo' := [(0, .ref (ad 40)), (1, .int (a1)), (2, .int (a2)), (3, .int (a3))]) [0, 1, 2, 3] rfl ?_
      exact br_join_20 X hml hr h
theorem cr_join (l : Launch) {D : va_G} {dA : Nat → ClassId} {A : Nat → Prop} {n : Nat} {ad : Nat → Nat} (hst : l.stackTraces = false) (hA : ∀ q, n ≤ q → A q) {ρ : Rho} {a1 : Int32} {a2 : Int32} {a3 : Int32} {o : Rho × Int32} (h : fr_join ρ a1 a2 a3 = some o) : Met l yX12_join (.code yX12_join cX12_join 7 (some .int) :: gT) ({ frames := 120, cells := 0, slots := 0, locals := 1200 } : Room) (va_Pc [.ref (ad 40), .int a1, .int a2, .int a3] (zB D dA A n (rw D dA A ρ ad))) (va_Qi (fun r (_ : Unit) => r = o.2 ∧ True) (fun _ t => rw D dA A o.1 ad t.heap) A) 0 0 A :=
  z_met (by decide) hA hst (Nat.le_of_ble_eq_true rfl) rfl rfl (fun p e s m below meth c X hml hr _ => br_join X hml hr h)
-- leave(I)I
def fr_leave_29 (ρ : Rho) (v1 : Int32) (s1 : Int32) : Option (Rho × Int32) := (fr_can ρ (s1)).bind fun o1 => (if o1.2 = 0 then some (o1.1, 0)
  else if v1 < 0 ∨ 10 ≤ (v1).toNatClampNeg then none else (some ((o1.1 9 (v1).toNatClampNeg))).bind fun x3 => if v1 < 0 ∨ 10 ≤ (v1).toNatClampNeg then none else (fr_closes o1.1 (x3) (1) ((o1.1 6 (v1).toNatClampNeg))).bind fun o5 => if x3 < 0 ∨ 80 ≤ (x3).toNatClampNeg then none else (fr_partiesOf o5 ((o5 24 (x3).toNatClampNeg))).bind fun o7 => some (o5, o7))
set_option maxRecDepth 100000 in
set_option maxHeartbeats 4000000 in
theorem br_leave_29 {p : Program} {l : Launch} {e : Env} {s : State} {m : MethodId} {args : Array Value} {below : List Frame} {meth : Method} {c : Code} {D : va_G} {dA : Nat → ClassId} {A : Nat → Prop} {ad : Nat → Nat} {o : Rho × Int32} (X : zc p l s m args meth c cX12_leave RX12 D dA A) (hml : c.maxLocals = 4) (hr : meth.sig.returnType = (some .int)) {ρ : Rho} {v1 : Int32} {s1 : Int32} (h : fr_leave_29 ρ v1 s1 = some o) : zz p l e ({ frames := 100, cells := 0, slots := 0, locals := 1000 } : Room) s m args below meth c A (rw D dA A ρ ad) 0 0 (MQ below (va_Qi (fun r (_ : Unit) => r = o.2 ∧ True) (fun _ t => rw D dA A o.1 ad t.heap) A) args s 0 0 A) 29 [(0, .ref (ad 40)), (1, .int (v1))] [] [.int (s1), .ref (ad 40)] := by
  unfold fr_leave_29 at h
  obtain ⟨o1, co1, h⟩ := zb2 h
  refine z_callVi (As := [.int (s1)]) (rest := []) (nA := 1) (r0 := o1.2) (pu := fun (_ : Unit) => True) (G1 := fun _ => rw D dA A o1.1 ad) X (cr_can l X.2.2.2.2.2.2.2.2 X.2.2.2.2.2.2.1 co1) g_1445 g_1447 gs_25 g_15 g_1448 hd_yX12_can ⟨rfl, rfl, Nat.le_of_ble_eq_true rfl, Nat.le_of_ble_eq_true rfl⟩ rfl (fun _ hG => rw_recv X hG) rfl (Nat.le_of_ble_eq_true rfl) dX12_leave_29 ⟨Nat.le_refl _, Nat.le_refl _⟩ (fun _ _ => ?_)
  refine z_if_ne (tgt := 37) X dX12_leave_32 (by decide) (fun q => ?_) (fun q => ?_)
  · have h := zp q h
    refine z_iconst (v := 0) X dX12_leave_35 (by decide) ?_
    obtain rfl := Option.some.inj h
    exact z_iret X hr rfl (fun t hG hF _ => ⟨⟨_, (), rfl, ⟨rfl, trivial⟩, hG⟩, hF⟩) dX12_leave_36
  · have h := zn q h
    refine z_aload_n X dX12_leave_37 rfl rfl ?_
    refine r_getA X 9 rfl rfl g_1315 dX12_leave_38 ?_
    refine z_iload_n X dX12_leave_41 rfl rfl ?_
    obtain ⟨q2, h⟩ := zg h
    refine r_ald X 9 rfl rfl q2 dX12_leave_42 ?_
    obtain ⟨x3, ex3, h⟩ := zb h
    rw [ex3]
    refine z_istore_n (lo' := [(3, .int (x3)), (0, .ref (ad 40)), (1, .int (v1))]) X dX12_leave_43 rfl (by rw [hml]; decide) rfl rfl ?_
    refine z_aload_n X dX12_leave_44 rfl rfl ?_
    refine z_iload_n X dX12_leave_45 rfl rfl ?_
    refine z_iconst (v := 1) X dX12_leave_46 (by decide) ?_
    refine z_aload_n X dX12_leave_47 rfl rfl ?_
    refine r_getA X 6 rfl rfl g_1312 dX12_leave_48 ?_
    refine z_iload_n X dX12_leave_51 rfl rfl ?_
    obtain ⟨q4, h⟩ := zg h
    refine r_ald X 6 rfl rfl q4 dX12_leave_52 ?_
    obtain ⟨o5, co5, h⟩ := zb2 h
    refine z_callVv (As := [.int (x3), .int (1), .int ((o1.1 6 (v1).toNatClampNeg))]) (rest := []) (nA := 3) (pu := fun (_ : Unit) => True) (G1 := fun _ => rw D dA A o5 ad) X (cr_closes l X.2.2.2.2.2.2.2.2 X.2.2.2.2.2.2.1 co5) g_1575 g_1577 gs_42 g_15 g_1578 hd_yX12_closes ⟨rfl, rfl, Nat.le_of_ble_eq_true rfl, Nat.le_of_ble_eq_true rfl⟩ rfl (fun _ hG => rw_recv X hG) rfl (Nat.le_of_ble_eq_true rfl) dX12_leave_53 ⟨Nat.le_refl _, Nat.le_refl _⟩ (fun _ _ => ?_)
    refine z_aload_n X dX12_leave_56 rfl rfl ?_
    refine z_aload_n X dX12_leave_57 rfl rfl ?_
    refine r_getA X 24 rfl rfl g_1330 dX12_leave_58 ?_
    refine z_iload_n X dX12_leave_61 rfl rfl ?_
    obtain ⟨q6, h⟩ := zg h
    refine r_ald X 24 rfl rfl q6 dX12_leave_62 ?_
    obtain ⟨o7, co7, h⟩ := zb2 h
    refine z_callVi (As := [.int ((o5 24 (x3).toNatClampNeg))]) (rest := []) (nA := 1) (r0 := o7) (pu := fun (_ : Unit) => True) (G1 := fun _ => rw D dA A o5 ad) X (cr_partiesOf l X.2.2.2.2.2.2.2.2 X.2.2.2.2.2.2.1 co7) g_1587 g_1589 gs_45 g_15 g_1590 hd_yX12_partiesOf ⟨rfl, rfl, Nat.le_of_ble_eq_true rfl, Nat.le_of_ble_eq_true rfl⟩ rfl (fun _ hG => rw_recv X hG) rfl (Nat.le_of_ble_eq_true rfl) dX12_leave_63 ⟨Nat.le_refl _, Nat.le_refl _⟩ (fun _ _ => ?_)
    obtain rfl := Option.some.inj h
    exact z_iret X hr rfl (fun t hG hF _ => ⟨⟨_, (), rfl, ⟨rfl, trivial⟩, hG⟩, hF⟩) dX12_leave_66
def fr_leave (ρ : Rho) (a1 : Int32) : Option (Rho × Int32) := (fr_isPhone ρ (a1)).bind fun o1 => (if o1 = 0 then fr_leave_29 ρ a1 1
  else if a1 < 0 ∨ 10 ≤ (a1).toNatClampNeg then none else (if (ρ 9 (a1).toNatClampNeg) = (-1) then fr_leave_29 ρ a1 2
  else fr_leave_29 ρ a1 0))
set_option maxRecDepth 100000 in
set_option maxHeartbeats 4000000 in
theorem br_leave {p : Program} {l : Launch} {e : Env} {s : State} {m : MethodId} {args : Array Value} {below : List Frame} {meth : Method} {c : Code} {D : va_G} {dA : Nat → ClassId} {A : Nat → Prop} {ad : Nat → Nat} {o : Rho × Int32} (X : zc p l s m args meth c cX12_leave RX12 D dA A) (hml : c.maxLocals = 4) (hr : meth.sig.returnType = (some .int)) {ρ : Rho} {a1 : Int32} (h : fr_leave ρ a1 = some o) : zz p l e ({ frames := 100, cells := 0, slots := 0, locals := 1000 } : Room) s m args below meth c A (rw D dA A ρ ad) 0 0 (MQ below (va_Qi (fun r (_ : Unit) => r = o.2 ∧ True) (fun _ t => rw D dA A o.1 ad t.heap) A) args s 0 0 A) 0 [(0, .ref (ad 40)), (1, .int (a1))] [] [] := by
  unfold fr_leave at h
  refine z_iload_n X dX12_leave_0 rfl rfl ?_
  obtain ⟨o1, co1, h⟩ := zb2 h
  refine z_callSi (As := [.int (a1)]) (rest := []) (nA := 1) (r0 := o1) (pu := fun (_ : Unit) => True) (G1 := fun _ => rw D dA A ρ ad) X (cr_isPhone l X.2.2.2.2.2.2.2.2 X.2.2.2.2.2.2.1 co1) g_1469 g_1470 g_15 g_1471 hd_yX12_isPhone ⟨rfl, rfl, Nat.le_of_ble_eq_true rfl, Nat.le_of_ble_eq_true rfl⟩ rfl rfl (Nat.le_of_ble_eq_true rfl) dX12_leave_1 ⟨Nat.le_refl _, Nat.le_refl _⟩ (fun _ _ => ?_)
  refine z_istore_n (lo' := [(2, .int (o1)), (0, .ref (ad 40)), (1, .int (a1))]) X dX12_leave_4 rfl (by rw [hml]; decide) rfl rfl ?_
  refine z_aload_n X dX12_leave_5 rfl rfl ?_
  refine z_iload_n X dX12_leave_6 rfl rfl ?_
  refine z_if_ne (tgt := 14) X dX12_leave_7 (by decide) (fun q => ?_) (fun q => ?_)
  · have h := zp q h
    refine z_iconst (v := 1) X dX12_leave_10 (by decide) ?_
    refine z_goto (tgt := 29) X dX12_leave_11 (by decide) ?_
    refine zz.pick (lo' := [(0, .ref (ad 40)), (1, .int (a1))]) [0, 1] rfl ?_
    exact br_leave_29 X hml hr h
  · have h := zn q h
    refine z_aload_n X dX12_leave_14 rfl rfl ?_
    refine r_getA X 9 rfl rfl g_1315 dX12_leave_15 ?_
    refine z_iload_n X dX12_leave_18 rfl rfl ?_
    obtain ⟨q2, h⟩ := zg h
    refine r_ald X 9 rfl rfl q2 dX12_leave_19 ?_
    refine z_iconst (v := (-1)) X dX12_leave_20 (by decide) ?_
    refine z_icmp_ne (tgt := 28) X dX12_leave_21 (by decide) (fun q => ?_) (fun q => ?_)
    · have h := zp q h
      refine z_iconst (v := 2) X dX12_leave_24 (by decide) ?_
      refine z_goto (tgt := 29) X dX12_leave_25 (by decide) ?_
      refine zz.pick (lo' := [(0, .ref (ad 40)), (1, .int (a1))]) [0, 1] rfl ?_
      exact br_leave_29 X hml hr h
    · have h := zn q h
      refine z_iconst (v := 0) X dX12_leave_28 (by decide) ?_
      refine zz.pick (lo' := [(0, .ref (ad 40)), (1, .int (a1))]) [0, 1] rfl ?_
      exact br_leave_29 X hml hr h
theorem cr_leave (l : Launch) {D : va_G} {dA : Nat → ClassId} {A : Nat → Prop} {n : Nat} {ad : Nat → Nat} (hst : l.stackTraces = false) (hA : ∀ q, n ≤ q → A q) {ρ : Rho} {a1 : Int32} {o : Rho × Int32} (h : fr_leave ρ a1 = some o) : Met l yX12_leave (.code yX12_leave cX12_leave 4 (some .int) :: gT) ({ frames := 100, cells := 0, slots := 0, locals := 1000 } : Room) (va_Pc [.ref (ad 40), .int a1] (zB D dA A n (rw D dA A ρ ad))) (va_Qi (fun r (_ : Unit) => r = o.2 ∧ True) (fun _ t => rw D dA A o.1 ad t.heap) A) 0 0 A :=
  z_met (by decide) hA hst (Nat.le_of_ble_eq_true rfl) rfl rfl (fun p e s m below meth c X hml hr _ => br_leave X hml hr h)
-- areNeighbours(II)Z
def fr_areNeighbours (ρ : Rho) (a1 : Int32) (a2 : Int32) : Option (Int32) := (if ((a1 + 1) - (a1 + 1) / 8 * 8) = a2 then some (1)
  else (if ((a2 + 1) - (a2 + 1) / 8 * 8) = a1 then some (1)
  else some (0)))
set_option maxRecDepth 100000 in
set_option maxHeartbeats 4000000 in
theorem br_areNeighbours {p : Program} {l : Launch} {e : Env} {s : State} {m : MethodId} {args : Array Value} {below : List Frame} {meth : Method} {c : Code} {D : va_G} {dA : Nat → ClassId} {A : Nat → Prop} {ad : Nat → Nat} {o : Int32} (X : zc p l s m args meth c cX12_areNeighbours RX12 D dA A) (hml : c.maxLocals = 2) (hr : meth.sig.returnType = (some .boolean)) {ρ : Rho} {a1 : Int32} {a2 : Int32} (h : fr_areNeighbours ρ a1 a2 = some o) : zz p l e ({ frames := 20, cells := 0, slots := 0, locals := 200 } : Room) s m args below meth c A (rw D dA A ρ ad) 0 0 (MQ below (va_Qi (fun r (_ : Unit) => r = o ∧ True) (fun _ t => rw D dA A ρ ad t.heap) A) args s 0 0 A) 0 [(0, .int (a1)), (1, .int (a2))] [] [] := by
  unfold fr_areNeighbours at h
  refine z_iload_n X dX12_areNeighbours_0 rfl rfl ?_
  refine z_iconst (v := 1) X dX12_areNeighbours_1 (by decide) ?_
  refine z_iadd X dX12_areNeighbours_2 ?_
  refine z_bipush (v := 8) X dX12_areNeighbours_3 (by decide) ?_
  refine z_irem X dX12_areNeighbours_5 (by decide) ?_
  refine z_iload_n X dX12_areNeighbours_6 rfl rfl ?_
  refine z_icmp_eq (tgt := 20) X dX12_areNeighbours_7 (by decide) (fun q => ?_) (fun q => ?_)
  · have h := zp q h
    refine z_iconst (v := 1) X dX12_areNeighbours_20 (by decide) ?_
    refine z_goto (tgt := 25) X dX12_areNeighbours_21 (by decide) ?_
    obtain rfl := Option.some.inj h
    exact z_iret X hr rfl (fun t hG hF _ => ⟨⟨_, (), rfl, ⟨rfl, trivial⟩, hG⟩, hF⟩) dX12_areNeighbours_25
  · have h := zn q h
    refine z_iload_n X dX12_areNeighbours_10 rfl rfl ?_
    refine z_iconst (v := 1) X dX12_areNeighbours_11 (by decide) ?_
    refine z_iadd X dX12_areNeighbours_12 ?_
    refine z_bipush (v := 8) X dX12_areNeighbours_13 (by decide) ?_
    refine z_irem X dX12_areNeighbours_15 (by decide) ?_
    refine z_iload_n X dX12_areNeighbours_16 rfl rfl ?_
    refine z_icmp_ne (tgt := 24) X dX12_areNeighbours_17 (by decide) (fun q => ?_) (fun q => ?_)
    · have h := zp q h
      refine z_iconst (v := 1) X dX12_areNeighbours_20 (by decide) ?_
      refine z_goto (tgt := 25) X dX12_areNeighbours_21 (by decide) ?_
      obtain rfl := Option.some.inj h
      exact z_iret X hr rfl (fun t hG hF _ => ⟨⟨_, (), rfl, ⟨rfl, trivial⟩, hG⟩, hF⟩) dX12_areNeighbours_25
    · have h := zn q h
      refine z_iconst (v := 0) X dX12_areNeighbours_24 (by decide) ?_
      obtain rfl := Option.some.inj h
      exact z_iret X hr rfl (fun t hG hF _ => ⟨⟨_, (), rfl, ⟨rfl, trivial⟩, hG⟩, hF⟩) dX12_areNeighbours_25
theorem cr_areNeighbours (l : Launch) {D : va_G} {dA : Nat → ClassId} {A : Nat → Prop} {n : Nat} {ad : Nat → Nat} (hst : l.stackTraces = false) (hA : ∀ q, n ≤ q → A q) {ρ : Rho} {a1 : Int32} {a2 : Int32} {o : Int32} (h : fr_areNeighbours ρ a1 a2 = some o) : Met l yX12_areNeighbours (.code yX12_areNeighbours cX12_areNeighbours 2 (some .boolean) :: gT) ({ frames := 20, cells := 0, slots := 0, locals := 200 } : Room) (va_Pc [.int a1, .int a2] (zB D dA A n (rw D dA A ρ ad))) (va_Qi (fun r (_ : Unit) => r = o ∧ True) (fun _ t => rw D dA A ρ ad t.heap) A) 0 0 A :=
  z_met (by decide) hA hst (Nat.le_of_ble_eq_true rfl) rfl rfl (fun p e s m below meth c X hml hr _ => br_areNeighbours X hml hr h)
-- move(II)Z
def fr_move_87 (ρ : Rho) (v1 : Int32) (v2 : Int32) (v3 : Int32) (v4 : Int32) (s0 : Int32) : Option (Rho × Int32) := if v1 < 0 ∨ 10 ≤ (v1).toNatClampNeg then none else (some (cs ρ 6 (v1).toNatClampNeg (v2))).bind fun ρ1 => (if v4 = (-1) then some (ρ1, 0)
  else (if s0 = 0 then (fr_closes ρ1 (v4) (3) (v3)).bind fun o3 => if s0 = 0 ∨ s0 = 1 then some (o3, s0) else none
  else (fr_notes ρ1 (v4) (1) ((ρ1 0 0)) (v2)).bind fun o4 => if s0 = 0 ∨ s0 = 1 then some (o4, s0) else none))
set_option maxRecDepth 100000 in
set_option maxHeartbeats 4000000 in
theorem br_move_87 {p : Program} {l : Launch} {e : Env} {s : State} {m : MethodId} {args : Array Value} {below : List Frame} {meth : Method} {c : Code} {D : va_G} {dA : Nat → ClassId} {A : Nat → Prop} {ad : Nat → Nat} {o : Rho × Int32} (X : zc p l s m args meth c cX12_move RX12 D dA A) (hml : c.maxLocals = 6) (hr : meth.sig.returnType = (some .boolean)) {ρ : Rho} {v1 : Int32} {v2 : Int32} {v3 : Int32} {v4 : Int32} {s0 : Int32} (h : fr_move_87 ρ v1 v2 v3 v4 s0 = some o) : zz p l e ({ frames := 100, cells := 0, slots := 0, locals := 1000 } : Room) s m args below meth c A (rw D dA A ρ ad) 0 0 (MQ below (va_Qi (fun r (_ : Unit) => r = o.2 ∧ True) (fun _ t => rw D dA A o.1 ad t.heap) A) args s 0 0 A) 87 [(0, .ref (ad 40)), (1, .int (v1)), (2, .int (v2)), (3, .int (v3)), (4, .int (v4))] [] [.int (s0)] := by
  unfold fr_move_87 at h
  refine z_istore (lo' := [(5, .int (s0)), (0, .ref (ad 40)), (1, .int (v1)), (2, .int (v2)), (3, .int (v3)), (4, .int (v4))]) X dX12_move_87 (by rw [hml]; decide) rfl rfl ?_
  refine z_aload_n X dX12_move_89 rfl rfl ?_
  refine r_getA X 6 rfl rfl g_1312 dX12_move_90 ?_
  refine z_iload_n X dX12_move_93 rfl rfl ?_
  refine z_iload_n X dX12_move_94 rfl rfl ?_
  obtain ⟨q2, h⟩ := zg h
  obtain ⟨ρ1, eρ1, h⟩ := zb h
  refine r_ast X 6 rfl rfl q2 eρ1 dX12_move_95 ?_
  refine z_iload X dX12_move_96 rfl ?_
  refine z_iconst (v := (-1)) X dX12_move_98 (by decide) ?_
  refine z_icmp_ne (tgt := 104) X dX12_move_99 (by decide) (fun q => ?_) (fun q => ?_)
  · have h := zp q h
    refine z_iconst (v := 0) X dX12_move_102 (by decide) ?_
    obtain rfl := Option.some.inj h
    exact z_iret X hr rfl (fun t hG hF _ => ⟨⟨_, (), rfl, ⟨rfl, trivial⟩, hG⟩, hF⟩) dX12_move_103
  · have h := zn q h
    refine z_iload X dX12_move_104 rfl ?_
    refine z_if_eq (tgt := 124) X dX12_move_106 (by decide) (fun q => ?_) (fun q => ?_)
    · have h := zp q h
      refine z_aload_n X dX12_move_124 rfl rfl ?_
      refine z_iload X dX12_move_125 rfl ?_
      refine z_iconst (v := 3) X dX12_move_127 (by decide) ?_
      refine z_iload_n X dX12_move_128 rfl rfl ?_
      obtain ⟨o3, co3, h⟩ := zb2 h
      refine z_callVv (As := [.int (v4), .int (3), .int (v3)]) (rest := []) (nA := 3) (pu := fun (_ : Unit) => True) (G1 := fun _ => rw D dA A o3 ad) X (cr_closes l X.2.2.2.2.2.2.2.2 X.2.2.2.2.2.2.1 co3) g_1575 g_1577 gs_42 g_15 g_1578 hd_yX12_closes ⟨rfl, rfl, Nat.le_of_ble_eq_true rfl, Nat.le_of_ble_eq_true rfl⟩ rfl (fun _ hG => rw_recv X hG) rfl (Nat.le_of_ble_eq_true rfl) dX12_move_129 ⟨Nat.le_refl _, Nat.le_refl _⟩ (fun _ _ => ?_)
      refine z_iload X dX12_move_132 rfl ?_
      obtain ⟨q, h⟩ := zgp h
      obtain rfl := Option.some.inj h
      exact z_iret X hr (z_nb q) (fun t hG hF _ => ⟨⟨_, (), rfl, ⟨rfl, trivial⟩, hG⟩, hF⟩) dX12_move_134
    · have h := zn q h
      refine z_aload_n X dX12_move_109 rfl rfl ?_
      refine z_iload X dX12_move_110 rfl ?_
      refine z_iconst (v := 1) X dX12_move_112 (by decide) ?_
      refine z_aload_n X dX12_move_113 rfl rfl ?_
      refine r_getS X 0 rfl rfl g_1306 dX12_move_114 ?_
      refine z_iload_n X dX12_move_117 rfl rfl ?_
      obtain ⟨o4, co4, h⟩ := zb2 h
      refine z_callVv (As := [.int (v4), .int (1), .int ((ρ1 0 0)), .int (v2)]) (rest := []) (nA := 4) (pu := fun (_ : Unit) => True) (G1 := fun _ => rw D dA A o4 ad) X (cr_notes l X.2.2.2.2.2.2.2.2 X.2.2.2.2.2.2.1 co4) g_1532 g_1534 gs_32 g_15 g_1535 hd_yX12_notes ⟨rfl, rfl, Nat.le_of_ble_eq_true rfl, Nat.le_of_ble_eq_true rfl⟩ rfl (fun _ hG => rw_recv X hG) rfl (Nat.le_of_ble_eq_true rfl) dX12_move_118 ⟨Nat.le_refl _, Nat.le_refl _⟩ (fun _ _ => ?_)
      refine z_goto (tgt := 132) X dX12_move_121 (by decide) ?_
      refine z_iload X dX12_move_132 rfl ?_
      obtain ⟨q, h⟩ := zgp h
      obtain rfl := Option.some.inj h
      exact z_iret X hr (z_nb q) (fun t hG hF _ => ⟨⟨_, (), rfl, ⟨rfl, trivial⟩, hG⟩, hF⟩) dX12_move_134
def fr_move_86 (ρ : Rho) (v1 : Int32) (v2 : Int32) (v3 : Int32) (v4 : Int32) : Option (Rho × Int32) := fr_move_87 ρ v1 v2 v3 v4 0
set_option maxRecDepth 100000 in
set_option maxHeartbeats 4000000 in
theorem br_move_86 {p : Program} {l : Launch} {e : Env} {s : State} {m : MethodId} {args : Array Value} {below : List Frame} {meth : Method} {c : Code} {D : va_G} {dA : Nat → ClassId} {A : Nat → Prop} {ad : Nat → Nat} {o : Rho × Int32} (X : zc p l s m args meth c cX12_move RX12 D dA A) (hml : c.maxLocals = 6) (hr : meth.sig.returnType = (some .boolean)) {ρ : Rho} {v1 : Int32} {v2 : Int32} {v3 : Int32} {v4 : Int32} (h : fr_move_86 ρ v1 v2 v3 v4 = some o) : zz p l e ({ frames := 100, cells := 0, slots := 0, locals := 1000 } : Room) s m args below meth c A (rw D dA A ρ ad) 0 0 (MQ below (va_Qi (fun r (_ : Unit) => r = o.2 ∧ True) (fun _ t => rw D dA A o.1 ad t.heap) A) args s 0 0 A) 86 [(0, .ref (ad 40)), (1, .int (v1)), (2, .int (v2)), (3, .int (v3)), (4, .int (v4))] [] [] := by
  unfold fr_move_86 at h
  refine z_iconst (v := 0) X dX12_move_86 (by decide) ?_
  refine zz.pick (lo' := [(0, .ref (ad 40)), (1, .int (v1)), (2, .int (v2)), (3, .int (v3)), (4, .int (v4))]) [0, 1, 2, 3, 4] rfl ?_
  exact br_move_87 X hml hr h
def fr_move_20 (ρ : Rho) (v1 : Int32) (v2 : Int32) (s1 : Int32) : Option (Rho × Int32) := (fr_can ρ (s1)).bind fun o1 => (if o1.2 = 0 then some (o1.1, 0)
  else if v1 < 0 ∨ 10 ≤ (v1).toNatClampNeg then none else (some ((o1.1 6 (v1).toNatClampNeg))).bind fun x3 => if v1 < 0 ∨ 10 ≤ (v1).toNatClampNeg then none else (some ((o1.1 9 (v1).toNatClampNeg))).bind fun x5 => (if x3 = v2 then (if x5 = (-1) then some (o1.1, 0)
  else some (o1.1, 1))
  else (fr_areNeighbours o1.1 (x3) (v2)).bind fun o6 => (if o6 = 0 then fr_move_86 o1.1 v1 v2 x3 x5
  else (fr_legsIn o1.1 (v2)).bind fun o7 => if v2 < 0 ∨ 8 ≤ (v2).toNatClampNeg then none else (if (o1.1 3 (v2).toNatClampNeg) ≤ o7 then fr_move_86 o1.1 v1 v2 x3 x5
  else fr_move_87 o1.1 v1 v2 x3 x5 1))))
set_option maxRecDepth 100000 in
set_option maxHeartbeats 4000000 in
theorem br_move_20 {p : Program} {l : Launch} {e : Env} {s : State} {m : MethodId} {args : Array Value} {below : List Frame} {meth : Method} {c : Code} {D : va_G} {dA : Nat → ClassId} {A : Nat → Prop} {ad : Nat → Nat} {o : Rho × Int32} (X : zc p l s m args meth c cX12_move RX12 D dA A) (hml : c.maxLocals = 6) (hr : meth.sig.returnType = (some .boolean)) {ρ : Rho} {v1 : Int32} {v2 : Int32} {s1 : Int32} (h : fr_move_20 ρ v1 v2 s1 = some o) : zz p l e ({ frames := 100, cells := 0, slots := 0, locals := 1000 } : Room) s m args below meth c A (rw D dA A ρ ad) 0 0 (MQ below (va_Qi (fun r (_ : Unit) => r = o.2 ∧ True) (fun _ t => rw D dA A o.1 ad t.heap) A) args s 0 0 A) 20 [(0, .ref (ad 40)), (1, .int (v1)), (2, .int (v2))] [] [.int (s1), .ref (ad 40)] := by
  unfold fr_move_20 at h
  obtain ⟨o1, co1, h⟩ := zb2 h
  refine z_callVi (As := [.int (s1)]) (rest := []) (nA := 1) (r0 := o1.2) (pu := fun (_ : Unit) => True) (G1 := fun _ => rw D dA A o1.1 ad) X (cr_can l X.2.2.2.2.2.2.2.2 X.2.2.2.2.2.2.1 co1) g_1445 g_1447 gs_25 g_15 g_1448 hd_yX12_can ⟨rfl, rfl, Nat.le_of_ble_eq_true rfl, Nat.le_of_ble_eq_true rfl⟩ rfl (fun _ hG => rw_recv X hG) rfl (Nat.le_of_ble_eq_true rfl) dX12_move_20 ⟨Nat.le_refl _, Nat.le_refl _⟩ (fun _ _ => ?_)
  refine z_if_ne (tgt := 28) X dX12_move_23 (by decide) (fun q => ?_) (fun q => ?_)
  · have h := zp q h
    refine z_iconst (v := 0) X dX12_move_26 (by decide) ?_
    obtain rfl := Option.some.inj h
    exact z_iret X hr rfl (fun t hG hF _ => ⟨⟨_, (), rfl, ⟨rfl, trivial⟩, hG⟩, hF⟩) dX12_move_27
  · have h := zn q h
    refine z_aload_n X dX12_move_28 rfl rfl ?_
    refine r_getA X 6 rfl rfl g_1312 dX12_move_29 ?_
    refine z_iload_n X dX12_move_32 rfl rfl ?_
    obtain ⟨q2, h⟩ := zg h
    refine r_ald X 6 rfl rfl q2 dX12_move_33 ?_
    obtain ⟨x3, ex3, h⟩ := zb h
    rw [ex3]
    refine z_istore_n (lo' := [(3, .int (x3)), (0, .ref (ad 40)), (1, .int (v1)), (2, .int (v2))]) X dX12_move_34 rfl (by rw [hml]; decide) rfl rfl ?_
    refine z_aload_n X dX12_move_35 rfl rfl ?_
    refine r_getA X 9 rfl rfl g_1315 dX12_move_36 ?_
    refine z_iload_n X dX12_move_39 rfl rfl ?_
    obtain ⟨q4, h⟩ := zg h
    refine r_ald X 9 rfl rfl q4 dX12_move_40 ?_
    obtain ⟨x5, ex5, h⟩ := zb h
    rw [ex5]
    refine z_istore (lo' := [(4, .int (x5)), (3, .int (x3)), (0, .ref (ad 40)), (1, .int (v1)), (2, .int (v2))]) X dX12_move_41 (by rw [hml]; decide) rfl rfl ?_
    refine z_iload_n X dX12_move_43 rfl rfl ?_
    refine z_iload_n X dX12_move_44 rfl rfl ?_
    refine z_icmp_ne (tgt := 60) X dX12_move_45 (by decide) (fun q => ?_) (fun q => ?_)
    · have h := zp q h
      refine z_iload X dX12_move_48 rfl ?_
      refine z_iconst (v := (-1)) X dX12_move_50 (by decide) ?_
      refine z_icmp_eq (tgt := 58) X dX12_move_51 (by decide) (fun q => ?_) (fun q => ?_)
      · have h := zp q h
        refine z_iconst (v := 0) X dX12_move_58 (by decide) ?_
        obtain rfl := Option.some.inj h
        exact z_iret X hr rfl (fun t hG hF _ => ⟨⟨_, (), rfl, ⟨rfl, trivial⟩, hG⟩, hF⟩) dX12_move_59
      · have h := zn q h
        refine z_iconst (v := 1) X dX12_move_54 (by decide) ?_
        refine z_goto (tgt := 59) X dX12_move_55 (by decide) ?_
        obtain rfl := Option.some.inj h
        exact z_iret X hr rfl (fun t hG hF _ => ⟨⟨_, (), rfl, ⟨rfl, trivial⟩, hG⟩, hF⟩) dX12_move_59
    · have h := zn q h
      refine z_iload_n X dX12_move_60 rfl rfl ?_
      refine z_iload_n X dX12_move_61 rfl rfl ?_
      obtain ⟨o6, co6, h⟩ := zb2 h
      refine z_callSi (As := [.int (x3), .int (v2)]) (rest := []) (nA := 2) (r0 := o6) (pu := fun (_ : Unit) => True) (G1 := fun _ => rw D dA A o1.1 ad) X (cr_areNeighbours l X.2.2.2.2.2.2.2.2 X.2.2.2.2.2.2.1 co6) g_1607 g_1608 g_15 g_1609 hd_yX12_areNeighbours ⟨rfl, rfl, Nat.le_of_ble_eq_true rfl, Nat.le_of_ble_eq_true rfl⟩ rfl rfl (Nat.le_of_ble_eq_true rfl) dX12_move_62 ⟨Nat.le_refl _, Nat.le_refl _⟩ (fun _ _ => ?_)
      refine z_if_eq (tgt := 86) X dX12_move_65 (by decide) (fun q => ?_) (fun q => ?_)
      · have h := zp q h
        refine zz.pick (lo' := [(0, .ref (ad 40)), (1, .int (v1)), (2, .int (v2)), (3, .int (x3)), (4, .int (x5))]) [0, 1, 2, 3, 4] rfl ?_
        exact br_move_86 X hml hr h
      · have h := zn q h
        refine z_aload_n X dX12_move_68 rfl rfl ?_
        refine z_iload_n X dX12_move_69 rfl rfl ?_
        obtain ⟨o7, co7, h⟩ := zb2 h
        refine z_callVi (As := [.int (v2)]) (rest := []) (nA := 1) (r0 := o7) (pu := fun (_ : Unit) => True) (G1 := fun _ => rw D dA A o1.1 ad) X (cr_legsIn l X.2.2.2.2.2.2.2.2 X.2.2.2.2.2.2.1 co7) g_1453 g_1455 gs_26 g_15 g_1456 hd_yX12_legsIn ⟨rfl, rfl, Nat.le_of_ble_eq_true rfl, Nat.le_of_ble_eq_true rfl⟩ rfl (fun _ hG => rw_recv X hG) rfl (Nat.le_of_ble_eq_true rfl) dX12_move_70 ⟨Nat.le_refl _, Nat.le_refl _⟩ (fun _ _ => ?_)
        refine z_aload_n X dX12_move_73 rfl rfl ?_
        refine r_getA X 3 rfl rfl g_1309 dX12_move_74 ?_
        refine z_iload_n X dX12_move_77 rfl rfl ?_
        obtain ⟨q8, h⟩ := zg h
        refine r_ald X 3 rfl rfl q8 dX12_move_78 ?_
        refine z_icmp_ge (tgt := 86) X dX12_move_79 (by decide) (fun q => ?_) (fun q => ?_)
        · have h := zp q h
          refine zz.pick (lo' := [(0, .ref (ad 40)), (1, .int (v1)), (2, .int (v2)), (3, .int (x3)), (4, .int (x5))]) [0, 1, 2, 3, 4] rfl ?_
          exact br_move_86 X hml hr h
        · have h := zn q h
          refine z_iconst (v := 1) X dX12_move_82 (by decide) ?_
          refine z_goto (tgt := 87) X dX12_move_83 (by decide) ?_
          refine zz.pick (lo' := [(0, .ref (ad 40)), (1, .int (v1)), (2, .int (v2)), (3, .int (x3)), (4, .int (x5))]) [0, 1, 2, 3, 4] rfl ?_
          exact br_move_87 X hml hr h
def fr_move_19 (ρ : Rho) (v1 : Int32) (v2 : Int32) : Option (Rho × Int32) := fr_move_20 ρ v1 v2 1
set_option maxRecDepth 100000 in
set_option maxHeartbeats 4000000 in
theorem br_move_19 {p : Program} {l : Launch} {e : Env} {s : State} {m : MethodId} {args : Array Value} {below : List Frame} {meth : Method} {c : Code} {D : va_G} {dA : Nat → ClassId} {A : Nat → Prop} {ad : Nat → Nat} {o : Rho × Int32} (X : zc p l s m args meth c cX12_move RX12 D dA A) (hml : c.maxLocals = 6) (hr : meth.sig.returnType = (some .boolean)) {ρ : Rho} {v1 : Int32} {v2 : Int32} (h : fr_move_19 ρ v1 v2 = some o) : zz p l e ({ frames := 100, cells := 0, slots := 0, locals := 1000 } : Room) s m args below meth c A (rw D dA A ρ ad) 0 0 (MQ below (va_Qi (fun r (_ : Unit) => r = o.2 ∧ True) (fun _ t => rw D dA A o.1 ad t.heap) A) args s 0 0 A) 19 [(0, .ref (ad 40)), (1, .int (v1)), (2, .int (v2))] [] [.ref (ad 40)] := by
  unfold fr_move_19 at h
  refine z_iconst (v := 1) X dX12_move_19 (by decide) ?_
  refine zz.pick (lo' := [(0, .ref (ad 40)), (1, .int (v1)), (2, .int (v2))]) [0, 1, 2] rfl ?_
  exact br_move_20 X hml hr h
def fr_move (ρ : Rho) (a1 : Int32) (a2 : Int32) : Option (Rho × Int32) := (fr_isPhone ρ (a1)).bind fun o1 => (if o1 = 0 then fr_move_19 ρ a1 a2
  else (fr_isCell ρ (a2)).bind fun o2 => (if o2 = 0 then fr_move_19 ρ a1 a2
  else fr_move_20 ρ a1 a2 0))
set_option maxRecDepth 100000 in
set_option maxHeartbeats 4000000 in
theorem br_move {p : Program} {l : Launch} {e : Env} {s : State} {m : MethodId} {args : Array Value} {below : List Frame} {meth : Method} {c : Code} {D : va_G} {dA : Nat → ClassId} {A : Nat → Prop} {ad : Nat → Nat} {o : Rho × Int32} (X : zc p l s m args meth c cX12_move RX12 D dA A) (hml : c.maxLocals = 6) (hr : meth.sig.returnType = (some .boolean)) {ρ : Rho} {a1 : Int32} {a2 : Int32} (h : fr_move ρ a1 a2 = some o) : zz p l e ({ frames := 100, cells := 0, slots := 0, locals := 1000 } : Room) s m args below meth c A (rw D dA A ρ ad) 0 0 (MQ below (va_Qi (fun r (_ : Unit) => r = o.2 ∧ True) (fun _ t => rw D dA A o.1 ad t.heap) A) args s 0 0 A) 0 [(0, .ref (ad 40)), (1, .int (a1)), (2, .int (a2))] [] [] := by
  unfold fr_move at h
  refine z_aload_n X dX12_move_0 rfl rfl ?_
  refine z_iload_n X dX12_move_1 rfl rfl ?_
  obtain ⟨o1, co1, h⟩ := zb2 h
  refine z_callSi (As := [.int (a1)]) (rest := [.ref (ad 40)]) (nA := 1) (r0 := o1) (pu := fun (_ : Unit) => True) (G1 := fun _ => rw D dA A ρ ad) X (cr_isPhone l X.2.2.2.2.2.2.2.2 X.2.2.2.2.2.2.1 co1) g_1469 g_1470 g_15 g_1471 hd_yX12_isPhone ⟨rfl, rfl, Nat.le_of_ble_eq_true rfl, Nat.le_of_ble_eq_true rfl⟩ rfl rfl (Nat.le_of_ble_eq_true rfl) dX12_move_2 ⟨Nat.le_refl _, Nat.le_refl _⟩ (fun _ _ => ?_)
  refine z_if_eq (tgt := 19) X dX12_move_5 (by decide) (fun q => ?_) (fun q => ?_)
  · have h := zp q h
    refine zz.pick (lo' := [(0, .ref (ad 40)), (1, .int (a1)), (2, .int (a2))]) [0, 1, 2] rfl ?_
    exact br_move_19 X hml hr h
  · have h := zn q h
    refine z_iload_n X dX12_move_8 rfl rfl ?_
    obtain ⟨o2, co2, h⟩ := zb2 h
    refine z_callSi (As := [.int (a2)]) (rest := [.ref (ad 40)]) (nA := 1) (r0 := o2) (pu := fun (_ : Unit) => True) (G1 := fun _ => rw D dA A ρ ad) X (cr_isCell l X.2.2.2.2.2.2.2.2 X.2.2.2.2.2.2.1 co2) g_1436 g_1437 g_15 g_1438 hd_yX12_isCell ⟨rfl, rfl, Nat.le_of_ble_eq_true rfl, Nat.le_of_ble_eq_true rfl⟩ rfl rfl (Nat.le_of_ble_eq_true rfl) dX12_move_9 ⟨Nat.le_refl _, Nat.le_refl _⟩ (fun _ _ => ?_)
    refine z_if_eq (tgt := 19) X dX12_move_12 (by decide) (fun q => ?_) (fun q => ?_)
    · have h := zp q h
      refine zz.pick (lo' := [(0, .ref (ad 40)), (1, .int (a1)), (2, .int (a2))]) [0, 1, 2] rfl ?_
      exact br_move_19 X hml hr h
    · have h := zn q h
      refine z_iconst (v := 0) X dX12_move_15 (by decide) ?_
      refine z_goto (tgt := 20) X dX12_move_16 (by decide) ?_
      refine zz.pick (lo' := [(0, .ref (ad 40)), (1, .int (a1)), (2, .int (a2))]) [0, 1, 2] rfl ?_
      exact br_move_20 X hml hr h
theorem cr_move (l : Launch) {D : va_G} {dA : Nat → ClassId} {A : Nat → Prop} {n : Nat} {ad : Nat → Nat} (hst : l.stackTraces = false) (hA : ∀ q, n ≤ q → A q) {ρ : Rho} {a1 : Int32} {a2 : Int32} {o : Rho × Int32} (h : fr_move ρ a1 a2 = some o) : Met l yX12_move (.code yX12_move cX12_move 6 (some .boolean) :: gT) ({ frames := 100, cells := 0, slots := 0, locals := 1000 } : Room) (va_Pc [.ref (ad 40), .int a1, .int a2] (zB D dA A n (rw D dA A ρ ad))) (va_Qi (fun r (_ : Unit) => r = o.2 ∧ True) (fun _ t => rw D dA A o.1 ad t.heap) A) 0 0 A :=
  z_met (by decide) hA hst (Nat.le_of_ble_eq_true rfl) rfl rfl (fun p e s m below meth c X hml hr _ => br_move X hml hr h)
-- rates(I)V
def fr_rates (ρ : Rho) (a1 : Int32) : Option (Rho) := if a1 < 0 ∨ 80 ≤ (a1).toNatClampNeg then none else (some ((ρ 23 (a1).toNatClampNeg))).bind fun x2 => (fr_rateNow ρ (x2)).bind fun o3 => if a1 < 0 ∨ 80 ≤ (a1).toNatClampNeg then none else if a1 < 0 ∨ 80 ≤ (a1).toNatClampNeg then none else (some (cs ρ 34 (a1).toNatClampNeg (((ρ 34 (a1).toNatClampNeg) - 1)))).bind fun ρ5 => if a1 < 0 ∨ 80 ≤ (a1).toNatClampNeg then none else if a1 < 0 ∨ 80 ≤ (a1).toNatClampNeg then none else (some (cs ρ5 27 (a1).toNatClampNeg (((ρ5 27 (a1).toNatClampNeg) + 1)))).bind fun ρ8 => if a1 < 0 ∨ 80 ≤ (a1).toNatClampNeg then none else (some (cs ρ8 32 (a1).toNatClampNeg (((ρ8 0 0) + 1)))).bind fun ρ10 => if a1 < 0 ∨ 80 ≤ (a1).toNatClampNeg then none else if a1 < 0 ∨ 80 ≤ (a1).toNatClampNeg then none else (some (cs ρ10 30 (a1).toNatClampNeg ((((3 * (ρ10 30 (a1).toNatClampNeg)) + o3)).toInt8.toInt32))).bind fun ρ13 => if a1 < 0 ∨ 80 ≤ (a1).toNatClampNeg then none else (if (ρ13 33 (a1).toNatClampNeg) = (-1) then if a1 < 0 ∨ 80 ≤ (a1).toNatClampNeg then none else if a1 < 0 ∨ 80 ≤ (a1).toNatClampNeg then none else (some (cs ρ13 28 (a1).toNatClampNeg (((ρ13 28 (a1).toNatClampNeg) + o3)))).bind fun ρ17 => if a1 < 0 ∨ 80 ≤ (a1).toNatClampNeg then none else if (ρ17 25 (a1).toNatClampNeg) < 0 ∨ 4 ≤ ((ρ17 25 (a1).toNatClampNeg)).toNatClampNeg then none else if (ρ17 25 (a1).toNatClampNeg) < 0 ∨ 4 ≤ ((ρ17 25 (a1).toNatClampNeg)).toNatClampNeg then none else (some (cs ρ17 13 ((ρ17 25 (a1).toNatClampNeg)).toNatClampNeg (((ρ17 13 ((ρ17 25 (a1).toNatClampNeg)).toNatClampNeg) + o3)))).bind fun ρ21 => (fr_costToday ρ21 (x2)).bind fun o23 => if x2 < 0 ∨ 10 ≤ (x2).toNatClampNeg then none else (some (cs ρ21 10 (x2).toNatClampNeg ((o23 + o3)))).bind fun ρ24 => (fr_today ρ24).bind fun o26 => if x2 < 0 ∨ 10 ≤ (x2).toNatClampNeg then none else (some (cs ρ24 11 (x2).toNatClampNeg (o26))).bind fun ρ27 => some ρ27
  else if a1 < 0 ∨ 80 ≤ (a1).toNatClampNeg then none else if a1 < 0 ∨ 80 ≤ (a1).toNatClampNeg then none else (some (cs ρ13 29 (a1).toNatClampNeg (((ρ13 29 (a1).toNatClampNeg) + o3)))).bind fun ρ30 => some ρ30)
set_option maxRecDepth 100000 in
set_option maxHeartbeats 4000000 in
theorem br_rates {p : Program} {l : Launch} {e : Env} {s : State} {m : MethodId} {args : Array Value} {below : List Frame} {meth : Method} {c : Code} {D : va_G} {dA : Nat → ClassId} {A : Nat → Prop} {ad : Nat → Nat} {o : Rho} (X : zc p l s m args meth c cX12_rates RX12 D dA A) (hml : c.maxLocals = 4) (hr : meth.sig.returnType = none) {ρ : Rho} {a1 : Int32} (h : fr_rates ρ a1 = some o) : zz p l e ({ frames := 60, cells := 0, slots := 0, locals := 600 } : Room) s m args below meth c A (rw D dA A ρ ad) 0 0 (MQ below (va_Qv (fun (_ : Unit) => True) (fun _ t => rw D dA A o ad t.heap) A) args s 0 0 A) 0 [(0, .ref (ad 40)), (1, .int (a1))] [] [] := by
  unfold fr_rates at h
  refine z_aload_n X dX12_rates_0 rfl rfl ?_
  refine r_getA X 23 rfl rfl g_1329 dX12_rates_1 ?_
  refine z_iload_n X dX12_rates_4 rfl rfl ?_
  obtain ⟨q1, h⟩ := zg h
  refine r_ald X 23 rfl rfl q1 dX12_rates_5 ?_
  obtain ⟨x2, ex2, h⟩ := zb h
  rw [ex2]
  refine z_istore_n (lo' := [(2, .int (x2)), (0, .ref (ad 40)), (1, .int (a1))]) X dX12_rates_6 rfl (by rw [hml]; decide) rfl rfl ?_
  refine z_aload_n X dX12_rates_7 rfl rfl ?_
  refine z_iload_n X dX12_rates_8 rfl rfl ?_
  obtain ⟨o3, co3, h⟩ := zb2 h
  refine z_callVi (As := [.int (x2)]) (rest := []) (nA := 1) (r0 := o3) (pu := fun (_ : Unit) => True) (G1 := fun _ => rw D dA A ρ ad) X (cr_rateNow l X.2.2.2.2.2.2.2.2 X.2.2.2.2.2.2.1 co3) g_1555 g_1557 gs_37 g_15 g_1558 hd_yX12_rateNow ⟨rfl, rfl, Nat.le_of_ble_eq_true rfl, Nat.le_of_ble_eq_true rfl⟩ rfl (fun _ hG => rw_recv X hG) rfl (Nat.le_of_ble_eq_true rfl) dX12_rates_9 ⟨Nat.le_refl _, Nat.le_refl _⟩ (fun _ _ => ?_)
  refine z_istore_n (lo' := [(3, .int (o3)), (2, .int (x2)), (0, .ref (ad 40)), (1, .int (a1))]) X dX12_rates_12 rfl (by rw [hml]; decide) rfl rfl ?_
  refine z_aload_n X dX12_rates_13 rfl rfl ?_
  refine r_getA X 34 rfl rfl g_1340 dX12_rates_14 ?_
  refine z_iload_n X dX12_rates_17 rfl rfl ?_
  refine z_dup2 X dX12_rates_18 rfl rfl ?_
  obtain ⟨q4, h⟩ := zg h
  refine r_ald X 34 rfl rfl q4 dX12_rates_19 ?_
  refine z_iconst (v := 1) X dX12_rates_20 (by decide) ?_
  refine z_isub X dX12_rates_21 ?_
  obtain ⟨q6, h⟩ := zg h
  obtain ⟨ρ5, eρ5, h⟩ := zb h
  refine r_ast X 34 rfl rfl q6 eρ5 dX12_rates_22 ?_
  refine z_aload_n X dX12_rates_23 rfl rfl ?_
  refine r_getA X 27 rfl rfl g_1333 dX12_rates_24 ?_
  refine z_iload_n X dX12_rates_27 rfl rfl ?_
  refine z_dup2 X dX12_rates_28 rfl rfl ?_
  obtain ⟨q7, h⟩ := zg h
  refine r_ald X 27 rfl rfl q7 dX12_rates_29 ?_
  refine z_iconst (v := 1) X dX12_rates_30 (by decide) ?_
  refine z_iadd X dX12_rates_31 ?_
  obtain ⟨q9, h⟩ := zg h
  obtain ⟨ρ8, eρ8, h⟩ := zb h
  refine r_ast X 27 rfl rfl q9 eρ8 dX12_rates_32 ?_
  refine z_aload_n X dX12_rates_33 rfl rfl ?_
  refine r_getA X 32 rfl rfl g_1338 dX12_rates_34 ?_
  refine z_iload_n X dX12_rates_37 rfl rfl ?_
  refine z_aload_n X dX12_rates_38 rfl rfl ?_
  refine r_getS X 0 rfl rfl g_1306 dX12_rates_39 ?_
  refine z_iconst (v := 1) X dX12_rates_42 (by decide) ?_
  refine z_iadd X dX12_rates_43 ?_
  obtain ⟨q11, h⟩ := zg h
  obtain ⟨ρ10, eρ10, h⟩ := zb h
  refine r_ast X 32 rfl rfl q11 eρ10 dX12_rates_44 ?_
  refine z_aload_n X dX12_rates_45 rfl rfl ?_
  refine r_getA X 30 rfl rfl g_1336 dX12_rates_46 ?_
  refine z_iload_n X dX12_rates_49 rfl rfl ?_
  refine z_iconst (v := 3) X dX12_rates_50 (by decide) ?_
  refine z_aload_n X dX12_rates_51 rfl rfl ?_
  refine r_getA X 30 rfl rfl g_1336 dX12_rates_52 ?_
  refine z_iload_n X dX12_rates_55 rfl rfl ?_
  obtain ⟨q12, h⟩ := zg h
  refine r_ald X 30 rfl rfl q12 dX12_rates_56 ?_
  refine z_imul X dX12_rates_57 ?_
  refine z_iload_n X dX12_rates_58 rfl rfl ?_
  refine z_iadd X dX12_rates_59 ?_
  refine z_i2b X dX12_rates_60 ?_
  obtain ⟨q14, h⟩ := zg h
  obtain ⟨ρ13, eρ13, h⟩ := zb h
  refine r_ast X 30 rfl rfl q14 eρ13 dX12_rates_61 ?_
  refine z_aload_n X dX12_rates_62 rfl rfl ?_
  refine r_getA X 33 rfl rfl g_1339 dX12_rates_63 ?_
  refine z_iload_n X dX12_rates_66 rfl rfl ?_
  obtain ⟨q15, h⟩ := zg h
  refine r_ald X 33 rfl rfl q15 dX12_rates_67 ?_
  refine z_iconst (v := (-1)) X dX12_rates_68 (by decide) ?_
  refine z_icmp_ne (tgt := 123) X dX12_rates_69 (by decide) (fun q => ?_) (fun q => ?_)
  · have h := zp q h
    refine z_aload_n X dX12_rates_72 rfl rfl ?_
    refine r_getA X 28 rfl rfl g_1334 dX12_rates_73 ?_
    refine z_iload_n X dX12_rates_76 rfl rfl ?_
    refine z_dup2 X dX12_rates_77 rfl rfl ?_
    obtain ⟨q16, h⟩ := zg h
    refine r_ald X 28 rfl rfl q16 dX12_rates_78 ?_
    refine z_iload_n X dX12_rates_79 rfl rfl ?_
    refine z_iadd X dX12_rates_80 ?_
    obtain ⟨q18, h⟩ := zg h
    obtain ⟨ρ17, eρ17, h⟩ := zb h
    refine r_ast X 28 rfl rfl q18 eρ17 dX12_rates_81 ?_
    refine z_aload_n X dX12_rates_82 rfl rfl ?_
    refine r_getA X 13 rfl rfl g_1319 dX12_rates_83 ?_
    refine z_aload_n X dX12_rates_86 rfl rfl ?_
    refine r_getA X 25 rfl rfl g_1331 dX12_rates_87 ?_
    refine z_iload_n X dX12_rates_90 rfl rfl ?_
    obtain ⟨q19, h⟩ := zg h
    refine r_ald X 25 rfl rfl q19 dX12_rates_91 ?_
    refine z_dup2 X dX12_rates_92 rfl rfl ?_
    obtain ⟨q20, h⟩ := zg h
    refine r_ald X 13 rfl rfl q20 dX12_rates_93 ?_
    refine z_iload_n X dX12_rates_94 rfl rfl ?_
    refine z_iadd X dX12_rates_95 ?_
    obtain ⟨q22, h⟩ := zg h
    obtain ⟨ρ21, eρ21, h⟩ := zb h
    refine r_ast X 13 rfl rfl q22 eρ21 dX12_rates_96 ?_
    refine z_aload_n X dX12_rates_97 rfl rfl ?_
    refine r_getA X 10 rfl rfl g_1316 dX12_rates_98 ?_
    refine z_iload_n X dX12_rates_101 rfl rfl ?_
    refine z_aload_n X dX12_rates_102 rfl rfl ?_
    refine z_iload_n X dX12_rates_103 rfl rfl ?_
    obtain ⟨o23, co23, h⟩ := zb2 h
    refine z_callVi (As := [.int (x2)]) (rest := [.int (x2), .ref (ad 10)]) (nA := 1) (r0 := o23) (pu := fun (_ : Unit) => True) (G1 := fun _ => rw D dA A ρ21 ad) X (cr_costToday l X.2.2.2.2.2.2.2.2 X.2.2.2.2.2.2.1 co23) g_1563 g_1565 gs_39 g_15 g_1566 hd_yX12_costToday ⟨rfl, rfl, Nat.le_of_ble_eq_true rfl, Nat.le_of_ble_eq_true rfl⟩ rfl (fun _ hG => rw_recv X hG) rfl (Nat.le_of_ble_eq_true rfl) dX12_rates_104 ⟨Nat.le_refl _, Nat.le_refl _⟩ (fun _ _ => ?_)
    refine z_iload_n X dX12_rates_107 rfl rfl ?_
    refine z_iadd X dX12_rates_108 ?_
    obtain ⟨q25, h⟩ := zg h
    obtain ⟨ρ24, eρ24, h⟩ := zb h
    refine r_ast X 10 rfl rfl q25 eρ24 dX12_rates_109 ?_
    refine z_aload_n X dX12_rates_110 rfl rfl ?_
    refine r_getA X 11 rfl rfl g_1317 dX12_rates_111 ?_
    refine z_iload_n X dX12_rates_114 rfl rfl ?_
    refine z_aload_n X dX12_rates_115 rfl rfl ?_
    obtain ⟨o26, co26, h⟩ := zb2 h
    refine z_callVi (As := []) (rest := [.int (x2), .ref (ad 11)]) (nA := 0) (r0 := o26) (pu := fun (_ : Unit) => True) (G1 := fun _ => rw D dA A ρ24 ad) X (cr_today l X.2.2.2.2.2.2.2.2 X.2.2.2.2.2.2.1 co26) g_1492 g_1494 gs_27 g_15 g_1495 hd_yX12_today ⟨rfl, rfl, Nat.le_of_ble_eq_true rfl, Nat.le_of_ble_eq_true rfl⟩ rfl (fun _ hG => rw_recv X hG) rfl (Nat.le_of_ble_eq_true rfl) dX12_rates_116 ⟨Nat.le_refl _, Nat.le_refl _⟩ (fun _ _ => ?_)
    obtain ⟨q28, h⟩ := zg h
    obtain ⟨ρ27, eρ27, h⟩ := zb h
    refine r_ast X 11 rfl rfl q28 eρ27 dX12_rates_119 ?_
    refine z_goto (tgt := 133) X dX12_rates_120 (by decide) ?_
    obtain rfl := Option.some.inj h
    exact z_vret X hr (fun t hG hF _ => ⟨⟨(), rfl, trivial, hG⟩, hF⟩) dX12_rates_133
  · have h := zn q h
    refine z_aload_n X dX12_rates_123 rfl rfl ?_
    refine r_getA X 29 rfl rfl g_1335 dX12_rates_124 ?_
    refine z_iload_n X dX12_rates_127 rfl rfl ?_
    refine z_dup2 X dX12_rates_128 rfl rfl ?_
    obtain ⟨q29, h⟩ := zg h
    refine r_ald X 29 rfl rfl q29 dX12_rates_129 ?_
    refine z_iload_n X dX12_rates_130 rfl rfl ?_
    refine z_iadd X dX12_rates_131 ?_
    obtain ⟨q31, h⟩ := zg h
    obtain ⟨ρ30, eρ30, h⟩ := zb h
    refine r_ast X 29 rfl rfl q31 eρ30 dX12_rates_132 ?_
    obtain rfl := Option.some.inj h
    exact z_vret X hr (fun t hG hF _ => ⟨⟨(), rfl, trivial, hG⟩, hF⟩) dX12_rates_133
theorem cr_rates (l : Launch) {D : va_G} {dA : Nat → ClassId} {A : Nat → Prop} {n : Nat} {ad : Nat → Nat} (hst : l.stackTraces = false) (hA : ∀ q, n ≤ q → A q) {ρ : Rho} {a1 : Int32} {o : Rho} (h : fr_rates ρ a1 = some o) : Met l yX12_rates (.code yX12_rates cX12_rates 4 none :: gT) ({ frames := 60, cells := 0, slots := 0, locals := 600 } : Room) (va_Pc [.ref (ad 40), .int a1] (zB D dA A n (rw D dA A ρ ad))) (va_Qv (fun (_ : Unit) => True) (fun _ t => rw D dA A o ad t.heap) A) 0 0 A :=
  z_met (by decide) hA hst (Nat.le_of_ble_eq_true rfl) rfl rfl (fun p e s m below meth c X hml hr _ => br_rates X hml hr h)
-- lives(I)V
def fr_lives_107 (ρ : Rho) (v1 : Int32) : Option (Rho) := if v1 < 0 ∨ 80 ≤ (v1).toNatClampNeg then none else (if (ρ 26 (v1).toNatClampNeg) = 0 then (fr_rates ρ (v1)).bind fun o2 => some o2
  else some ρ)
set_option maxRecDepth 100000 in
set_option maxHeartbeats 4000000 in
theorem br_lives_107 {p : Program} {l : Launch} {e : Env} {s : State} {m : MethodId} {args : Array Value} {below : List Frame} {meth : Method} {c : Code} {D : va_G} {dA : Nat → ClassId} {A : Nat → Prop} {ad : Nat → Nat} {o : Rho} (X : zc p l s m args meth c cX12_lives RX12 D dA A) (hml : c.maxLocals = 5) (hr : meth.sig.returnType = none) {ρ : Rho} {v1 : Int32} (h : fr_lives_107 ρ v1 = some o) : zz p l e ({ frames := 120, cells := 0, slots := 0, locals := 1200 } : Room) s m args below meth c A (rw D dA A ρ ad) 0 0 (MQ below (va_Qv (fun (_ : Unit) => True) (fun _ t => rw D dA A o ad t.heap) A) args s 0 0 A) 107 [(0, .ref (ad 40)), (1, .int (v1))] [] [] := by
  unfold fr_lives_107 at h
  refine z_aload_n X dX12_lives_107 rfl rfl ?_
  refine r_getA X 26 rfl rfl g_1332 dX12_lives_108 ?_
  refine z_iload_n X dX12_lives_111 rfl rfl ?_
  obtain ⟨q1, h⟩ := zg h
  refine r_ald X 26 rfl rfl q1 dX12_lives_112 ?_
  refine z_if_ne (tgt := 121) X dX12_lives_113 (by decide) (fun q => ?_) (fun q => ?_)
  · have h := zp q h
    refine z_aload_n X dX12_lives_116 rfl rfl ?_
    refine z_iload_n X dX12_lives_117 rfl rfl ?_
    obtain ⟨o2, co2, h⟩ := zb2 h
    refine z_callVv (As := [.int (v1)]) (rest := []) (nA := 1) (pu := fun (_ : Unit) => True) (G1 := fun _ => rw D dA A o2 ad) X (cr_rates l X.2.2.2.2.2.2.2.2 X.2.2.2.2.2.2.1 co2) g_1619 g_1621 gs_48 g_15 g_1622 hd_yX12_rates ⟨rfl, rfl, Nat.le_of_ble_eq_true rfl, Nat.le_of_ble_eq_true rfl⟩ rfl (fun _ hG => rw_recv X hG) rfl (Nat.le_of_ble_eq_true rfl) dX12_lives_118 ⟨Nat.le_refl _, Nat.le_refl _⟩ (fun _ _ => ?_)
    obtain rfl := Option.some.inj h
    exact z_vret X hr (fun t hG hF _ => ⟨⟨(), rfl, trivial, hG⟩, hF⟩) dX12_lives_121
  · have h := zn q h
    obtain rfl := Option.some.inj h
    exact z_vret X hr (fun t hG hF _ => ⟨⟨(), rfl, trivial, hG⟩, hF⟩) dX12_lives_121
def fr_lives_93 (ρ : Rho) (v1 : Int32) : Option (Rho) := if v1 < 0 ∨ 80 ≤ (v1).toNatClampNeg then none else (if (ρ 34 (v1).toNatClampNeg) = 0 then (fr_getsSlice ρ (v1)).bind fun o2 => fr_lives_107 o2 v1
  else fr_lives_107 ρ v1)
set_option maxRecDepth 100000 in
set_option maxHeartbeats 4000000 in
theorem br_lives_93 {p : Program} {l : Launch} {e : Env} {s : State} {m : MethodId} {args : Array Value} {below : List Frame} {meth : Method} {c : Code} {D : va_G} {dA : Nat → ClassId} {A : Nat → Prop} {ad : Nat → Nat} {o : Rho} (X : zc p l s m args meth c cX12_lives RX12 D dA A) (hml : c.maxLocals = 5) (hr : meth.sig.returnType = none) {ρ : Rho} {v1 : Int32} (h : fr_lives_93 ρ v1 = some o) : zz p l e ({ frames := 120, cells := 0, slots := 0, locals := 1200 } : Room) s m args below meth c A (rw D dA A ρ ad) 0 0 (MQ below (va_Qv (fun (_ : Unit) => True) (fun _ t => rw D dA A o ad t.heap) A) args s 0 0 A) 93 [(0, .ref (ad 40)), (1, .int (v1))] [] [] := by
  unfold fr_lives_93 at h
  refine z_aload_n X dX12_lives_93 rfl rfl ?_
  refine r_getA X 34 rfl rfl g_1340 dX12_lives_94 ?_
  refine z_iload_n X dX12_lives_97 rfl rfl ?_
  obtain ⟨q1, h⟩ := zg h
  refine r_ald X 34 rfl rfl q1 dX12_lives_98 ?_
  refine z_if_ne (tgt := 107) X dX12_lives_99 (by decide) (fun q => ?_) (fun q => ?_)
  · have h := zp q h
    refine z_aload_n X dX12_lives_102 rfl rfl ?_
    refine z_iload_n X dX12_lives_103 rfl rfl ?_
    obtain ⟨o2, co2, h⟩ := zb2 h
    refine z_callVv (As := [.int (v1)]) (rest := []) (nA := 1) (pu := fun (_ : Unit) => True) (G1 := fun _ => rw D dA A o2 ad) X (cr_getsSlice l X.2.2.2.2.2.2.2.2 X.2.2.2.2.2.2.1 co2) g_1539 g_1541 gs_33 g_15 g_1542 hd_yX12_getsSlice ⟨rfl, rfl, Nat.le_of_ble_eq_true rfl, Nat.le_of_ble_eq_true rfl⟩ rfl (fun _ hG => rw_recv X hG) rfl (Nat.le_of_ble_eq_true rfl) dX12_lives_104 ⟨Nat.le_refl _, Nat.le_refl _⟩ (fun _ _ => ?_)
    refine zz.pick (lo' := [(0, .ref (ad 40)), (1, .int (v1))]) [0, 1] rfl ?_
    exact br_lives_107 X hml hr h
  · have h := zn q h
    refine zz.pick (lo' := [(0, .ref (ad 40)), (1, .int (v1))]) [0, 1] rfl ?_
    exact br_lives_107 X hml hr h
def fr_lives_81 (ρ : Rho) (v1 : Int32) (s0 : Int32) : Option (Rho) := (if s0 = 0 then fr_lives_93 ρ v1
  else (fr_allGoesBack ρ (v1)).bind fun o1 => fr_lives_93 o1 v1)
set_option maxRecDepth 100000 in
set_option maxHeartbeats 4000000 in
theorem br_lives_81 {p : Program} {l : Launch} {e : Env} {s : State} {m : MethodId} {args : Array Value} {below : List Frame} {meth : Method} {c : Code} {D : va_G} {dA : Nat → ClassId} {A : Nat → Prop} {ad : Nat → Nat} {o : Rho} (X : zc p l s m args meth c cX12_lives RX12 D dA A) (hml : c.maxLocals = 5) (hr : meth.sig.returnType = none) {ρ : Rho} {v1 : Int32} {s0 : Int32} (h : fr_lives_81 ρ v1 s0 = some o) : zz p l e ({ frames := 120, cells := 0, slots := 0, locals := 1200 } : Room) s m args below meth c A (rw D dA A ρ ad) 0 0 (MQ below (va_Qv (fun (_ : Unit) => True) (fun _ t => rw D dA A o ad t.heap) A) args s 0 0 A) 81 [(0, .ref (ad 40)), (1, .int (v1))] [] [.int (s0)] := by
  unfold fr_lives_81 at h
  refine z_istore (lo' := [(4, .int (s0)), (0, .ref (ad 40)), (1, .int (v1))]) X dX12_lives_81 (by rw [hml]; decide) rfl rfl ?_
  refine z_iload X dX12_lives_83 rfl ?_
  refine z_if_eq (tgt := 93) X dX12_lives_85 (by decide) (fun q => ?_) (fun q => ?_)
  · have h := zp q h
    refine zz.pick (lo' := [(0, .ref (ad 40)), (1, .int (v1))]) [0, 1] rfl ?_
    exact br_lives_93 X hml hr h
  · have h := zn q h
    refine z_aload_n X dX12_lives_88 rfl rfl ?_
    refine z_iload_n X dX12_lives_89 rfl rfl ?_
    obtain ⟨o1, co1, h⟩ := zb2 h
    refine z_callVv (As := [.int (v1)]) (rest := []) (nA := 1) (pu := fun (_ : Unit) => True) (G1 := fun _ => rw D dA A o1 ad) X (cr_allGoesBack l X.2.2.2.2.2.2.2.2 X.2.2.2.2.2.2.1 co1) g_1583 g_1585 gs_44 g_15 g_1586 hd_yX12_allGoesBack ⟨rfl, rfl, Nat.le_of_ble_eq_true rfl, Nat.le_of_ble_eq_true rfl⟩ rfl (fun _ hG => rw_recv X hG) rfl (Nat.le_of_ble_eq_true rfl) dX12_lives_90 ⟨Nat.le_refl _, Nat.le_refl _⟩ (fun _ _ => ?_)
    refine zz.pick (lo' := [(0, .ref (ad 40)), (1, .int (v1))]) [0, 1] rfl ?_
    exact br_lives_93 X hml hr h
def fr_lives_80 (ρ : Rho) (v1 : Int32) : Option (Rho) := fr_lives_81 ρ v1 0
set_option maxRecDepth 100000 in
set_option maxHeartbeats 4000000 in
theorem br_lives_80 {p : Program} {l : Launch} {e : Env} {s : State} {m : MethodId} {args : Array Value} {below : List Frame} {meth : Method} {c : Code} {D : va_G} {dA : Nat → ClassId} {A : Nat → Prop} {ad : Nat → Nat} {o : Rho} (X : zc p l s m args meth c cX12_lives RX12 D dA A) (hml : c.maxLocals = 5) (hr : meth.sig.returnType = none) {ρ : Rho} {v1 : Int32} (h : fr_lives_80 ρ v1 = some o) : zz p l e ({ frames := 120, cells := 0, slots := 0, locals := 1200 } : Room) s m args below meth c A (rw D dA A ρ ad) 0 0 (MQ below (va_Qv (fun (_ : Unit) => True) (fun _ t => rw D dA A o ad t.heap) A) args s 0 0 A) 80 [(0, .ref (ad 40)), (1, .int (v1))] [] [] := by
  unfold fr_lives_80 at h
  refine z_iconst (v := 0) X dX12_lives_80 (by decide) ?_
  refine zz.pick (lo' := [(0, .ref (ad 40)), (1, .int (v1))]) [0, 1] rfl ?_
  exact br_lives_81 X hml hr h
def fr_lives_76 (ρ : Rho) (v1 : Int32) : Option (Rho) := fr_lives_81 ρ v1 1
set_option maxRecDepth 100000 in
set_option maxHeartbeats 4000000 in
theorem br_lives_76 {p : Program} {l : Launch} {e : Env} {s : State} {m : MethodId} {args : Array Value} {below : List Frame} {meth : Method} {c : Code} {D : va_G} {dA : Nat → ClassId} {A : Nat → Prop} {ad : Nat → Nat} {o : Rho} (X : zc p l s m args meth c cX12_lives RX12 D dA A) (hml : c.maxLocals = 5) (hr : meth.sig.returnType = none) {ρ : Rho} {v1 : Int32} (h : fr_lives_76 ρ v1 = some o) : zz p l e ({ frames := 120, cells := 0, slots := 0, locals := 1200 } : Room) s m args below meth c A (rw D dA A ρ ad) 0 0 (MQ below (va_Qv (fun (_ : Unit) => True) (fun _ t => rw D dA A o ad t.heap) A) args s 0 0 A) 76 [(0, .ref (ad 40)), (1, .int (v1))] [] [] := by
  unfold fr_lives_76 at h
  refine z_iconst (v := 1) X dX12_lives_76 (by decide) ?_
  refine z_goto (tgt := 81) X dX12_lives_77 (by decide) ?_
  refine zz.pick (lo' := [(0, .ref (ad 40)), (1, .int (v1))]) [0, 1] rfl ?_
  exact br_lives_81 X hml hr h
def fr_lives (ρ : Rho) (a1 : Int32) : Option (Rho) := if a1 < 0 ∨ 80 ≤ (a1).toNatClampNeg then none else (some ((ρ 23 (a1).toNatClampNeg))).bind fun x2 => if a1 < 0 ∨ 80 ≤ (a1).toNatClampNeg then none else (some ((ρ 33 (a1).toNatClampNeg))).bind fun x4 => (if x4 = (-1) then if a1 < 0 ∨ 80 ≤ (a1).toNatClampNeg then none else (fr_rateNow ρ (x2)).bind fun o6 => (if (ρ 35 (a1).toNatClampNeg) = o6 then fr_lives_81 ρ a1 0
  else fr_lives_81 ρ a1 1)
  else (if x4 < 0 then fr_lives_80 ρ a1
  else (fr_isOver ρ (x4)).bind fun o7 => (if o7 = 0 then if x4 < 0 ∨ 40 ≤ (x4).toNatClampNeg then none else if x2 < 0 ∨ 10 ≤ (x2).toNatClampNeg then none else if (ρ 6 (x2).toNatClampNeg) < 0 ∨ 8 ≤ ((ρ 6 (x2).toNatClampNeg)).toNatClampNeg then none else (if (((ρ 16 (x4).toNatClampNeg) >>> ((ρ 2 ((ρ 6 (x2).toNatClampNeg)).toNatClampNeg) &&& 31)) &&& 1) = 0 then fr_lives_76 ρ a1
  else fr_lives_80 ρ a1)
  else fr_lives_76 ρ a1)))
set_option maxRecDepth 100000 in
set_option maxHeartbeats 4000000 in
theorem br_lives {p : Program} {l : Launch} {e : Env} {s : State} {m : MethodId} {args : Array Value} {below : List Frame} {meth : Method} {c : Code} {D : va_G} {dA : Nat → ClassId} {A : Nat → Prop} {ad : Nat → Nat} {o : Rho} (X : zc p l s m args meth c cX12_lives RX12 D dA A) (hml : c.maxLocals = 5) (hr : meth.sig.returnType = none) {ρ : Rho} {a1 : Int32} (h : fr_lives ρ a1 = some o) : zz p l e ({ frames := 120, cells := 0, slots := 0, locals := 1200 } : Room) s m args below meth c A (rw D dA A ρ ad) 0 0 (MQ below (va_Qv (fun (_ : Unit) => True) (fun _ t => rw D dA A o ad t.heap) A) args s 0 0 A) 0 [(0, .ref (ad 40)), (1, .int (a1))] [] [] := by
  unfold fr_lives at h
  refine z_aload_n X dX12_lives_0 rfl rfl ?_
  refine r_getA X 23 rfl rfl g_1329 dX12_lives_1 ?_
  refine z_iload_n X dX12_lives_4 rfl rfl ?_
  obtain ⟨q1, h⟩ := zg h
  refine r_ald X 23 rfl rfl q1 dX12_lives_5 ?_
  obtain ⟨x2, ex2, h⟩ := zb h
  rw [ex2]
  refine z_istore_n (lo' := [(2, .int (x2)), (0, .ref (ad 40)), (1, .int (a1))]) X dX12_lives_6 rfl (by rw [hml]; decide) rfl rfl ?_
  refine z_aload_n X dX12_lives_7 rfl rfl ?_
  refine r_getA X 33 rfl rfl g_1339 dX12_lives_8 ?_
  refine z_iload_n X dX12_lives_11 rfl rfl ?_
  obtain ⟨q3, h⟩ := zg h
  refine r_ald X 33 rfl rfl q3 dX12_lives_12 ?_
  obtain ⟨x4, ex4, h⟩ := zb h
  rw [ex4]
  refine z_istore_n (lo' := [(3, .int (x4)), (2, .int (x2)), (0, .ref (ad 40)), (1, .int (a1))]) X dX12_lives_13 rfl (by rw [hml]; decide) rfl rfl ?_
  refine z_iload_n X dX12_lives_14 rfl rfl ?_
  refine z_iconst (v := (-1)) X dX12_lives_15 (by decide) ?_
  refine z_icmp_ne (tgt := 41) X dX12_lives_16 (by decide) (fun q => ?_) (fun q => ?_)
  · have h := zp q h
    refine z_aload_n X dX12_lives_19 rfl rfl ?_
    refine r_getA X 35 rfl rfl g_1341 dX12_lives_20 ?_
    refine z_iload_n X dX12_lives_23 rfl rfl ?_
    obtain ⟨q5, h⟩ := zg h
    refine r_ald X 35 rfl rfl q5 dX12_lives_24 ?_
    refine z_aload_n X dX12_lives_25 rfl rfl ?_
    refine z_iload_n X dX12_lives_26 rfl rfl ?_
    obtain ⟨o6, co6, h⟩ := zb2 h
    refine z_callVi (As := [.int (x2)]) (rest := [.int ((ρ 35 (a1).toNatClampNeg))]) (nA := 1) (r0 := o6) (pu := fun (_ : Unit) => True) (G1 := fun _ => rw D dA A ρ ad) X (cr_rateNow l X.2.2.2.2.2.2.2.2 X.2.2.2.2.2.2.1 co6) g_1555 g_1557 gs_37 g_15 g_1558 hd_yX12_rateNow ⟨rfl, rfl, Nat.le_of_ble_eq_true rfl, Nat.le_of_ble_eq_true rfl⟩ rfl (fun _ hG => rw_recv X hG) rfl (Nat.le_of_ble_eq_true rfl) dX12_lives_27 ⟨Nat.le_refl _, Nat.le_refl _⟩ (fun _ _ => ?_)
    refine z_icmp_eq (tgt := 37) X dX12_lives_30 (by decide) (fun q => ?_) (fun q => ?_)
    · have h := zp q h
      refine z_iconst (v := 0) X dX12_lives_37 (by decide) ?_
      refine z_goto (tgt := 81) X dX12_lives_38 (by decide) ?_
      refine zz.pick (lo' := [(0, .ref (ad 40)), (1, .int (a1))]) [0, 1] rfl ?_
      exact br_lives_81 X hml hr h
    · have h := zn q h
      refine z_iconst (v := 1) X dX12_lives_33 (by decide) ?_
      refine z_goto (tgt := 81) X dX12_lives_34 (by decide) ?_
      refine zz.pick (lo' := [(0, .ref (ad 40)), (1, .int (a1))]) [0, 1] rfl ?_
      exact br_lives_81 X hml hr h
  · have h := zn q h
    refine z_iload_n X dX12_lives_41 rfl rfl ?_
    refine z_if_lt (tgt := 80) X dX12_lives_42 (by decide) (fun q => ?_) (fun q => ?_)
    · have h := zp q h
      refine zz.pick (lo' := [(0, .ref (ad 40)), (1, .int (a1))]) [0, 1] rfl ?_
      exact br_lives_80 X hml hr h
    · have h := zn q h
      refine z_aload_n X dX12_lives_45 rfl rfl ?_
      refine z_iload_n X dX12_lives_46 rfl rfl ?_
      obtain ⟨o7, co7, h⟩ := zb2 h
      refine z_callVi (As := [.int (x4)]) (rest := []) (nA := 1) (r0 := o7) (pu := fun (_ : Unit) => True) (G1 := fun _ => rw D dA A ρ ad) X (cr_isOver l X.2.2.2.2.2.2.2.2 X.2.2.2.2.2.2.1 co7) g_1516 g_1518 gs_29 g_15 g_1519 hd_yX12_isOver ⟨rfl, rfl, Nat.le_of_ble_eq_true rfl, Nat.le_of_ble_eq_true rfl⟩ rfl (fun _ hG => rw_recv X hG) rfl (Nat.le_of_ble_eq_true rfl) dX12_lives_47 ⟨Nat.le_refl _, Nat.le_refl _⟩ (fun _ _ => ?_)
      refine z_if_ne (tgt := 76) X dX12_lives_50 (by decide) (fun q => ?_) (fun q => ?_)
      · have h := zp q h
        refine z_aload_n X dX12_lives_53 rfl rfl ?_
        refine r_getA X 16 rfl rfl g_1322 dX12_lives_54 ?_
        refine z_iload_n X dX12_lives_57 rfl rfl ?_
        obtain ⟨q8, h⟩ := zg h
        refine r_ald X 16 rfl rfl q8 dX12_lives_58 ?_
        refine z_aload_n X dX12_lives_59 rfl rfl ?_
        refine r_getA X 2 rfl rfl g_1308 dX12_lives_60 ?_
        refine z_aload_n X dX12_lives_63 rfl rfl ?_
        refine r_getA X 6 rfl rfl g_1312 dX12_lives_64 ?_
        refine z_iload_n X dX12_lives_67 rfl rfl ?_
        obtain ⟨q9, h⟩ := zg h
        refine r_ald X 6 rfl rfl q9 dX12_lives_68 ?_
        obtain ⟨q10, h⟩ := zg h
        refine r_ald X 2 rfl rfl q10 dX12_lives_69 ?_
        refine z_ishr X dX12_lives_70 ?_
        refine z_iconst (v := 1) X dX12_lives_71 (by decide) ?_
        refine z_iand X dX12_lives_72 ?_
        refine z_if_ne (tgt := 80) X dX12_lives_73 (by decide) (fun q => ?_) (fun q => ?_)
        · have h := zp q h
          refine zz.pick (lo' := [(0, .ref (ad 40)), (1, .int (a1))]) [0, 1] rfl ?_
          exact br_lives_76 X hml hr h
        · have h := zn q h
          refine zz.pick (lo' := [(0, .ref (ad 40)), (1, .int (a1))]) [0, 1] rfl ?_
          exact br_lives_80 X hml hr h
      · have h := zn q h
        refine zz.pick (lo' := [(0, .ref (ad 40)), (1, .int (a1))]) [0, 1] rfl ?_
        exact br_lives_76 X hml hr h
theorem cr_lives (l : Launch) {D : va_G} {dA : Nat → ClassId} {A : Nat → Prop} {n : Nat} {ad : Nat → Nat} (hst : l.stackTraces = false) (hA : ∀ q, n ≤ q → A q) {ρ : Rho} {a1 : Int32} {o : Rho} (h : fr_lives ρ a1 = some o) : Met l yX12_lives (.code yX12_lives cX12_lives 5 none :: gT) ({ frames := 120, cells := 0, slots := 0, locals := 1200 } : Room) (va_Pc [.ref (ad 40), .int a1] (zB D dA A n (rw D dA A ρ ad))) (va_Qv (fun (_ : Unit) => True) (fun _ t => rw D dA A o ad t.heap) A) 0 0 A :=
  z_met (by decide) hA hst (Nat.le_of_ble_eq_true rfl) rfl rfl (fun p e s m below meth c X hml hr _ => br_lives X hml hr h)
-- pass(I)I
def fr_pass_80 (k47 : Rho → Int32 → Int32 → Option (Rho × Int32)) (k54 : Rho → Int32 → Int32 → Int32 → Option (Rho × Int32)) (ρ : Rho) (v1 : Int32) (v2 : Int32) (v3 : Int32) : Option (Rho × Int32) := (some (v3 + 1)).bind fun x1 => k54 ρ v1 v2 x1
set_option maxRecDepth 100000 in
set_option maxHeartbeats 4000000 in
theorem br_pass_80 {p : Program} {l : Launch} {e : Env} {s : State} {m : MethodId} {args : Array Value} {below : List Frame} {meth : Method} {c : Code} {D : va_G} {dA : Nat → ClassId} {A : Nat → Prop} {ad : Nat → Nat} {o : Rho × Int32} (X : zc p l s m args meth c cX12_pass RX12 D dA A) (hml : c.maxLocals = 4) (hr : meth.sig.returnType = (some .int)) {k47 : Rho → Int32 → Int32 → Option (Rho × Int32)} (hk47 : ∀ {ρ : Rho} {v1 : Int32} {v2 : Int32}, k47 ρ v1 v2 = some o → zz p l e ({ frames := 140, cells := 0, slots := 0, locals := 1400 } : Room) s m args below meth c A (rw D dA A ρ ad) 0 0 (MQ below (va_Qi (fun r (_ : Unit) => r = o.2 ∧ True) (fun _ t => rw D dA A o.1 ad t.heap) A) args s 0 0 A) 47 [(0, .ref (ad 40)), (1, .int (v1)), (2, .int (v2))] [] []) {k54 : Rho → Int32 → Int32 → Int32 → Option (Rho × Int32)} (hk54 : ∀ {ρ : Rho} {v1 : Int32} {v2 : Int32} {v3 : Int32}, k54 ρ v1 v2 v3 = some o → zz p l e ({ frames := 140, cells := 0, slots := 0, locals := 1400 } : Room) s m args below meth c A (rw D dA A ρ ad) 0 0 (MQ below (va_Qi (fun r (_ : Unit) => r = o.2 ∧ True) (fun _ t => rw D dA A o.1 ad t.heap) A) args s 0 0 A) 54 [(0, .ref (ad 40)), (1, .int (v1)), (2, .int (v2)), (3, .int (v3))] [] []) {ρ : Rho} {v1 : Int32} {v2 : Int32} {v3 : Int32} (h : fr_pass_80 k47 k54 ρ v1 v2 v3 = some o) : zz p l e ({ frames := 140, cells := 0, slots := 0, locals := 1400 } : Room) s m args below meth c A (rw D dA A ρ ad) 0 0 (MQ below (va_Qi (fun r (_ : Unit) => r = o.2 ∧ True) (fun _ t => rw D dA A o.1 ad t.heap) A) args s 0 0 A) 80 [(0, .ref (ad 40)), (1, .int (v1)), (2, .int (v2)), (3, .int (v3))] [] [] := by
  unfold fr_pass_80 at h
  obtain ⟨x1, ex1, h⟩ := zb h
  refine z_iinc (v := x1) (lo' := [(3, .int (x1)), (0, .ref (ad 40)), (1, .int (v1)), (2, .int (v2))]) X dX12_pass_80 rfl ex1 (by rw [hml]; decide) rfl rfl ?_
  refine z_goto (tgt := 54) X dX12_pass_83 (by decide) ?_
  refine zz.pick (lo' := [(0, .ref (ad 40)), (1, .int (v1)), (2, .int (v2)), (3, .int (x1))]) [0, 1, 2, 3] rfl ?_
  exact hk54  h
def fr_pass_54 (k47 : Rho → Int32 → Int32 → Option (Rho × Int32)) : Nat → Rho → Int32 → Int32 → Int32 → Option (Rho × Int32)
  | 0, _, _, _, _ => none
  | n + 1, ρ, v1, v2, v3 => (if 10 ≤ v3 then (some (cs ρ 0 0 (((ρ 0 0) + 1)))).bind fun ρ1 => (some (v2 + 1)).bind fun x2 => k47 ρ1 v1 x2
  else if v3 < 0 ∨ 10 ≤ (v3).toNatClampNeg then none else (if (ρ 9 (v3).toNatClampNeg) = (-1) then fr_pass_80 k47 (fr_pass_54 k47 n) ρ v1 v2 v3
  else if v3 < 0 ∨ 10 ≤ (v3).toNatClampNeg then none else (fr_lives ρ ((ρ 9 (v3).toNatClampNeg))).bind fun o5 => fr_pass_80 k47 (fr_pass_54 k47 n) o5 v1 v2 v3))
set_option maxRecDepth 100000 in
set_option maxHeartbeats 4000000 in
theorem br_pass_54 {p : Program} {l : Launch} {e : Env} {s : State} {m : MethodId} {args : Array Value} {below : List Frame} {meth : Method} {c : Code} {D : va_G} {dA : Nat → ClassId} {A : Nat → Prop} {ad : Nat → Nat} {o : Rho × Int32} (X : zc p l s m args meth c cX12_pass RX12 D dA A) (hml : c.maxLocals = 4) (hr : meth.sig.returnType = (some .int)) {k47 : Rho → Int32 → Int32 → Option (Rho × Int32)} (hk47 : ∀ {ρ : Rho} {v1 : Int32} {v2 : Int32}, k47 ρ v1 v2 = some o → zz p l e ({ frames := 140, cells := 0, slots := 0, locals := 1400 } : Room) s m args below meth c A (rw D dA A ρ ad) 0 0 (MQ below (va_Qi (fun r (_ : Unit) => r = o.2 ∧ True) (fun _ t => rw D dA A o.1 ad t.heap) A) args s 0 0 A) 47 [(0, .ref (ad 40)), (1, .int (v1)), (2, .int (v2))] [] []) : ∀ (n : Nat) {ρ : Rho} {v1 : Int32} {v2 : Int32} {v3 : Int32}, fr_pass_54 k47 n ρ v1 v2 v3 = some o → zz p l e ({ frames := 140, cells := 0, slots := 0, locals := 1400 } : Room) s m args below meth c A (rw D dA A ρ ad) 0 0 (MQ below (va_Qi (fun r (_ : Unit) => r = o.2 ∧ True) (fun _ t => rw D dA A o.1 ad t.heap) A) args s 0 0 A) 54 [(0, .ref (ad 40)), (1, .int (v1)), (2, .int (v2)), (3, .int (v3))] [] [] := by
  intro n
  induction n with
  | zero => intro ρ v1 v2 v3 h; exact (nomatch (show none = some o from h))
  | succ n ih =>
    intro ρ v1 v2 v3 h
    rw [fr_pass_54] at h
    refine z_iload_n X dX12_pass_54 rfl rfl ?_
    refine z_bipush (v := 10) X dX12_pass_55 (by decide) ?_
    refine z_icmp_ge (tgt := 86) X dX12_pass_57 (by decide) (fun q => ?_) (fun q => ?_)
    · have h := zp q h
      refine z_aload_n X dX12_pass_86 rfl rfl ?_
      refine z_dup X dX12_pass_87 rfl ?_
      refine r_getS X 0 rfl rfl g_1306 dX12_pass_88 ?_
      refine z_iconst (v := 1) X dX12_pass_91 (by decide) ?_
      refine z_iadd X dX12_pass_92 ?_
      obtain ⟨ρ1, eρ1, h⟩ := zb h
      refine r_putS X 0 rfl rfl rfl g_1306 eρ1 dX12_pass_93 ?_
      obtain ⟨x2, ex2, h⟩ := zb h
      refine z_iinc (v := x2) (lo' := [(2, .int (x2)), (0, .ref (ad 40)), (1, .int (v1)), (3, .int (v3))]) X dX12_pass_96 rfl ex2 (by rw [hml]; decide) rfl rfl ?_
      refine z_goto (tgt := 47) X dX12_pass_99 (by decide) ?_
      refine zz.pick (lo' := [(0, .ref (ad 40)), (1, .int (v1)), (2, .int (x2))]) [0, 1, 2] rfl ?_
      exact hk47  h
    · have h := zn q h
      refine z_aload_n X dX12_pass_60 rfl rfl ?_
      refine r_getA X 9 rfl rfl g_1315 dX12_pass_61 ?_
      refine z_iload_n X dX12_pass_64 rfl rfl ?_
      obtain ⟨q3, h⟩ := zg h
      refine r_ald X 9 rfl rfl q3 dX12_pass_65 ?_
      refine z_iconst (v := (-1)) X dX12_pass_66 (by decide) ?_
      refine z_icmp_eq (tgt := 80) X dX12_pass_67 (by decide) (fun q => ?_) (fun q => ?_)
      · have h := zp q h
        refine zz.pick (lo' := [(0, .ref (ad 40)), (1, .int (v1)), (2, .int (v2)), (3, .int (v3))]) [0, 1, 2, 3] rfl ?_
        exact br_pass_80 X hml hr hk47 ih h
      · have h := zn q h
        refine z_aload_n X dX12_pass_70 rfl rfl ?_
        refine z_aload_n X dX12_pass_71 rfl rfl ?_
        refine r_getA X 9 rfl rfl g_1315 dX12_pass_72 ?_
        refine z_iload_n X dX12_pass_75 rfl rfl ?_
        obtain ⟨q4, h⟩ := zg h
        refine r_ald X 9 rfl rfl q4 dX12_pass_76 ?_
        obtain ⟨o5, co5, h⟩ := zb2 h
        refine z_callVv (As := [.int ((ρ 9 (v3).toNatClampNeg))]) (rest := []) (nA := 1) (pu := fun (_ : Unit) => True) (G1 := fun _ => rw D dA A o5 ad) X (cr_lives l X.2.2.2.2.2.2.2.2 X.2.2.2.2.2.2.1 co5) g_1615 g_1617 gs_47 g_15 g_1618 hd_yX12_lives ⟨rfl, rfl, Nat.le_of_ble_eq_true rfl, Nat.le_of_ble_eq_true rfl⟩ rfl (fun _ hG => rw_recv X hG) rfl (Nat.le_of_ble_eq_true rfl) dX12_pass_77 ⟨Nat.le_refl _, Nat.le_refl _⟩ (fun _ _ => ?_)
        refine zz.pick (lo' := [(0, .ref (ad 40)), (1, .int (v1)), (2, .int (v2)), (3, .int (v3))]) [0, 1, 2, 3] rfl ?_
        exact br_pass_80 X hml hr hk47 ih h
def fr_pass_47 : Nat → Rho → Int32 → Int32 → Option (Rho × Int32)
  | 0, _, _, _ => none
  | n + 1, ρ, v1, v2 => (if v1 ≤ v2 then some (ρ, (ρ 36 0))
  else fr_pass_54 (fr_pass_47 n) FU ρ v1 v2 0)
set_option maxRecDepth 100000 in
set_option maxHeartbeats 4000000 in
theorem br_pass_47 {p : Program} {l : Launch} {e : Env} {s : State} {m : MethodId} {args : Array Value} {below : List Frame} {meth : Method} {c : Code} {D : va_G} {dA : Nat → ClassId} {A : Nat → Prop} {ad : Nat → Nat} {o : Rho × Int32} (X : zc p l s m args meth c cX12_pass RX12 D dA A) (hml : c.maxLocals = 4) (hr : meth.sig.returnType = (some .int)) : ∀ (n : Nat) {ρ : Rho} {v1 : Int32} {v2 : Int32}, fr_pass_47  n ρ v1 v2 = some o → zz p l e ({ frames := 140, cells := 0, slots := 0, locals := 1400 } : Room) s m args below meth c A (rw D dA A ρ ad) 0 0 (MQ below (va_Qi (fun r (_ : Unit) => r = o.2 ∧ True) (fun _ t => rw D dA A o.1 ad t.heap) A) args s 0 0 A) 47 [(0, .ref (ad 40)), (1, .int (v1)), (2, .int (v2))] [] [] := by
  intro n
  induction n with
  | zero => intro ρ v1 v2 h; exact (nomatch (show none = some o from h))
  | succ n ih =>
    intro ρ v1 v2 h
    rw [fr_pass_47] at h
    refine z_iload_n X dX12_pass_47 rfl rfl ?_
    refine z_iload_n X dX12_pass_48 rfl rfl ?_
    refine z_icmp_ge (tgt := 102) X dX12_pass_49 (by decide) (fun q => ?_) (fun q => ?_)
    · have h := zp q h
      refine z_aload_n X dX12_pass_102 rfl rfl ?_
      refine r_getS X 36 rfl rfl g_1342 dX12_pass_103 ?_
      obtain rfl := Option.some.inj h
      exact z_iret X hr rfl (fun t hG hF _ => ⟨⟨_, (), rfl, ⟨rfl, trivial⟩, hG⟩, hF⟩) dX12_pass_106
    · have h := zn q h
      refine z_iconst (v := 0) X dX12_pass_52 (by decide) ?_
      refine z_istore_n (lo' := [(3, .int (0)), (0, .ref (ad 40)), (1, .int (v1)), (2, .int (v2))]) X dX12_pass_53 rfl (by rw [hml]; decide) rfl rfl ?_
      refine zz.pick (lo' := [(0, .ref (ad 40)), (1, .int (v1)), (2, .int (v2)), (3, .int (0))]) [0, 1, 2, 3] rfl ?_
      exact br_pass_54 X hml hr ih FU h
def fr_pass_32 (ρ : Rho) (v1 : Int32) (s1 : Int32) : Option (Rho × Int32) := (fr_can ρ (s1)).bind fun o1 => (if o1.2 = 0 then some (o1.1, 0)
  else (some (cs o1.1 36 0 (0))).bind fun ρ2 => fr_pass_47 FU ρ2 v1 0)
set_option maxRecDepth 100000 in
set_option maxHeartbeats 4000000 in
theorem br_pass_32 {p : Program} {l : Launch} {e : Env} {s : State} {m : MethodId} {args : Array Value} {below : List Frame} {meth : Method} {c : Code} {D : va_G} {dA : Nat → ClassId} {A : Nat → Prop} {ad : Nat → Nat} {o : Rho × Int32} (X : zc p l s m args meth c cX12_pass RX12 D dA A) (hml : c.maxLocals = 4) (hr : meth.sig.returnType = (some .int)) {ρ : Rho} {v1 : Int32} {s1 : Int32} (h : fr_pass_32 ρ v1 s1 = some o) : zz p l e ({ frames := 140, cells := 0, slots := 0, locals := 1400 } : Room) s m args below meth c A (rw D dA A ρ ad) 0 0 (MQ below (va_Qi (fun r (_ : Unit) => r = o.2 ∧ True) (fun _ t => rw D dA A o.1 ad t.heap) A) args s 0 0 A) 32 [(0, .ref (ad 40)), (1, .int (v1))] [] [.int (s1), .ref (ad 40)] := by
  unfold fr_pass_32 at h
  obtain ⟨o1, co1, h⟩ := zb2 h
  refine z_callVi (As := [.int (s1)]) (rest := []) (nA := 1) (r0 := o1.2) (pu := fun (_ : Unit) => True) (G1 := fun _ => rw D dA A o1.1 ad) X (cr_can l X.2.2.2.2.2.2.2.2 X.2.2.2.2.2.2.1 co1) g_1445 g_1447 gs_25 g_15 g_1448 hd_yX12_can ⟨rfl, rfl, Nat.le_of_ble_eq_true rfl, Nat.le_of_ble_eq_true rfl⟩ rfl (fun _ hG => rw_recv X hG) rfl (Nat.le_of_ble_eq_true rfl) dX12_pass_32 ⟨Nat.le_refl _, Nat.le_refl _⟩ (fun _ _ => ?_)
  refine z_if_ne (tgt := 40) X dX12_pass_35 (by decide) (fun q => ?_) (fun q => ?_)
  · have h := zp q h
    refine z_iconst (v := 0) X dX12_pass_38 (by decide) ?_
    obtain rfl := Option.some.inj h
    exact z_iret X hr rfl (fun t hG hF _ => ⟨⟨_, (), rfl, ⟨rfl, trivial⟩, hG⟩, hF⟩) dX12_pass_39
  · have h := zn q h
    refine z_aload_n X dX12_pass_40 rfl rfl ?_
    refine z_iconst (v := 0) X dX12_pass_41 (by decide) ?_
    obtain ⟨ρ2, eρ2, h⟩ := zb h
    refine r_putS X 36 rfl rfl rfl g_1342 eρ2 dX12_pass_42 ?_
    refine z_iconst (v := 0) X dX12_pass_45 (by decide) ?_
    refine z_istore_n (lo' := [(2, .int (0)), (0, .ref (ad 40)), (1, .int (v1))]) X dX12_pass_46 rfl (by rw [hml]; decide) rfl rfl ?_
    refine zz.pick (lo' := [(0, .ref (ad 40)), (1, .int (v1)), (2, .int (0))]) [0, 1, 2] rfl ?_
    exact br_pass_47 X hml hr FU h
def fr_pass (ρ : Rho) (a1 : Int32) : Option (Rho × Int32) := (fr_isIn ρ (a1) (1) (500)).bind fun o1 => (if o1 = 0 then fr_pass_32 ρ a1 1
  else (if ((ρ 0 0) + a1) ≤ 50000 then fr_pass_32 ρ a1 0
  else fr_pass_32 ρ a1 2))
set_option maxRecDepth 100000 in
set_option maxHeartbeats 4000000 in
theorem br_pass {p : Program} {l : Launch} {e : Env} {s : State} {m : MethodId} {args : Array Value} {below : List Frame} {meth : Method} {c : Code} {D : va_G} {dA : Nat → ClassId} {A : Nat → Prop} {ad : Nat → Nat} {o : Rho × Int32} (X : zc p l s m args meth c cX12_pass RX12 D dA A) (hml : c.maxLocals = 4) (hr : meth.sig.returnType = (some .int)) {ρ : Rho} {a1 : Int32} (h : fr_pass ρ a1 = some o) : zz p l e ({ frames := 140, cells := 0, slots := 0, locals := 1400 } : Room) s m args below meth c A (rw D dA A ρ ad) 0 0 (MQ below (va_Qi (fun r (_ : Unit) => r = o.2 ∧ True) (fun _ t => rw D dA A o.1 ad t.heap) A) args s 0 0 A) 0 [(0, .ref (ad 40)), (1, .int (a1))] [] [] := by
  unfold fr_pass at h
  refine z_aload_n X dX12_pass_0 rfl rfl ?_
  refine z_iload_n X dX12_pass_1 rfl rfl ?_
  refine z_iconst (v := 1) X dX12_pass_2 (by decide) ?_
  refine z_sipush (v := 500) X dX12_pass_3 (by decide) ?_
  obtain ⟨o1, co1, h⟩ := zb2 h
  refine z_callSi (As := [.int (a1), .int (1), .int (500)]) (rest := [.ref (ad 40)]) (nA := 3) (r0 := o1) (pu := fun (_ : Unit) => True) (G1 := fun _ => rw D dA A ρ ad) X (cr_isIn l X.2.2.2.2.2.2.2.2 X.2.2.2.2.2.2.1 co1) g_1439 g_1440 g_15 g_1441 hd_yX12_isIn ⟨rfl, rfl, Nat.le_of_ble_eq_true rfl, Nat.le_of_ble_eq_true rfl⟩ rfl rfl (Nat.le_of_ble_eq_true rfl) dX12_pass_6 ⟨Nat.le_refl _, Nat.le_refl _⟩ (fun _ _ => ?_)
  refine z_if_ne (tgt := 16) X dX12_pass_9 (by decide) (fun q => ?_) (fun q => ?_)
  · have h := zp q h
    refine z_iconst (v := 1) X dX12_pass_12 (by decide) ?_
    refine z_goto (tgt := 32) X dX12_pass_13 (by decide) ?_
    refine zz.pick (lo' := [(0, .ref (ad 40)), (1, .int (a1))]) [0, 1] rfl ?_
    exact br_pass_32 X hml hr h
  · have h := zn q h
    refine z_aload_n X dX12_pass_16 rfl rfl ?_
    refine r_getS X 0 rfl rfl g_1306 dX12_pass_17 ?_
    refine z_iload_n X dX12_pass_20 rfl rfl ?_
    refine z_iadd X dX12_pass_21 ?_
    refine z_ldc X g_1614 dX12_pass_22 ?_
    refine z_icmp_le (tgt := 31) X dX12_pass_24 (by decide) (fun q => ?_) (fun q => ?_)
    · have h := zp q h
      refine z_iconst (v := 0) X dX12_pass_31 (by decide) ?_
      refine zz.pick (lo' := [(0, .ref (ad 40)), (1, .int (a1))]) [0, 1] rfl ?_
      exact br_pass_32 X hml hr h
    · have h := zn q h
      refine z_iconst (v := 2) X dX12_pass_27 (by decide) ?_
      refine z_goto (tgt := 32) X dX12_pass_28 (by decide) ?_
      refine zz.pick (lo' := [(0, .ref (ad 40)), (1, .int (a1))]) [0, 1] rfl ?_
      exact br_pass_32 X hml hr h
theorem cr_pass (l : Launch) {D : va_G} {dA : Nat → ClassId} {A : Nat → Prop} {n : Nat} {ad : Nat → Nat} (hst : l.stackTraces = false) (hA : ∀ q, n ≤ q → A q) {ρ : Rho} {a1 : Int32} {o : Rho × Int32} (h : fr_pass ρ a1 = some o) : Met l yX12_pass (.code yX12_pass cX12_pass 4 (some .int) :: gT) ({ frames := 140, cells := 0, slots := 0, locals := 1400 } : Room) (va_Pc [.ref (ad 40), .int a1] (zB D dA A n (rw D dA A ρ ad))) (va_Qi (fun r (_ : Unit) => r = o.2 ∧ True) (fun _ t => rw D dA A o.1 ad t.heap) A) 0 0 A :=
  z_met (by decide) hA hst (Nat.le_of_ble_eq_true rfl) rfl rfl (fun p e s m below meth c X hml hr _ => br_pass X hml hr h)
-- now()I
def fr_now (ρ : Rho)  : Option (Rho × Int32) := (some (cs ρ 39 0 (0))).bind fun ρ1 => some (ρ1, (ρ1 0 0))
set_option maxRecDepth 100000 in
set_option maxHeartbeats 4000000 in
theorem br_now {p : Program} {l : Launch} {e : Env} {s : State} {m : MethodId} {args : Array Value} {below : List Frame} {meth : Method} {c : Code} {D : va_G} {dA : Nat → ClassId} {A : Nat → Prop} {ad : Nat → Nat} {o : Rho × Int32} (X : zc p l s m args meth c cX12_now RX12 D dA A) (hml : c.maxLocals = 1) (hr : meth.sig.returnType = (some .int)) {ρ : Rho}  (h : fr_now ρ = some o) : zz p l e ({ frames := 20, cells := 0, slots := 0, locals := 200 } : Room) s m args below meth c A (rw D dA A ρ ad) 0 0 (MQ below (va_Qi (fun r (_ : Unit) => r = o.2 ∧ True) (fun _ t => rw D dA A o.1 ad t.heap) A) args s 0 0 A) 0 [(0, .ref (ad 40))] [] [] := by
  unfold fr_now at h
  refine z_aload_n X dX12_now_0 rfl rfl ?_
  refine z_iconst (v := 0) X dX12_now_1 (by decide) ?_
  obtain ⟨ρ1, eρ1, h⟩ := zb h
  refine r_putS X 39 rfl rfl rfl g_1345 eρ1 dX12_now_2 ?_
  refine z_aload_n X dX12_now_5 rfl rfl ?_
  refine r_getS X 0 rfl rfl g_1306 dX12_now_6 ?_
  obtain rfl := Option.some.inj h
  exact z_iret X hr rfl (fun t hG hF _ => ⟨⟨_, (), rfl, ⟨rfl, trivial⟩, hG⟩, hF⟩) dX12_now_9
theorem cr_now (l : Launch) {D : va_G} {dA : Nat → ClassId} {A : Nat → Prop} {n : Nat} {ad : Nat → Nat} (hst : l.stackTraces = false) (hA : ∀ q, n ≤ q → A q) {ρ : Rho}  {o : Rho × Int32} (h : fr_now ρ = some o) : Met l yX12_now (.code yX12_now cX12_now 1 (some .int) :: gT) ({ frames := 20, cells := 0, slots := 0, locals := 200 } : Room) (va_Pc [.ref (ad 40)] (zB D dA A n (rw D dA A ρ ad))) (va_Qi (fun r (_ : Unit) => r = o.2 ∧ True) (fun _ t => rw D dA A o.1 ad t.heap) A) 0 0 A :=
  z_met (by decide) hA hst (Nat.le_of_ble_eq_true rfl) rfl rfl (fun p e s m below meth c X hml hr _ => br_now X hml hr h)
-- isAsked(I)Z
def fr_isAsked (ρ : Rho) (a1 : Int32) : Option (Rho × Int32) := (fr_isPhone ρ (a1)).bind fun o1 => (if o1 = 0 then (fr_can ρ (1)).bind fun o2 => if o2.2 = 0 ∨ o2.2 = 1 then some (o2.1, o2.2) else none
  else (fr_can ρ (0)).bind fun o3 => if o3.2 = 0 ∨ o3.2 = 1 then some (o3.1, o3.2) else none)
set_option maxRecDepth 100000 in
set_option maxHeartbeats 4000000 in
theorem br_isAsked {p : Program} {l : Launch} {e : Env} {s : State} {m : MethodId} {args : Array Value} {below : List Frame} {meth : Method} {c : Code} {D : va_G} {dA : Nat → ClassId} {A : Nat → Prop} {ad : Nat → Nat} {o : Rho × Int32} (X : zc p l s m args meth c cX12_isAsked RX12 D dA A) (hml : c.maxLocals = 2) (hr : meth.sig.returnType = (some .boolean)) {ρ : Rho} {a1 : Int32} (h : fr_isAsked ρ a1 = some o) : zz p l e ({ frames := 60, cells := 0, slots := 0, locals := 600 } : Room) s m args below meth c A (rw D dA A ρ ad) 0 0 (MQ below (va_Qi (fun r (_ : Unit) => r = o.2 ∧ True) (fun _ t => rw D dA A o.1 ad t.heap) A) args s 0 0 A) 0 [(0, .ref (ad 40)), (1, .int (a1))] [] [] := by
  unfold fr_isAsked at h
  refine z_aload_n X dX12_isAsked_0 rfl rfl ?_
  refine z_iload_n X dX12_isAsked_1 rfl rfl ?_
  obtain ⟨o1, co1, h⟩ := zb2 h
  refine z_callSi (As := [.int (a1)]) (rest := [.ref (ad 40)]) (nA := 1) (r0 := o1) (pu := fun (_ : Unit) => True) (G1 := fun _ => rw D dA A ρ ad) X (cr_isPhone l X.2.2.2.2.2.2.2.2 X.2.2.2.2.2.2.1 co1) g_1469 g_1470 g_15 g_1471 hd_yX12_isPhone ⟨rfl, rfl, Nat.le_of_ble_eq_true rfl, Nat.le_of_ble_eq_true rfl⟩ rfl rfl (Nat.le_of_ble_eq_true rfl) dX12_isAsked_2 ⟨Nat.le_refl _, Nat.le_refl _⟩ (fun _ _ => ?_)
  refine z_if_eq (tgt := 12) X dX12_isAsked_5 (by decide) (fun q => ?_) (fun q => ?_)
  · have h := zp q h
    refine z_iconst (v := 1) X dX12_isAsked_12 (by decide) ?_
    obtain ⟨o2, co2, h⟩ := zb2 h
    refine z_callVi (As := [.int (1)]) (rest := []) (nA := 1) (r0 := o2.2) (pu := fun (_ : Unit) => True) (G1 := fun _ => rw D dA A o2.1 ad) X (cr_can l X.2.2.2.2.2.2.2.2 X.2.2.2.2.2.2.1 co2) g_1445 g_1447 gs_25 g_15 g_1448 hd_yX12_can ⟨rfl, rfl, Nat.le_of_ble_eq_true rfl, Nat.le_of_ble_eq_true rfl⟩ rfl (fun _ hG => rw_recv X hG) rfl (Nat.le_of_ble_eq_true rfl) dX12_isAsked_13 ⟨Nat.le_refl _, Nat.le_refl _⟩ (fun _ _ => ?_)
    obtain ⟨q, h⟩ := zgp h
    obtain rfl := Option.some.inj h
    exact z_iret X hr (z_nb q) (fun t hG hF _ => ⟨⟨_, (), rfl, ⟨rfl, trivial⟩, hG⟩, hF⟩) dX12_isAsked_16
  · have h := zn q h
    refine z_iconst (v := 0) X dX12_isAsked_8 (by decide) ?_
    refine z_goto (tgt := 13) X dX12_isAsked_9 (by decide) ?_
    obtain ⟨o3, co3, h⟩ := zb2 h
    refine z_callVi (As := [.int (0)]) (rest := []) (nA := 1) (r0 := o3.2) (pu := fun (_ : Unit) => True) (G1 := fun _ => rw D dA A o3.1 ad) X (cr_can l X.2.2.2.2.2.2.2.2 X.2.2.2.2.2.2.1 co3) g_1445 g_1447 gs_25 g_15 g_1448 hd_yX12_can ⟨rfl, rfl, Nat.le_of_ble_eq_true rfl, Nat.le_of_ble_eq_true rfl⟩ rfl (fun _ hG => rw_recv X hG) rfl (Nat.le_of_ble_eq_true rfl) dX12_isAsked_13 ⟨Nat.le_refl _, Nat.le_refl _⟩ (fun _ _ => ?_)
    obtain ⟨q, h⟩ := zgp h
    obtain rfl := Option.some.inj h
    exact z_iret X hr (z_nb q) (fun t hG hF _ => ⟨⟨_, (), rfl, ⟨rfl, trivial⟩, hG⟩, hF⟩) dX12_isAsked_16
theorem cr_isAsked (l : Launch) {D : va_G} {dA : Nat → ClassId} {A : Nat → Prop} {n : Nat} {ad : Nat → Nat} (hst : l.stackTraces = false) (hA : ∀ q, n ≤ q → A q) {ρ : Rho} {a1 : Int32} {o : Rho × Int32} (h : fr_isAsked ρ a1 = some o) : Met l yX12_isAsked (.code yX12_isAsked cX12_isAsked 2 (some .boolean) :: gT) ({ frames := 60, cells := 0, slots := 0, locals := 600 } : Room) (va_Pc [.ref (ad 40), .int a1] (zB D dA A n (rw D dA A ρ ad))) (va_Qi (fun r (_ : Unit) => r = o.2 ∧ True) (fun _ t => rw D dA A o.1 ad t.heap) A) 0 0 A :=
  z_met (by decide) hA hst (Nat.le_of_ble_eq_true rfl) rfl rfl (fun p e s m below meth c X hml hr _ => br_isAsked X hml hr h)
-- cellOf(I)I
def fr_cellOf (ρ : Rho) (a1 : Int32) : Option (Rho × Int32) := (fr_isAsked ρ (a1)).bind fun o1 => (if o1.2 = 0 then some (o1.1, 0)
  else if a1 < 0 ∨ 10 ≤ (a1).toNatClampNeg then none else some (o1.1, (o1.1 6 (a1).toNatClampNeg)))
set_option maxRecDepth 100000 in
set_option maxHeartbeats 4000000 in
theorem br_cellOf {p : Program} {l : Launch} {e : Env} {s : State} {m : MethodId} {args : Array Value} {below : List Frame} {meth : Method} {c : Code} {D : va_G} {dA : Nat → ClassId} {A : Nat → Prop} {ad : Nat → Nat} {o : Rho × Int32} (X : zc p l s m args meth c cX12_cellOf RX12 D dA A) (hml : c.maxLocals = 2) (hr : meth.sig.returnType = (some .int)) {ρ : Rho} {a1 : Int32} (h : fr_cellOf ρ a1 = some o) : zz p l e ({ frames := 80, cells := 0, slots := 0, locals := 800 } : Room) s m args below meth c A (rw D dA A ρ ad) 0 0 (MQ below (va_Qi (fun r (_ : Unit) => r = o.2 ∧ True) (fun _ t => rw D dA A o.1 ad t.heap) A) args s 0 0 A) 0 [(0, .ref (ad 40)), (1, .int (a1))] [] [] := by
  unfold fr_cellOf at h
  refine z_aload_n X dX12_cellOf_0 rfl rfl ?_
  refine z_iload_n X dX12_cellOf_1 rfl rfl ?_
  obtain ⟨o1, co1, h⟩ := zb2 h
  refine z_callVi (As := [.int (a1)]) (rest := []) (nA := 1) (r0 := o1.2) (pu := fun (_ : Unit) => True) (G1 := fun _ => rw D dA A o1.1 ad) X (cr_isAsked l X.2.2.2.2.2.2.2.2 X.2.2.2.2.2.2.1 co1) g_1631 g_1633 gs_49 g_15 g_1634 hd_yX12_isAsked ⟨rfl, rfl, Nat.le_of_ble_eq_true rfl, Nat.le_of_ble_eq_true rfl⟩ rfl (fun _ hG => rw_recv X hG) rfl (Nat.le_of_ble_eq_true rfl) dX12_cellOf_2 ⟨Nat.le_refl _, Nat.le_refl _⟩ (fun _ _ => ?_)
  refine z_if_eq (tgt := 17) X dX12_cellOf_5 (by decide) (fun q => ?_) (fun q => ?_)
  · have h := zp q h
    refine z_iconst (v := 0) X dX12_cellOf_17 (by decide) ?_
    obtain rfl := Option.some.inj h
    exact z_iret X hr rfl (fun t hG hF _ => ⟨⟨_, (), rfl, ⟨rfl, trivial⟩, hG⟩, hF⟩) dX12_cellOf_18
  · have h := zn q h
    refine z_aload_n X dX12_cellOf_8 rfl rfl ?_
    refine r_getA X 6 rfl rfl g_1312 dX12_cellOf_9 ?_
    refine z_iload_n X dX12_cellOf_12 rfl rfl ?_
    obtain ⟨q2, h⟩ := zg h
    refine r_ald X 6 rfl rfl q2 dX12_cellOf_13 ?_
    refine z_goto (tgt := 18) X dX12_cellOf_14 (by decide) ?_
    obtain rfl := Option.some.inj h
    exact z_iret X hr rfl (fun t hG hF _ => ⟨⟨_, (), rfl, ⟨rfl, trivial⟩, hG⟩, hF⟩) dX12_cellOf_18
theorem cr_cellOf (l : Launch) {D : va_G} {dA : Nat → ClassId} {A : Nat → Prop} {n : Nat} {ad : Nat → Nat} (hst : l.stackTraces = false) (hA : ∀ q, n ≤ q → A q) {ρ : Rho} {a1 : Int32} {o : Rho × Int32} (h : fr_cellOf ρ a1 = some o) : Met l yX12_cellOf (.code yX12_cellOf cX12_cellOf 2 (some .int) :: gT) ({ frames := 80, cells := 0, slots := 0, locals := 800 } : Room) (va_Pc [.ref (ad 40), .int a1] (zB D dA A n (rw D dA A ρ ad))) (va_Qi (fun r (_ : Unit) => r = o.2 ∧ True) (fun _ t => rw D dA A o.1 ad t.heap) A) 0 0 A :=
  z_met (by decide) hA hst (Nat.le_of_ble_eq_true rfl) rfl rfl (fun p e s m below meth c X hml hr _ => br_cellOf X hml hr h)
-- rateOf(I)I
def fr_rateOf (ρ : Rho) (a1 : Int32) : Option (Rho × Int32) := (fr_isAsked ρ (a1)).bind fun o1 => (if o1.2 = 0 then some (o1.1, 0)
  else (fr_rateNow o1.1 (a1)).bind fun o2 => some (o1.1, o2))
set_option maxRecDepth 100000 in
set_option maxHeartbeats 4000000 in
theorem br_rateOf {p : Program} {l : Launch} {e : Env} {s : State} {m : MethodId} {args : Array Value} {below : List Frame} {meth : Method} {c : Code} {D : va_G} {dA : Nat → ClassId} {A : Nat → Prop} {ad : Nat → Nat} {o : Rho × Int32} (X : zc p l s m args meth c cX12_rateOf RX12 D dA A) (hml : c.maxLocals = 2) (hr : meth.sig.returnType = (some .int)) {ρ : Rho} {a1 : Int32} (h : fr_rateOf ρ a1 = some o) : zz p l e ({ frames := 80, cells := 0, slots := 0, locals := 800 } : Room) s m args below meth c A (rw D dA A ρ ad) 0 0 (MQ below (va_Qi (fun r (_ : Unit) => r = o.2 ∧ True) (fun _ t => rw D dA A o.1 ad t.heap) A) args s 0 0 A) 0 [(0, .ref (ad 40)), (1, .int (a1))] [] [] := by
  unfold fr_rateOf at h
  refine z_aload_n X dX12_rateOf_0 rfl rfl ?_
  refine z_iload_n X dX12_rateOf_1 rfl rfl ?_
  obtain ⟨o1, co1, h⟩ := zb2 h
  refine z_callVi (As := [.int (a1)]) (rest := []) (nA := 1) (r0 := o1.2) (pu := fun (_ : Unit) => True) (G1 := fun _ => rw D dA A o1.1 ad) X (cr_isAsked l X.2.2.2.2.2.2.2.2 X.2.2.2.2.2.2.1 co1) g_1631 g_1633 gs_49 g_15 g_1634 hd_yX12_isAsked ⟨rfl, rfl, Nat.le_of_ble_eq_true rfl, Nat.le_of_ble_eq_true rfl⟩ rfl (fun _ hG => rw_recv X hG) rfl (Nat.le_of_ble_eq_true rfl) dX12_rateOf_2 ⟨Nat.le_refl _, Nat.le_refl _⟩ (fun _ _ => ?_)
  refine z_if_eq (tgt := 16) X dX12_rateOf_5 (by decide) (fun q => ?_) (fun q => ?_)
  · have h := zp q h
    refine z_iconst (v := 0) X dX12_rateOf_16 (by decide) ?_
    obtain rfl := Option.some.inj h
    exact z_iret X hr rfl (fun t hG hF _ => ⟨⟨_, (), rfl, ⟨rfl, trivial⟩, hG⟩, hF⟩) dX12_rateOf_17
  · have h := zn q h
    refine z_aload_n X dX12_rateOf_8 rfl rfl ?_
    refine z_iload_n X dX12_rateOf_9 rfl rfl ?_
    obtain ⟨o2, co2, h⟩ := zb2 h
    refine z_callVi (As := [.int (a1)]) (rest := []) (nA := 1) (r0 := o2) (pu := fun (_ : Unit) => True) (G1 := fun _ => rw D dA A o1.1 ad) X (cr_rateNow l X.2.2.2.2.2.2.2.2 X.2.2.2.2.2.2.1 co2) g_1555 g_1557 gs_37 g_15 g_1558 hd_yX12_rateNow ⟨rfl, rfl, Nat.le_of_ble_eq_true rfl, Nat.le_of_ble_eq_true rfl⟩ rfl (fun _ hG => rw_recv X hG) rfl (Nat.le_of_ble_eq_true rfl) dX12_rateOf_10 ⟨Nat.le_refl _, Nat.le_refl _⟩ (fun _ _ => ?_)
    refine z_goto (tgt := 17) X dX12_rateOf_13 (by decide) ?_
    obtain rfl := Option.some.inj h
    exact z_iret X hr rfl (fun t hG hF _ => ⟨⟨_, (), rfl, ⟨rfl, trivial⟩, hG⟩, hF⟩) dX12_rateOf_17
theorem cr_rateOf (l : Launch) {D : va_G} {dA : Nat → ClassId} {A : Nat → Prop} {n : Nat} {ad : Nat → Nat} (hst : l.stackTraces = false) (hA : ∀ q, n ≤ q → A q) {ρ : Rho} {a1 : Int32} {o : Rho × Int32} (h : fr_rateOf ρ a1 = some o) : Met l yX12_rateOf (.code yX12_rateOf cX12_rateOf 2 (some .int) :: gT) ({ frames := 80, cells := 0, slots := 0, locals := 800 } : Room) (va_Pc [.ref (ad 40), .int a1] (zB D dA A n (rw D dA A ρ ad))) (va_Qi (fun r (_ : Unit) => r = o.2 ∧ True) (fun _ t => rw D dA A o.1 ad t.heap) A) 0 0 A :=
  z_met (by decide) hA hst (Nat.le_of_ble_eq_true rfl) rfl rfl (fun p e s m below meth c X hml hr _ => br_rateOf X hml hr h)
-- legOf(I)I
def fr_legOf (ρ : Rho) (a1 : Int32) : Option (Rho × Int32) := (fr_isAsked ρ (a1)).bind fun o1 => (if o1.2 = 0 then some (o1.1, 0)
  else if a1 < 0 ∨ 10 ≤ (a1).toNatClampNeg then none else some (o1.1, (o1.1 9 (a1).toNatClampNeg)))
set_option maxRecDepth 100000 in
set_option maxHeartbeats 4000000 in
theorem br_legOf {p : Program} {l : Launch} {e : Env} {s : State} {m : MethodId} {args : Array Value} {below : List Frame} {meth : Method} {c : Code} {D : va_G} {dA : Nat → ClassId} {A : Nat → Prop} {ad : Nat → Nat} {o : Rho × Int32} (X : zc p l s m args meth c cX12_legOf RX12 D dA A) (hml : c.maxLocals = 2) (hr : meth.sig.returnType = (some .int)) {ρ : Rho} {a1 : Int32} (h : fr_legOf ρ a1 = some o) : zz p l e ({ frames := 80, cells := 0, slots := 0, locals := 800 } : Room) s m args below meth c A (rw D dA A ρ ad) 0 0 (MQ below (va_Qi (fun r (_ : Unit) => r = o.2 ∧ True) (fun _ t => rw D dA A o.1 ad t.heap) A) args s 0 0 A) 0 [(0, .ref (ad 40)), (1, .int (a1))] [] [] := by
  unfold fr_legOf at h
  refine z_aload_n X dX12_legOf_0 rfl rfl ?_
  refine z_iload_n X dX12_legOf_1 rfl rfl ?_
  obtain ⟨o1, co1, h⟩ := zb2 h
  refine z_callVi (As := [.int (a1)]) (rest := []) (nA := 1) (r0 := o1.2) (pu := fun (_ : Unit) => True) (G1 := fun _ => rw D dA A o1.1 ad) X (cr_isAsked l X.2.2.2.2.2.2.2.2 X.2.2.2.2.2.2.1 co1) g_1631 g_1633 gs_49 g_15 g_1634 hd_yX12_isAsked ⟨rfl, rfl, Nat.le_of_ble_eq_true rfl, Nat.le_of_ble_eq_true rfl⟩ rfl (fun _ hG => rw_recv X hG) rfl (Nat.le_of_ble_eq_true rfl) dX12_legOf_2 ⟨Nat.le_refl _, Nat.le_refl _⟩ (fun _ _ => ?_)
  refine z_if_eq (tgt := 17) X dX12_legOf_5 (by decide) (fun q => ?_) (fun q => ?_)
  · have h := zp q h
    refine z_iconst (v := 0) X dX12_legOf_17 (by decide) ?_
    obtain rfl := Option.some.inj h
    exact z_iret X hr rfl (fun t hG hF _ => ⟨⟨_, (), rfl, ⟨rfl, trivial⟩, hG⟩, hF⟩) dX12_legOf_18
  · have h := zn q h
    refine z_aload_n X dX12_legOf_8 rfl rfl ?_
    refine r_getA X 9 rfl rfl g_1315 dX12_legOf_9 ?_
    refine z_iload_n X dX12_legOf_12 rfl rfl ?_
    obtain ⟨q2, h⟩ := zg h
    refine r_ald X 9 rfl rfl q2 dX12_legOf_13 ?_
    refine z_goto (tgt := 18) X dX12_legOf_14 (by decide) ?_
    obtain rfl := Option.some.inj h
    exact z_iret X hr rfl (fun t hG hF _ => ⟨⟨_, (), rfl, ⟨rfl, trivial⟩, hG⟩, hF⟩) dX12_legOf_18
theorem cr_legOf (l : Launch) {D : va_G} {dA : Nat → ClassId} {A : Nat → Prop} {n : Nat} {ad : Nat → Nat} (hst : l.stackTraces = false) (hA : ∀ q, n ≤ q → A q) {ρ : Rho} {a1 : Int32} {o : Rho × Int32} (h : fr_legOf ρ a1 = some o) : Met l yX12_legOf (.code yX12_legOf cX12_legOf 2 (some .int) :: gT) ({ frames := 80, cells := 0, slots := 0, locals := 800 } : Room) (va_Pc [.ref (ad 40), .int a1] (zB D dA A n (rw D dA A ρ ad))) (va_Qi (fun r (_ : Unit) => r = o.2 ∧ True) (fun _ t => rw D dA A o.1 ad t.heap) A) 0 0 A :=
  z_met (by decide) hA hst (Nat.le_of_ble_eq_true rfl) rfl rfl (fun p e s m below meth c X hml hr _ => br_legOf X hml hr h)
-- sliceOf(I)I
def fr_sliceOf (ρ : Rho) (a1 : Int32) : Option (Rho × Int32) := (fr_isAsked ρ (a1)).bind fun o1 => (if o1.2 = 0 then some (o1.1, 0)
  else if a1 < 0 ∨ 10 ≤ (a1).toNatClampNeg then none else (if (o1.1 9 (a1).toNatClampNeg) = (-1) then some (o1.1, 0)
  else if a1 < 0 ∨ 10 ≤ (a1).toNatClampNeg then none else if (o1.1 9 (a1).toNatClampNeg) < 0 ∨ 80 ≤ ((o1.1 9 (a1).toNatClampNeg)).toNatClampNeg then none else some (o1.1, (o1.1 34 ((o1.1 9 (a1).toNatClampNeg)).toNatClampNeg))))
set_option maxRecDepth 100000 in
set_option maxHeartbeats 4000000 in
theorem br_sliceOf {p : Program} {l : Launch} {e : Env} {s : State} {m : MethodId} {args : Array Value} {below : List Frame} {meth : Method} {c : Code} {D : va_G} {dA : Nat → ClassId} {A : Nat → Prop} {ad : Nat → Nat} {o : Rho × Int32} (X : zc p l s m args meth c cX12_sliceOf RX12 D dA A) (hml : c.maxLocals = 2) (hr : meth.sig.returnType = (some .int)) {ρ : Rho} {a1 : Int32} (h : fr_sliceOf ρ a1 = some o) : zz p l e ({ frames := 80, cells := 0, slots := 0, locals := 800 } : Room) s m args below meth c A (rw D dA A ρ ad) 0 0 (MQ below (va_Qi (fun r (_ : Unit) => r = o.2 ∧ True) (fun _ t => rw D dA A o.1 ad t.heap) A) args s 0 0 A) 0 [(0, .ref (ad 40)), (1, .int (a1))] [] [] := by
  unfold fr_sliceOf at h
  refine z_aload_n X dX12_sliceOf_0 rfl rfl ?_
  refine z_iload_n X dX12_sliceOf_1 rfl rfl ?_
  obtain ⟨o1, co1, h⟩ := zb2 h
  refine z_callVi (As := [.int (a1)]) (rest := []) (nA := 1) (r0 := o1.2) (pu := fun (_ : Unit) => True) (G1 := fun _ => rw D dA A o1.1 ad) X (cr_isAsked l X.2.2.2.2.2.2.2.2 X.2.2.2.2.2.2.1 co1) g_1631 g_1633 gs_49 g_15 g_1634 hd_yX12_isAsked ⟨rfl, rfl, Nat.le_of_ble_eq_true rfl, Nat.le_of_ble_eq_true rfl⟩ rfl (fun _ hG => rw_recv X hG) rfl (Nat.le_of_ble_eq_true rfl) dX12_sliceOf_2 ⟨Nat.le_refl _, Nat.le_refl _⟩ (fun _ _ => ?_)
  refine z_if_eq (tgt := 32) X dX12_sliceOf_5 (by decide) (fun q => ?_) (fun q => ?_)
  · have h := zp q h
    refine z_iconst (v := 0) X dX12_sliceOf_32 (by decide) ?_
    obtain rfl := Option.some.inj h
    exact z_iret X hr rfl (fun t hG hF _ => ⟨⟨_, (), rfl, ⟨rfl, trivial⟩, hG⟩, hF⟩) dX12_sliceOf_33
  · have h := zn q h
    refine z_aload_n X dX12_sliceOf_8 rfl rfl ?_
    refine r_getA X 9 rfl rfl g_1315 dX12_sliceOf_9 ?_
    refine z_iload_n X dX12_sliceOf_12 rfl rfl ?_
    obtain ⟨q2, h⟩ := zg h
    refine r_ald X 9 rfl rfl q2 dX12_sliceOf_13 ?_
    refine z_iconst (v := (-1)) X dX12_sliceOf_14 (by decide) ?_
    refine z_icmp_eq (tgt := 32) X dX12_sliceOf_15 (by decide) (fun q => ?_) (fun q => ?_)
    · have h := zp q h
      refine z_iconst (v := 0) X dX12_sliceOf_32 (by decide) ?_
      obtain rfl := Option.some.inj h
      exact z_iret X hr rfl (fun t hG hF _ => ⟨⟨_, (), rfl, ⟨rfl, trivial⟩, hG⟩, hF⟩) dX12_sliceOf_33
    · have h := zn q h
      refine z_aload_n X dX12_sliceOf_18 rfl rfl ?_
      refine r_getA X 34 rfl rfl g_1340 dX12_sliceOf_19 ?_
      refine z_aload_n X dX12_sliceOf_22 rfl rfl ?_
      refine r_getA X 9 rfl rfl g_1315 dX12_sliceOf_23 ?_
      refine z_iload_n X dX12_sliceOf_26 rfl rfl ?_
      obtain ⟨q3, h⟩ := zg h
      refine r_ald X 9 rfl rfl q3 dX12_sliceOf_27 ?_
      obtain ⟨q4, h⟩ := zg h
      refine r_ald X 34 rfl rfl q4 dX12_sliceOf_28 ?_
      refine z_goto (tgt := 33) X dX12_sliceOf_29 (by decide) ?_
      obtain rfl := Option.some.inj h
      exact z_iret X hr rfl (fun t hG hF _ => ⟨⟨_, (), rfl, ⟨rfl, trivial⟩, hG⟩, hF⟩) dX12_sliceOf_33
theorem cr_sliceOf (l : Launch) {D : va_G} {dA : Nat → ClassId} {A : Nat → Prop} {n : Nat} {ad : Nat → Nat} (hst : l.stackTraces = false) (hA : ∀ q, n ≤ q → A q) {ρ : Rho} {a1 : Int32} {o : Rho × Int32} (h : fr_sliceOf ρ a1 = some o) : Met l yX12_sliceOf (.code yX12_sliceOf cX12_sliceOf 2 (some .int) :: gT) ({ frames := 80, cells := 0, slots := 0, locals := 800 } : Room) (va_Pc [.ref (ad 40), .int a1] (zB D dA A n (rw D dA A ρ ad))) (va_Qi (fun r (_ : Unit) => r = o.2 ∧ True) (fun _ t => rw D dA A o.1 ad t.heap) A) 0 0 A :=
  z_met (by decide) hA hst (Nat.le_of_ble_eq_true rfl) rfl rfl (fun p e s m below meth c X hml hr _ => br_sliceOf X hml hr h)
-- parties(I)I
def fr_parties_14 (ρ : Rho) (v1 : Int32) (s1 : Int32) : Option (Rho × Int32) := (fr_can ρ (s1)).bind fun o1 => (if o1.2 = 0 then some (o1.1, 0)
  else (fr_partiesOf o1.1 (v1)).bind fun o2 => some (o1.1, o2))
set_option maxRecDepth 100000 in
set_option maxHeartbeats 4000000 in
theorem br_parties_14 {p : Program} {l : Launch} {e : Env} {s : State} {m : MethodId} {args : Array Value} {below : List Frame} {meth : Method} {c : Code} {D : va_G} {dA : Nat → ClassId} {A : Nat → Prop} {ad : Nat → Nat} {o : Rho × Int32} (X : zc p l s m args meth c cX12_parties RX12 D dA A) (hml : c.maxLocals = 2) (hr : meth.sig.returnType = (some .int)) {ρ : Rho} {v1 : Int32} {s1 : Int32} (h : fr_parties_14 ρ v1 s1 = some o) : zz p l e ({ frames := 60, cells := 0, slots := 0, locals := 600 } : Room) s m args below meth c A (rw D dA A ρ ad) 0 0 (MQ below (va_Qi (fun r (_ : Unit) => r = o.2 ∧ True) (fun _ t => rw D dA A o.1 ad t.heap) A) args s 0 0 A) 14 [(0, .ref (ad 40)), (1, .int (v1))] [] [.int (s1), .ref (ad 40)] := by
  unfold fr_parties_14 at h
  obtain ⟨o1, co1, h⟩ := zb2 h
  refine z_callVi (As := [.int (s1)]) (rest := []) (nA := 1) (r0 := o1.2) (pu := fun (_ : Unit) => True) (G1 := fun _ => rw D dA A o1.1 ad) X (cr_can l X.2.2.2.2.2.2.2.2 X.2.2.2.2.2.2.1 co1) g_1445 g_1447 gs_25 g_15 g_1448 hd_yX12_can ⟨rfl, rfl, Nat.le_of_ble_eq_true rfl, Nat.le_of_ble_eq_true rfl⟩ rfl (fun _ hG => rw_recv X hG) rfl (Nat.le_of_ble_eq_true rfl) dX12_parties_14 ⟨Nat.le_refl _, Nat.le_refl _⟩ (fun _ _ => ?_)
  refine z_if_eq (tgt := 28) X dX12_parties_17 (by decide) (fun q => ?_) (fun q => ?_)
  · have h := zp q h
    refine z_iconst (v := 0) X dX12_parties_28 (by decide) ?_
    obtain rfl := Option.some.inj h
    exact z_iret X hr rfl (fun t hG hF _ => ⟨⟨_, (), rfl, ⟨rfl, trivial⟩, hG⟩, hF⟩) dX12_parties_29
  · have h := zn q h
    refine z_aload_n X dX12_parties_20 rfl rfl ?_
    refine z_iload_n X dX12_parties_21 rfl rfl ?_
    obtain ⟨o2, co2, h⟩ := zb2 h
    refine z_callVi (As := [.int (v1)]) (rest := []) (nA := 1) (r0 := o2) (pu := fun (_ : Unit) => True) (G1 := fun _ => rw D dA A o1.1 ad) X (cr_partiesOf l X.2.2.2.2.2.2.2.2 X.2.2.2.2.2.2.1 co2) g_1587 g_1589 gs_45 g_15 g_1590 hd_yX12_partiesOf ⟨rfl, rfl, Nat.le_of_ble_eq_true rfl, Nat.le_of_ble_eq_true rfl⟩ rfl (fun _ hG => rw_recv X hG) rfl (Nat.le_of_ble_eq_true rfl) dX12_parties_22 ⟨Nat.le_refl _, Nat.le_refl _⟩ (fun _ _ => ?_)
    refine z_goto (tgt := 29) X dX12_parties_25 (by decide) ?_
    obtain rfl := Option.some.inj h
    exact z_iret X hr rfl (fun t hG hF _ => ⟨⟨_, (), rfl, ⟨rfl, trivial⟩, hG⟩, hF⟩) dX12_parties_29
def fr_parties (ρ : Rho) (a1 : Int32) : Option (Rho × Int32) := (fr_isCall ρ (a1)).bind fun o1 => (if o1 = 0 then fr_parties_14 ρ a1 1
  else fr_parties_14 ρ a1 0)
set_option maxRecDepth 100000 in
set_option maxHeartbeats 4000000 in
theorem br_parties {p : Program} {l : Launch} {e : Env} {s : State} {m : MethodId} {args : Array Value} {below : List Frame} {meth : Method} {c : Code} {D : va_G} {dA : Nat → ClassId} {A : Nat → Prop} {ad : Nat → Nat} {o : Rho × Int32} (X : zc p l s m args meth c cX12_parties RX12 D dA A) (hml : c.maxLocals = 2) (hr : meth.sig.returnType = (some .int)) {ρ : Rho} {a1 : Int32} (h : fr_parties ρ a1 = some o) : zz p l e ({ frames := 60, cells := 0, slots := 0, locals := 600 } : Room) s m args below meth c A (rw D dA A ρ ad) 0 0 (MQ below (va_Qi (fun r (_ : Unit) => r = o.2 ∧ True) (fun _ t => rw D dA A o.1 ad t.heap) A) args s 0 0 A) 0 [(0, .ref (ad 40)), (1, .int (a1))] [] [] := by
  unfold fr_parties at h
  refine z_aload_n X dX12_parties_0 rfl rfl ?_
  refine z_aload_n X dX12_parties_1 rfl rfl ?_
  refine z_iload_n X dX12_parties_2 rfl rfl ?_
  obtain ⟨o1, co1, h⟩ := zb2 h
  refine z_callVi (As := [.int (a1)]) (rest := [.ref (ad 40)]) (nA := 1) (r0 := o1) (pu := fun (_ : Unit) => True) (G1 := fun _ => rw D dA A ρ ad) X (cr_isCall l X.2.2.2.2.2.2.2.2 X.2.2.2.2.2.2.1 co1) g_1595 g_1597 gs_46 g_15 g_1598 hd_yX12_isCall ⟨rfl, rfl, Nat.le_of_ble_eq_true rfl, Nat.le_of_ble_eq_true rfl⟩ rfl (fun _ hG => rw_recv X hG) rfl (Nat.le_of_ble_eq_true rfl) dX12_parties_3 ⟨Nat.le_refl _, Nat.le_refl _⟩ (fun _ _ => ?_)
  refine z_if_eq (tgt := 13) X dX12_parties_6 (by decide) (fun q => ?_) (fun q => ?_)
  · have h := zp q h
    refine z_iconst (v := 1) X dX12_parties_13 (by decide) ?_
    refine zz.pick (lo' := [(0, .ref (ad 40)), (1, .int (a1))]) [0, 1] rfl ?_
    exact br_parties_14 X hml hr h
  · have h := zn q h
    refine z_iconst (v := 0) X dX12_parties_9 (by decide) ?_
    refine z_goto (tgt := 14) X dX12_parties_10 (by decide) ?_
    refine zz.pick (lo' := [(0, .ref (ad 40)), (1, .int (a1))]) [0, 1] rfl ?_
    exact br_parties_14 X hml hr h
theorem cr_parties (l : Launch) {D : va_G} {dA : Nat → ClassId} {A : Nat → Prop} {n : Nat} {ad : Nat → Nat} (hst : l.stackTraces = false) (hA : ∀ q, n ≤ q → A q) {ρ : Rho} {a1 : Int32} {o : Rho × Int32} (h : fr_parties ρ a1 = some o) : Met l yX12_parties (.code yX12_parties cX12_parties 2 (some .int) :: gT) ({ frames := 60, cells := 0, slots := 0, locals := 600 } : Room) (va_Pc [.ref (ad 40), .int a1] (zB D dA A n (rw D dA A ρ ad))) (va_Qi (fun r (_ : Unit) => r = o.2 ∧ True) (fun _ t => rw D dA A o.1 ad t.heap) A) 0 0 A :=
  z_met (by decide) hA hst (Nat.le_of_ble_eq_true rfl) rfl rfl (fun p e s m below meth c X hml hr _ => br_parties X hml hr h)
-- legs()I
def fr_legs (ρ : Rho)  : Option (Rho × Int32) := (some (cs ρ 39 0 (0))).bind fun ρ1 => some (ρ1, (ρ1 22 0))
set_option maxRecDepth 100000 in
set_option maxHeartbeats 4000000 in
theorem br_legs {p : Program} {l : Launch} {e : Env} {s : State} {m : MethodId} {args : Array Value} {below : List Frame} {meth : Method} {c : Code} {D : va_G} {dA : Nat → ClassId} {A : Nat → Prop} {ad : Nat → Nat} {o : Rho × Int32} (X : zc p l s m args meth c cX12_legs RX12 D dA A) (hml : c.maxLocals = 1) (hr : meth.sig.returnType = (some .int)) {ρ : Rho}  (h : fr_legs ρ = some o) : zz p l e ({ frames := 20, cells := 0, slots := 0, locals := 200 } : Room) s m args below meth c A (rw D dA A ρ ad) 0 0 (MQ below (va_Qi (fun r (_ : Unit) => r = o.2 ∧ True) (fun _ t => rw D dA A o.1 ad t.heap) A) args s 0 0 A) 0 [(0, .ref (ad 40))] [] [] := by
  unfold fr_legs at h
  refine z_aload_n X dX12_legs_0 rfl rfl ?_
  refine z_iconst (v := 0) X dX12_legs_1 (by decide) ?_
  obtain ⟨ρ1, eρ1, h⟩ := zb h
  refine r_putS X 39 rfl rfl rfl g_1345 eρ1 dX12_legs_2 ?_
  refine z_aload_n X dX12_legs_5 rfl rfl ?_
  refine r_getS X 22 rfl rfl g_1328 dX12_legs_6 ?_
  obtain rfl := Option.some.inj h
  exact z_iret X hr rfl (fun t hG hF _ => ⟨⟨_, (), rfl, ⟨rfl, trivial⟩, hG⟩, hF⟩) dX12_legs_9
theorem cr_legs (l : Launch) {D : va_G} {dA : Nat → ClassId} {A : Nat → Prop} {n : Nat} {ad : Nat → Nat} (hst : l.stackTraces = false) (hA : ∀ q, n ≤ q → A q) {ρ : Rho}  {o : Rho × Int32} (h : fr_legs ρ = some o) : Met l yX12_legs (.code yX12_legs cX12_legs 1 (some .int) :: gT) ({ frames := 20, cells := 0, slots := 0, locals := 200 } : Room) (va_Pc [.ref (ad 40)] (zB D dA A n (rw D dA A ρ ad))) (va_Qi (fun r (_ : Unit) => r = o.2 ∧ True) (fun _ t => rw D dA A o.1 ad t.heap) A) 0 0 A :=
  z_met (by decide) hA hst (Nat.le_of_ble_eq_true rfl) rfl rfl (fun p e s m below meth c X hml hr _ => br_legs X hml hr h)
-- isAskedOf(I)Z
def fr_isAskedOf (ρ : Rho) (a1 : Int32) : Option (Rho × Int32) := (fr_isLeg ρ (a1)).bind fun o1 => (if o1 = 0 then (fr_can ρ (1)).bind fun o2 => if o2.2 = 0 ∨ o2.2 = 1 then some (o2.1, o2.2) else none
  else (fr_can ρ (0)).bind fun o3 => if o3.2 = 0 ∨ o3.2 = 1 then some (o3.1, o3.2) else none)
set_option maxRecDepth 100000 in
set_option maxHeartbeats 4000000 in
theorem br_isAskedOf {p : Program} {l : Launch} {e : Env} {s : State} {m : MethodId} {args : Array Value} {below : List Frame} {meth : Method} {c : Code} {D : va_G} {dA : Nat → ClassId} {A : Nat → Prop} {ad : Nat → Nat} {o : Rho × Int32} (X : zc p l s m args meth c cX12_isAskedOf RX12 D dA A) (hml : c.maxLocals = 2) (hr : meth.sig.returnType = (some .boolean)) {ρ : Rho} {a1 : Int32} (h : fr_isAskedOf ρ a1 = some o) : zz p l e ({ frames := 60, cells := 0, slots := 0, locals := 600 } : Room) s m args below meth c A (rw D dA A ρ ad) 0 0 (MQ below (va_Qi (fun r (_ : Unit) => r = o.2 ∧ True) (fun _ t => rw D dA A o.1 ad t.heap) A) args s 0 0 A) 0 [(0, .ref (ad 40)), (1, .int (a1))] [] [] := by
  unfold fr_isAskedOf at h
  refine z_aload_n X dX12_isAskedOf_0 rfl rfl ?_
  refine z_aload_n X dX12_isAskedOf_1 rfl rfl ?_
  refine z_iload_n X dX12_isAskedOf_2 rfl rfl ?_
  obtain ⟨o1, co1, h⟩ := zb2 h
  refine z_callVi (As := [.int (a1)]) (rest := [.ref (ad 40)]) (nA := 1) (r0 := o1) (pu := fun (_ : Unit) => True) (G1 := fun _ => rw D dA A ρ ad) X (cr_isLeg l X.2.2.2.2.2.2.2.2 X.2.2.2.2.2.2.1 co1) g_1663 g_1665 gs_51 g_15 g_1666 hd_yX12_isLeg ⟨rfl, rfl, Nat.le_of_ble_eq_true rfl, Nat.le_of_ble_eq_true rfl⟩ rfl (fun _ hG => rw_recv X hG) rfl (Nat.le_of_ble_eq_true rfl) dX12_isAskedOf_3 ⟨Nat.le_refl _, Nat.le_refl _⟩ (fun _ _ => ?_)
  refine z_if_eq (tgt := 13) X dX12_isAskedOf_6 (by decide) (fun q => ?_) (fun q => ?_)
  · have h := zp q h
    refine z_iconst (v := 1) X dX12_isAskedOf_13 (by decide) ?_
    obtain ⟨o2, co2, h⟩ := zb2 h
    refine z_callVi (As := [.int (1)]) (rest := []) (nA := 1) (r0 := o2.2) (pu := fun (_ : Unit) => True) (G1 := fun _ => rw D dA A o2.1 ad) X (cr_can l X.2.2.2.2.2.2.2.2 X.2.2.2.2.2.2.1 co2) g_1445 g_1447 gs_25 g_15 g_1448 hd_yX12_can ⟨rfl, rfl, Nat.le_of_ble_eq_true rfl, Nat.le_of_ble_eq_true rfl⟩ rfl (fun _ hG => rw_recv X hG) rfl (Nat.le_of_ble_eq_true rfl) dX12_isAskedOf_14 ⟨Nat.le_refl _, Nat.le_refl _⟩ (fun _ _ => ?_)
    obtain ⟨q, h⟩ := zgp h
    obtain rfl := Option.some.inj h
    exact z_iret X hr (z_nb q) (fun t hG hF _ => ⟨⟨_, (), rfl, ⟨rfl, trivial⟩, hG⟩, hF⟩) dX12_isAskedOf_17
  · have h := zn q h
    refine z_iconst (v := 0) X dX12_isAskedOf_9 (by decide) ?_
    refine z_goto (tgt := 14) X dX12_isAskedOf_10 (by decide) ?_
    obtain ⟨o3, co3, h⟩ := zb2 h
    refine z_callVi (As := [.int (0)]) (rest := []) (nA := 1) (r0 := o3.2) (pu := fun (_ : Unit) => True) (G1 := fun _ => rw D dA A o3.1 ad) X (cr_can l X.2.2.2.2.2.2.2.2 X.2.2.2.2.2.2.1 co3) g_1445 g_1447 gs_25 g_15 g_1448 hd_yX12_can ⟨rfl, rfl, Nat.le_of_ble_eq_true rfl, Nat.le_of_ble_eq_true rfl⟩ rfl (fun _ hG => rw_recv X hG) rfl (Nat.le_of_ble_eq_true rfl) dX12_isAskedOf_14 ⟨Nat.le_refl _, Nat.le_refl _⟩ (fun _ _ => ?_)
    obtain ⟨q, h⟩ := zgp h
    obtain rfl := Option.some.inj h
    exact z_iret X hr (z_nb q) (fun t hG hF _ => ⟨⟨_, (), rfl, ⟨rfl, trivial⟩, hG⟩, hF⟩) dX12_isAskedOf_17
theorem cr_isAskedOf (l : Launch) {D : va_G} {dA : Nat → ClassId} {A : Nat → Prop} {n : Nat} {ad : Nat → Nat} (hst : l.stackTraces = false) (hA : ∀ q, n ≤ q → A q) {ρ : Rho} {a1 : Int32} {o : Rho × Int32} (h : fr_isAskedOf ρ a1 = some o) : Met l yX12_isAskedOf (.code yX12_isAskedOf cX12_isAskedOf 2 (some .boolean) :: gT) ({ frames := 60, cells := 0, slots := 0, locals := 600 } : Room) (va_Pc [.ref (ad 40), .int a1] (zB D dA A n (rw D dA A ρ ad))) (va_Qi (fun r (_ : Unit) => r = o.2 ∧ True) (fun _ t => rw D dA A o.1 ad t.heap) A) 0 0 A :=
  z_met (by decide) hA hst (Nat.le_of_ble_eq_true rfl) rfl rfl (fun p e s m below meth c X hml hr _ => br_isAskedOf X hml hr h)
-- stateOf(I)I
def fr_stateOf (ρ : Rho) (a1 : Int32) : Option (Rho × Int32) := (fr_isAskedOf ρ (a1)).bind fun o1 => (if o1.2 = 0 then some (o1.1, 0)
  else if a1 < 0 ∨ 80 ≤ (a1).toNatClampNeg then none else some (o1.1, (o1.1 26 (a1).toNatClampNeg)))
set_option maxRecDepth 100000 in
set_option maxHeartbeats 4000000 in
theorem br_stateOf {p : Program} {l : Launch} {e : Env} {s : State} {m : MethodId} {args : Array Value} {below : List Frame} {meth : Method} {c : Code} {D : va_G} {dA : Nat → ClassId} {A : Nat → Prop} {ad : Nat → Nat} {o : Rho × Int32} (X : zc p l s m args meth c cX12_stateOf RX12 D dA A) (hml : c.maxLocals = 2) (hr : meth.sig.returnType = (some .int)) {ρ : Rho} {a1 : Int32} (h : fr_stateOf ρ a1 = some o) : zz p l e ({ frames := 80, cells := 0, slots := 0, locals := 800 } : Room) s m args below meth c A (rw D dA A ρ ad) 0 0 (MQ below (va_Qi (fun r (_ : Unit) => r = o.2 ∧ True) (fun _ t => rw D dA A o.1 ad t.heap) A) args s 0 0 A) 0 [(0, .ref (ad 40)), (1, .int (a1))] [] [] := by
  unfold fr_stateOf at h
  refine z_aload_n X dX12_stateOf_0 rfl rfl ?_
  refine z_iload_n X dX12_stateOf_1 rfl rfl ?_
  obtain ⟨o1, co1, h⟩ := zb2 h
  refine z_callVi (As := [.int (a1)]) (rest := []) (nA := 1) (r0 := o1.2) (pu := fun (_ : Unit) => True) (G1 := fun _ => rw D dA A o1.1 ad) X (cr_isAskedOf l X.2.2.2.2.2.2.2.2 X.2.2.2.2.2.2.1 co1) g_1659 g_1661 gs_50 g_15 g_1662 hd_yX12_isAskedOf ⟨rfl, rfl, Nat.le_of_ble_eq_true rfl, Nat.le_of_ble_eq_true rfl⟩ rfl (fun _ hG => rw_recv X hG) rfl (Nat.le_of_ble_eq_true rfl) dX12_stateOf_2 ⟨Nat.le_refl _, Nat.le_refl _⟩ (fun _ _ => ?_)
  refine z_if_eq (tgt := 17) X dX12_stateOf_5 (by decide) (fun q => ?_) (fun q => ?_)
  · have h := zp q h
    refine z_iconst (v := 0) X dX12_stateOf_17 (by decide) ?_
    obtain rfl := Option.some.inj h
    exact z_iret X hr rfl (fun t hG hF _ => ⟨⟨_, (), rfl, ⟨rfl, trivial⟩, hG⟩, hF⟩) dX12_stateOf_18
  · have h := zn q h
    refine z_aload_n X dX12_stateOf_8 rfl rfl ?_
    refine r_getA X 26 rfl rfl g_1332 dX12_stateOf_9 ?_
    refine z_iload_n X dX12_stateOf_12 rfl rfl ?_
    obtain ⟨q2, h⟩ := zg h
    refine r_ald X 26 rfl rfl q2 dX12_stateOf_13 ?_
    refine z_goto (tgt := 18) X dX12_stateOf_14 (by decide) ?_
    obtain rfl := Option.some.inj h
    exact z_iret X hr rfl (fun t hG hF _ => ⟨⟨_, (), rfl, ⟨rfl, trivial⟩, hG⟩, hF⟩) dX12_stateOf_18
theorem cr_stateOf (l : Launch) {D : va_G} {dA : Nat → ClassId} {A : Nat → Prop} {n : Nat} {ad : Nat → Nat} (hst : l.stackTraces = false) (hA : ∀ q, n ≤ q → A q) {ρ : Rho} {a1 : Int32} {o : Rho × Int32} (h : fr_stateOf ρ a1 = some o) : Met l yX12_stateOf (.code yX12_stateOf cX12_stateOf 2 (some .int) :: gT) ({ frames := 80, cells := 0, slots := 0, locals := 800 } : Room) (va_Pc [.ref (ad 40), .int a1] (zB D dA A n (rw D dA A ρ ad))) (va_Qi (fun r (_ : Unit) => r = o.2 ∧ True) (fun _ t => rw D dA A o.1 ad t.heap) A) 0 0 A :=
  z_met (by decide) hA hst (Nat.le_of_ble_eq_true rfl) rfl rfl (fun p e s m below meth c X hml hr _ => br_stateOf X hml hr h)
-- seconds(I)I
def fr_seconds (ρ : Rho) (a1 : Int32) : Option (Rho × Int32) := (fr_isAskedOf ρ (a1)).bind fun o1 => (if o1.2 = 0 then some (o1.1, 0)
  else if a1 < 0 ∨ 80 ≤ (a1).toNatClampNeg then none else some (o1.1, (o1.1 27 (a1).toNatClampNeg)))
set_option maxRecDepth 100000 in
set_option maxHeartbeats 4000000 in
theorem br_seconds {p : Program} {l : Launch} {e : Env} {s : State} {m : MethodId} {args : Array Value} {below : List Frame} {meth : Method} {c : Code} {D : va_G} {dA : Nat → ClassId} {A : Nat → Prop} {ad : Nat → Nat} {o : Rho × Int32} (X : zc p l s m args meth c cX12_seconds RX12 D dA A) (hml : c.maxLocals = 2) (hr : meth.sig.returnType = (some .int)) {ρ : Rho} {a1 : Int32} (h : fr_seconds ρ a1 = some o) : zz p l e ({ frames := 80, cells := 0, slots := 0, locals := 800 } : Room) s m args below meth c A (rw D dA A ρ ad) 0 0 (MQ below (va_Qi (fun r (_ : Unit) => r = o.2 ∧ True) (fun _ t => rw D dA A o.1 ad t.heap) A) args s 0 0 A) 0 [(0, .ref (ad 40)), (1, .int (a1))] [] [] := by
  unfold fr_seconds at h
  refine z_aload_n X dX12_seconds_0 rfl rfl ?_
  refine z_iload_n X dX12_seconds_1 rfl rfl ?_
  obtain ⟨o1, co1, h⟩ := zb2 h
  refine z_callVi (As := [.int (a1)]) (rest := []) (nA := 1) (r0 := o1.2) (pu := fun (_ : Unit) => True) (G1 := fun _ => rw D dA A o1.1 ad) X (cr_isAskedOf l X.2.2.2.2.2.2.2.2 X.2.2.2.2.2.2.1 co1) g_1659 g_1661 gs_50 g_15 g_1662 hd_yX12_isAskedOf ⟨rfl, rfl, Nat.le_of_ble_eq_true rfl, Nat.le_of_ble_eq_true rfl⟩ rfl (fun _ hG => rw_recv X hG) rfl (Nat.le_of_ble_eq_true rfl) dX12_seconds_2 ⟨Nat.le_refl _, Nat.le_refl _⟩ (fun _ _ => ?_)
  refine z_if_eq (tgt := 17) X dX12_seconds_5 (by decide) (fun q => ?_) (fun q => ?_)
  · have h := zp q h
    refine z_iconst (v := 0) X dX12_seconds_17 (by decide) ?_
    obtain rfl := Option.some.inj h
    exact z_iret X hr rfl (fun t hG hF _ => ⟨⟨_, (), rfl, ⟨rfl, trivial⟩, hG⟩, hF⟩) dX12_seconds_18
  · have h := zn q h
    refine z_aload_n X dX12_seconds_8 rfl rfl ?_
    refine r_getA X 27 rfl rfl g_1333 dX12_seconds_9 ?_
    refine z_iload_n X dX12_seconds_12 rfl rfl ?_
    obtain ⟨q2, h⟩ := zg h
    refine r_ald X 27 rfl rfl q2 dX12_seconds_13 ?_
    refine z_goto (tgt := 18) X dX12_seconds_14 (by decide) ?_
    obtain rfl := Option.some.inj h
    exact z_iret X hr rfl (fun t hG hF _ => ⟨⟨_, (), rfl, ⟨rfl, trivial⟩, hG⟩, hF⟩) dX12_seconds_18
theorem cr_seconds (l : Launch) {D : va_G} {dA : Nat → ClassId} {A : Nat → Prop} {n : Nat} {ad : Nat → Nat} (hst : l.stackTraces = false) (hA : ∀ q, n ≤ q → A q) {ρ : Rho} {a1 : Int32} {o : Rho × Int32} (h : fr_seconds ρ a1 = some o) : Met l yX12_seconds (.code yX12_seconds cX12_seconds 2 (some .int) :: gT) ({ frames := 80, cells := 0, slots := 0, locals := 800 } : Room) (va_Pc [.ref (ad 40), .int a1] (zB D dA A n (rw D dA A ρ ad))) (va_Qi (fun r (_ : Unit) => r = o.2 ∧ True) (fun _ t => rw D dA A o.1 ad t.heap) A) 0 0 A :=
  z_met (by decide) hA hst (Nat.le_of_ble_eq_true rfl) rfl rfl (fun p e s m below meth c X hml hr _ => br_seconds X hml hr h)
-- charged(I)I
def fr_charged (ρ : Rho) (a1 : Int32) : Option (Rho × Int32) := (fr_isAskedOf ρ (a1)).bind fun o1 => (if o1.2 = 0 then some (o1.1, 0)
  else if a1 < 0 ∨ 80 ≤ (a1).toNatClampNeg then none else some (o1.1, (o1.1 28 (a1).toNatClampNeg)))
set_option maxRecDepth 100000 in
set_option maxHeartbeats 4000000 in
theorem br_charged {p : Program} {l : Launch} {e : Env} {s : State} {m : MethodId} {args : Array Value} {below : List Frame} {meth : Method} {c : Code} {D : va_G} {dA : Nat → ClassId} {A : Nat → Prop} {ad : Nat → Nat} {o : Rho × Int32} (X : zc p l s m args meth c cX12_charged RX12 D dA A) (hml : c.maxLocals = 2) (hr : meth.sig.returnType = (some .int)) {ρ : Rho} {a1 : Int32} (h : fr_charged ρ a1 = some o) : zz p l e ({ frames := 80, cells := 0, slots := 0, locals := 800 } : Room) s m args below meth c A (rw D dA A ρ ad) 0 0 (MQ below (va_Qi (fun r (_ : Unit) => r = o.2 ∧ True) (fun _ t => rw D dA A o.1 ad t.heap) A) args s 0 0 A) 0 [(0, .ref (ad 40)), (1, .int (a1))] [] [] := by
  unfold fr_charged at h
  refine z_aload_n X dX12_charged_0 rfl rfl ?_
  refine z_iload_n X dX12_charged_1 rfl rfl ?_
  obtain ⟨o1, co1, h⟩ := zb2 h
  refine z_callVi (As := [.int (a1)]) (rest := []) (nA := 1) (r0 := o1.2) (pu := fun (_ : Unit) => True) (G1 := fun _ => rw D dA A o1.1 ad) X (cr_isAskedOf l X.2.2.2.2.2.2.2.2 X.2.2.2.2.2.2.1 co1) g_1659 g_1661 gs_50 g_15 g_1662 hd_yX12_isAskedOf ⟨rfl, rfl, Nat.le_of_ble_eq_true rfl, Nat.le_of_ble_eq_true rfl⟩ rfl (fun _ hG => rw_recv X hG) rfl (Nat.le_of_ble_eq_true rfl) dX12_charged_2 ⟨Nat.le_refl _, Nat.le_refl _⟩ (fun _ _ => ?_)
  refine z_if_eq (tgt := 17) X dX12_charged_5 (by decide) (fun q => ?_) (fun q => ?_)
  · have h := zp q h
    refine z_iconst (v := 0) X dX12_charged_17 (by decide) ?_
    obtain rfl := Option.some.inj h
    exact z_iret X hr rfl (fun t hG hF _ => ⟨⟨_, (), rfl, ⟨rfl, trivial⟩, hG⟩, hF⟩) dX12_charged_18
  · have h := zn q h
    refine z_aload_n X dX12_charged_8 rfl rfl ?_
    refine r_getA X 28 rfl rfl g_1334 dX12_charged_9 ?_
    refine z_iload_n X dX12_charged_12 rfl rfl ?_
    obtain ⟨q2, h⟩ := zg h
    refine r_ald X 28 rfl rfl q2 dX12_charged_13 ?_
    refine z_goto (tgt := 18) X dX12_charged_14 (by decide) ?_
    obtain rfl := Option.some.inj h
    exact z_iret X hr rfl (fun t hG hF _ => ⟨⟨_, (), rfl, ⟨rfl, trivial⟩, hG⟩, hF⟩) dX12_charged_18
theorem cr_charged (l : Launch) {D : va_G} {dA : Nat → ClassId} {A : Nat → Prop} {n : Nat} {ad : Nat → Nat} (hst : l.stackTraces = false) (hA : ∀ q, n ≤ q → A q) {ρ : Rho} {a1 : Int32} {o : Rho × Int32} (h : fr_charged ρ a1 = some o) : Met l yX12_charged (.code yX12_charged cX12_charged 2 (some .int) :: gT) ({ frames := 80, cells := 0, slots := 0, locals := 800 } : Room) (va_Pc [.ref (ad 40), .int a1] (zB D dA A n (rw D dA A ρ ad))) (va_Qi (fun r (_ : Unit) => r = o.2 ∧ True) (fun _ t => rw D dA A o.1 ad t.heap) A) 0 0 A :=
  z_met (by decide) hA hst (Nat.le_of_ble_eq_true rfl) rfl rfl (fun p e s m below meth c X hml hr _ => br_charged X hml hr h)
-- covered(I)I
def fr_covered (ρ : Rho) (a1 : Int32) : Option (Rho × Int32) := (fr_isAskedOf ρ (a1)).bind fun o1 => (if o1.2 = 0 then some (o1.1, 0)
  else if a1 < 0 ∨ 80 ≤ (a1).toNatClampNeg then none else some (o1.1, (o1.1 29 (a1).toNatClampNeg)))
set_option maxRecDepth 100000 in
set_option maxHeartbeats 4000000 in
theorem br_covered {p : Program} {l : Launch} {e : Env} {s : State} {m : MethodId} {args : Array Value} {below : List Frame} {meth : Method} {c : Code} {D : va_G} {dA : Nat → ClassId} {A : Nat → Prop} {ad : Nat → Nat} {o : Rho × Int32} (X : zc p l s m args meth c cX12_covered RX12 D dA A) (hml : c.maxLocals = 2) (hr : meth.sig.returnType = (some .int)) {ρ : Rho} {a1 : Int32} (h : fr_covered ρ a1 = some o) : zz p l e ({ frames := 80, cells := 0, slots := 0, locals := 800 } : Room) s m args below meth c A (rw D dA A ρ ad) 0 0 (MQ below (va_Qi (fun r (_ : Unit) => r = o.2 ∧ True) (fun _ t => rw D dA A o.1 ad t.heap) A) args s 0 0 A) 0 [(0, .ref (ad 40)), (1, .int (a1))] [] [] := by
  unfold fr_covered at h
  refine z_aload_n X dX12_covered_0 rfl rfl ?_
  refine z_iload_n X dX12_covered_1 rfl rfl ?_
  obtain ⟨o1, co1, h⟩ := zb2 h
  refine z_callVi (As := [.int (a1)]) (rest := []) (nA := 1) (r0 := o1.2) (pu := fun (_ : Unit) => True) (G1 := fun _ => rw D dA A o1.1 ad) X (cr_isAskedOf l X.2.2.2.2.2.2.2.2 X.2.2.2.2.2.2.1 co1) g_1659 g_1661 gs_50 g_15 g_1662 hd_yX12_isAskedOf ⟨rfl, rfl, Nat.le_of_ble_eq_true rfl, Nat.le_of_ble_eq_true rfl⟩ rfl (fun _ hG => rw_recv X hG) rfl (Nat.le_of_ble_eq_true rfl) dX12_covered_2 ⟨Nat.le_refl _, Nat.le_refl _⟩ (fun _ _ => ?_)
  refine z_if_eq (tgt := 17) X dX12_covered_5 (by decide) (fun q => ?_) (fun q => ?_)
  · have h := zp q h
    refine z_iconst (v := 0) X dX12_covered_17 (by decide) ?_
    obtain rfl := Option.some.inj h
    exact z_iret X hr rfl (fun t hG hF _ => ⟨⟨_, (), rfl, ⟨rfl, trivial⟩, hG⟩, hF⟩) dX12_covered_18
  · have h := zn q h
    refine z_aload_n X dX12_covered_8 rfl rfl ?_
    refine r_getA X 29 rfl rfl g_1335 dX12_covered_9 ?_
    refine z_iload_n X dX12_covered_12 rfl rfl ?_
    obtain ⟨q2, h⟩ := zg h
    refine r_ald X 29 rfl rfl q2 dX12_covered_13 ?_
    refine z_goto (tgt := 18) X dX12_covered_14 (by decide) ?_
    obtain rfl := Option.some.inj h
    exact z_iret X hr rfl (fun t hG hF _ => ⟨⟨_, (), rfl, ⟨rfl, trivial⟩, hG⟩, hF⟩) dX12_covered_18
theorem cr_covered (l : Launch) {D : va_G} {dA : Nat → ClassId} {A : Nat → Prop} {n : Nat} {ad : Nat → Nat} (hst : l.stackTraces = false) (hA : ∀ q, n ≤ q → A q) {ρ : Rho} {a1 : Int32} {o : Rho × Int32} (h : fr_covered ρ a1 = some o) : Met l yX12_covered (.code yX12_covered cX12_covered 2 (some .int) :: gT) ({ frames := 80, cells := 0, slots := 0, locals := 800 } : Room) (va_Pc [.ref (ad 40), .int a1] (zB D dA A n (rw D dA A ρ ad))) (va_Qi (fun r (_ : Unit) => r = o.2 ∧ True) (fun _ t => rw D dA A o.1 ad t.heap) A) 0 0 A :=
  z_met (by decide) hA hst (Nat.le_of_ble_eq_true rfl) rfl rfl (fun p e s m below meth c X hml hr _ => br_covered X hml hr h)
-- ratedByEvents(I)I
def fr_ratedByEvents (ρ : Rho) (a1 : Int32) : Option (Rho × Int32) := (fr_isAskedOf ρ (a1)).bind fun o1 => (if o1.2 = 0 then some (o1.1, 0)
  else if a1 < 0 ∨ 80 ≤ (a1).toNatClampNeg then none else if a1 < 0 ∨ 80 ≤ (a1).toNatClampNeg then none else some (o1.1, ((o1.1 28 (a1).toNatClampNeg) + (o1.1 29 (a1).toNatClampNeg))))
set_option maxRecDepth 100000 in
set_option maxHeartbeats 4000000 in
theorem br_ratedByEvents {p : Program} {l : Launch} {e : Env} {s : State} {m : MethodId} {args : Array Value} {below : List Frame} {meth : Method} {c : Code} {D : va_G} {dA : Nat → ClassId} {A : Nat → Prop} {ad : Nat → Nat} {o : Rho × Int32} (X : zc p l s m args meth c cX12_ratedByEvents RX12 D dA A) (hml : c.maxLocals = 2) (hr : meth.sig.returnType = (some .int)) {ρ : Rho} {a1 : Int32} (h : fr_ratedByEvents ρ a1 = some o) : zz p l e ({ frames := 80, cells := 0, slots := 0, locals := 800 } : Room) s m args below meth c A (rw D dA A ρ ad) 0 0 (MQ below (va_Qi (fun r (_ : Unit) => r = o.2 ∧ True) (fun _ t => rw D dA A o.1 ad t.heap) A) args s 0 0 A) 0 [(0, .ref (ad 40)), (1, .int (a1))] [] [] := by
  unfold fr_ratedByEvents at h
  refine z_aload_n X dX12_ratedByEvents_0 rfl rfl ?_
  refine z_iload_n X dX12_ratedByEvents_1 rfl rfl ?_
  obtain ⟨o1, co1, h⟩ := zb2 h
  refine z_callVi (As := [.int (a1)]) (rest := []) (nA := 1) (r0 := o1.2) (pu := fun (_ : Unit) => True) (G1 := fun _ => rw D dA A o1.1 ad) X (cr_isAskedOf l X.2.2.2.2.2.2.2.2 X.2.2.2.2.2.2.1 co1) g_1659 g_1661 gs_50 g_15 g_1662 hd_yX12_isAskedOf ⟨rfl, rfl, Nat.le_of_ble_eq_true rfl, Nat.le_of_ble_eq_true rfl⟩ rfl (fun _ hG => rw_recv X hG) rfl (Nat.le_of_ble_eq_true rfl) dX12_ratedByEvents_2 ⟨Nat.le_refl _, Nat.le_refl _⟩ (fun _ _ => ?_)
  refine z_if_eq (tgt := 24) X dX12_ratedByEvents_5 (by decide) (fun q => ?_) (fun q => ?_)
  · have h := zp q h
    refine z_iconst (v := 0) X dX12_ratedByEvents_24 (by decide) ?_
    obtain rfl := Option.some.inj h
    exact z_iret X hr rfl (fun t hG hF _ => ⟨⟨_, (), rfl, ⟨rfl, trivial⟩, hG⟩, hF⟩) dX12_ratedByEvents_25
  · have h := zn q h
    refine z_aload_n X dX12_ratedByEvents_8 rfl rfl ?_
    refine r_getA X 28 rfl rfl g_1334 dX12_ratedByEvents_9 ?_
    refine z_iload_n X dX12_ratedByEvents_12 rfl rfl ?_
    obtain ⟨q2, h⟩ := zg h
    refine r_ald X 28 rfl rfl q2 dX12_ratedByEvents_13 ?_
    refine z_aload_n X dX12_ratedByEvents_14 rfl rfl ?_
    refine r_getA X 29 rfl rfl g_1335 dX12_ratedByEvents_15 ?_
    refine z_iload_n X dX12_ratedByEvents_18 rfl rfl ?_
    obtain ⟨q3, h⟩ := zg h
    refine r_ald X 29 rfl rfl q3 dX12_ratedByEvents_19 ?_
    refine z_iadd X dX12_ratedByEvents_20 ?_
    refine z_goto (tgt := 25) X dX12_ratedByEvents_21 (by decide) ?_
    obtain rfl := Option.some.inj h
    exact z_iret X hr rfl (fun t hG hF _ => ⟨⟨_, (), rfl, ⟨rfl, trivial⟩, hG⟩, hF⟩) dX12_ratedByEvents_25
theorem cr_ratedByEvents (l : Launch) {D : va_G} {dA : Nat → ClassId} {A : Nat → Prop} {n : Nat} {ad : Nat → Nat} (hst : l.stackTraces = false) (hA : ∀ q, n ≤ q → A q) {ρ : Rho} {a1 : Int32} {o : Rho × Int32} (h : fr_ratedByEvents ρ a1 = some o) : Met l yX12_ratedByEvents (.code yX12_ratedByEvents cX12_ratedByEvents 2 (some .int) :: gT) ({ frames := 80, cells := 0, slots := 0, locals := 800 } : Room) (va_Pc [.ref (ad 40), .int a1] (zB D dA A n (rw D dA A ρ ad))) (va_Qi (fun r (_ : Unit) => r = o.2 ∧ True) (fun _ t => rw D dA A o.1 ad t.heap) A) 0 0 A :=
  z_met (by decide) hA hst (Nat.le_of_ble_eq_true rfl) rfl rfl (fun p e s m below meth c X hml hr _ => br_ratedByEvents X hml hr h)
-- tag(I)I
def fr_tag (ρ : Rho) (a1 : Int32) : Option (Rho × Int32) := (fr_isAskedOf ρ (a1)).bind fun o1 => (if o1.2 = 0 then some (o1.1, 0)
  else if a1 < 0 ∨ 80 ≤ (a1).toNatClampNeg then none else some (o1.1, (o1.1 30 (a1).toNatClampNeg)))
set_option maxRecDepth 100000 in
set_option maxHeartbeats 4000000 in
theorem br_tag {p : Program} {l : Launch} {e : Env} {s : State} {m : MethodId} {args : Array Value} {below : List Frame} {meth : Method} {c : Code} {D : va_G} {dA : Nat → ClassId} {A : Nat → Prop} {ad : Nat → Nat} {o : Rho × Int32} (X : zc p l s m args meth c cX12_tag RX12 D dA A) (hml : c.maxLocals = 2) (hr : meth.sig.returnType = (some .int)) {ρ : Rho} {a1 : Int32} (h : fr_tag ρ a1 = some o) : zz p l e ({ frames := 80, cells := 0, slots := 0, locals := 800 } : Room) s m args below meth c A (rw D dA A ρ ad) 0 0 (MQ below (va_Qi (fun r (_ : Unit) => r = o.2 ∧ True) (fun _ t => rw D dA A o.1 ad t.heap) A) args s 0 0 A) 0 [(0, .ref (ad 40)), (1, .int (a1))] [] [] := by
  unfold fr_tag at h
  refine z_aload_n X dX12_tag_0 rfl rfl ?_
  refine z_iload_n X dX12_tag_1 rfl rfl ?_
  obtain ⟨o1, co1, h⟩ := zb2 h
  refine z_callVi (As := [.int (a1)]) (rest := []) (nA := 1) (r0 := o1.2) (pu := fun (_ : Unit) => True) (G1 := fun _ => rw D dA A o1.1 ad) X (cr_isAskedOf l X.2.2.2.2.2.2.2.2 X.2.2.2.2.2.2.1 co1) g_1659 g_1661 gs_50 g_15 g_1662 hd_yX12_isAskedOf ⟨rfl, rfl, Nat.le_of_ble_eq_true rfl, Nat.le_of_ble_eq_true rfl⟩ rfl (fun _ hG => rw_recv X hG) rfl (Nat.le_of_ble_eq_true rfl) dX12_tag_2 ⟨Nat.le_refl _, Nat.le_refl _⟩ (fun _ _ => ?_)
  refine z_if_eq (tgt := 17) X dX12_tag_5 (by decide) (fun q => ?_) (fun q => ?_)
  · have h := zp q h
    refine z_iconst (v := 0) X dX12_tag_17 (by decide) ?_
    obtain rfl := Option.some.inj h
    exact z_iret X hr rfl (fun t hG hF _ => ⟨⟨_, (), rfl, ⟨rfl, trivial⟩, hG⟩, hF⟩) dX12_tag_18
  · have h := zn q h
    refine z_aload_n X dX12_tag_8 rfl rfl ?_
    refine r_getA X 30 rfl rfl g_1336 dX12_tag_9 ?_
    refine z_iload_n X dX12_tag_12 rfl rfl ?_
    obtain ⟨q2, h⟩ := zg h
    refine r_ald X 30 rfl rfl q2 dX12_tag_13 ?_
    refine z_goto (tgt := 18) X dX12_tag_14 (by decide) ?_
    obtain rfl := Option.some.inj h
    exact z_iret X hr rfl (fun t hG hF _ => ⟨⟨_, (), rfl, ⟨rfl, trivial⟩, hG⟩, hF⟩) dX12_tag_18
theorem cr_tag (l : Launch) {D : va_G} {dA : Nat → ClassId} {A : Nat → Prop} {n : Nat} {ad : Nat → Nat} (hst : l.stackTraces = false) (hA : ∀ q, n ≤ q → A q) {ρ : Rho} {a1 : Int32} {o : Rho × Int32} (h : fr_tag ρ a1 = some o) : Met l yX12_tag (.code yX12_tag cX12_tag 2 (some .int) :: gT) ({ frames := 80, cells := 0, slots := 0, locals := 800 } : Room) (va_Pc [.ref (ad 40), .int a1] (zB D dA A n (rw D dA A ρ ad))) (va_Qi (fun r (_ : Unit) => r = o.2 ∧ True) (fun _ t => rw D dA A o.1 ad t.heap) A) 0 0 A :=
  z_met (by decide) hA hst (Nat.le_of_ble_eq_true rfl) rfl rfl (fun p e s m below meth c X hml hr _ => br_tag X hml hr h)
-- sealOf(I)I
def fr_sealOf (ρ : Rho) (a1 : Int32) : Option (Int32) := if a1 < 0 ∨ 80 ≤ (a1).toNatClampNeg then none else if a1 < 0 ∨ 80 ≤ (a1).toNatClampNeg then none else some (((ρ 31 (a1).toNatClampNeg) ^^^ ((((ρ 31 (a1).toNatClampNeg) : Int32).toUInt32 >>> ((16 : Int32).toUInt32 &&& Int32.toUInt32 31)).toInt32)))
set_option maxRecDepth 100000 in
set_option maxHeartbeats 4000000 in
theorem br_sealOf {p : Program} {l : Launch} {e : Env} {s : State} {m : MethodId} {args : Array Value} {below : List Frame} {meth : Method} {c : Code} {D : va_G} {dA : Nat → ClassId} {A : Nat → Prop} {ad : Nat → Nat} {o : Int32} (X : zc p l s m args meth c cX12_sealOf RX12 D dA A) (hml : c.maxLocals = 2) (hr : meth.sig.returnType = (some .int)) {ρ : Rho} {a1 : Int32} (h : fr_sealOf ρ a1 = some o) : zz p l e ({ frames := 20, cells := 0, slots := 0, locals := 200 } : Room) s m args below meth c A (rw D dA A ρ ad) 0 0 (MQ below (va_Qi (fun r (_ : Unit) => r = o ∧ True) (fun _ t => rw D dA A ρ ad t.heap) A) args s 0 0 A) 0 [(0, .ref (ad 40)), (1, .int (a1))] [] [] := by
  unfold fr_sealOf at h
  refine z_aload_n X dX12_sealOf_0 rfl rfl ?_
  refine r_getA X 31 rfl rfl g_1337 dX12_sealOf_1 ?_
  refine z_iload_n X dX12_sealOf_4 rfl rfl ?_
  obtain ⟨q1, h⟩ := zg h
  refine r_ald X 31 rfl rfl q1 dX12_sealOf_5 ?_
  refine z_aload_n X dX12_sealOf_6 rfl rfl ?_
  refine r_getA X 31 rfl rfl g_1337 dX12_sealOf_7 ?_
  refine z_iload_n X dX12_sealOf_10 rfl rfl ?_
  obtain ⟨q2, h⟩ := zg h
  refine r_ald X 31 rfl rfl q2 dX12_sealOf_11 ?_
  refine z_bipush (v := 16) X dX12_sealOf_12 (by decide) ?_
  refine z_iushr X dX12_sealOf_14 ?_
  refine z_ixor X dX12_sealOf_15 ?_
  obtain rfl := Option.some.inj h
  exact z_iret X hr rfl (fun t hG hF _ => ⟨⟨_, (), rfl, ⟨rfl, trivial⟩, hG⟩, hF⟩) dX12_sealOf_16
theorem cr_sealOf (l : Launch) {D : va_G} {dA : Nat → ClassId} {A : Nat → Prop} {n : Nat} {ad : Nat → Nat} (hst : l.stackTraces = false) (hA : ∀ q, n ≤ q → A q) {ρ : Rho} {a1 : Int32} {o : Int32} (h : fr_sealOf ρ a1 = some o) : Met l yX12_sealOf (.code yX12_sealOf cX12_sealOf 2 (some .int) :: gT) ({ frames := 20, cells := 0, slots := 0, locals := 200 } : Room) (va_Pc [.ref (ad 40), .int a1] (zB D dA A n (rw D dA A ρ ad))) (va_Qi (fun r (_ : Unit) => r = o ∧ True) (fun _ t => rw D dA A ρ ad t.heap) A) 0 0 A :=
  z_met (by decide) hA hst (Nat.le_of_ble_eq_true rfl) rfl rfl (fun p e s m below meth c X hml hr _ => br_sealOf X hml hr h)
-- seal(I)I
def fr_seal (ρ : Rho) (a1 : Int32) : Option (Rho × Int32) := (fr_isAskedOf ρ (a1)).bind fun o1 => (if o1.2 = 0 then some (o1.1, 0)
  else (fr_sealOf o1.1 (a1)).bind fun o2 => some (o1.1, o2))
set_option maxRecDepth 100000 in
set_option maxHeartbeats 4000000 in
theorem br_seal {p : Program} {l : Launch} {e : Env} {s : State} {m : MethodId} {args : Array Value} {below : List Frame} {meth : Method} {c : Code} {D : va_G} {dA : Nat → ClassId} {A : Nat → Prop} {ad : Nat → Nat} {o : Rho × Int32} (X : zc p l s m args meth c cX12_seal RX12 D dA A) (hml : c.maxLocals = 2) (hr : meth.sig.returnType = (some .int)) {ρ : Rho} {a1 : Int32} (h : fr_seal ρ a1 = some o) : zz p l e ({ frames := 80, cells := 0, slots := 0, locals := 800 } : Room) s m args below meth c A (rw D dA A ρ ad) 0 0 (MQ below (va_Qi (fun r (_ : Unit) => r = o.2 ∧ True) (fun _ t => rw D dA A o.1 ad t.heap) A) args s 0 0 A) 0 [(0, .ref (ad 40)), (1, .int (a1))] [] [] := by
  unfold fr_seal at h
  refine z_aload_n X dX12_seal_0 rfl rfl ?_
  refine z_iload_n X dX12_seal_1 rfl rfl ?_
  obtain ⟨o1, co1, h⟩ := zb2 h
  refine z_callVi (As := [.int (a1)]) (rest := []) (nA := 1) (r0 := o1.2) (pu := fun (_ : Unit) => True) (G1 := fun _ => rw D dA A o1.1 ad) X (cr_isAskedOf l X.2.2.2.2.2.2.2.2 X.2.2.2.2.2.2.1 co1) g_1659 g_1661 gs_50 g_15 g_1662 hd_yX12_isAskedOf ⟨rfl, rfl, Nat.le_of_ble_eq_true rfl, Nat.le_of_ble_eq_true rfl⟩ rfl (fun _ hG => rw_recv X hG) rfl (Nat.le_of_ble_eq_true rfl) dX12_seal_2 ⟨Nat.le_refl _, Nat.le_refl _⟩ (fun _ _ => ?_)
  refine z_if_eq (tgt := 16) X dX12_seal_5 (by decide) (fun q => ?_) (fun q => ?_)
  · have h := zp q h
    refine z_iconst (v := 0) X dX12_seal_16 (by decide) ?_
    obtain rfl := Option.some.inj h
    exact z_iret X hr rfl (fun t hG hF _ => ⟨⟨_, (), rfl, ⟨rfl, trivial⟩, hG⟩, hF⟩) dX12_seal_17
  · have h := zn q h
    refine z_aload_n X dX12_seal_8 rfl rfl ?_
    refine z_iload_n X dX12_seal_9 rfl rfl ?_
    obtain ⟨o2, co2, h⟩ := zb2 h
    refine z_callVi (As := [.int (a1)]) (rest := []) (nA := 1) (r0 := o2) (pu := fun (_ : Unit) => True) (G1 := fun _ => rw D dA A o1.1 ad) X (cr_sealOf l X.2.2.2.2.2.2.2.2 X.2.2.2.2.2.2.1 co2) g_1691 g_1693 gs_52 g_15 g_1694 hd_yX12_sealOf ⟨rfl, rfl, Nat.le_of_ble_eq_true rfl, Nat.le_of_ble_eq_true rfl⟩ rfl (fun _ hG => rw_recv X hG) rfl (Nat.le_of_ble_eq_true rfl) dX12_seal_10 ⟨Nat.le_refl _, Nat.le_refl _⟩ (fun _ _ => ?_)
    refine z_goto (tgt := 17) X dX12_seal_13 (by decide) ?_
    obtain rfl := Option.some.inj h
    exact z_iret X hr rfl (fun t hG hF _ => ⟨⟨_, (), rfl, ⟨rfl, trivial⟩, hG⟩, hF⟩) dX12_seal_17
theorem cr_seal (l : Launch) {D : va_G} {dA : Nat → ClassId} {A : Nat → Prop} {n : Nat} {ad : Nat → Nat} (hst : l.stackTraces = false) (hA : ∀ q, n ≤ q → A q) {ρ : Rho} {a1 : Int32} {o : Rho × Int32} (h : fr_seal ρ a1 = some o) : Met l yX12_seal (.code yX12_seal cX12_seal 2 (some .int) :: gT) ({ frames := 80, cells := 0, slots := 0, locals := 800 } : Room) (va_Pc [.ref (ad 40), .int a1] (zB D dA A n (rw D dA A ρ ad))) (va_Qi (fun r (_ : Unit) => r = o.2 ∧ True) (fun _ t => rw D dA A o.1 ad t.heap) A) 0 0 A :=
  z_met (by decide) hA hst (Nat.le_of_ble_eq_true rfl) rfl rfl (fun p e s m below meth c X hml hr _ => br_seal X hml hr h)
-- stamp(I)I
def fr_stamp_71 (k30 : Rho → Int32 → Int32 → Int64 → Option (Rho × Int32)) (ρ : Rho) (v1 : Int32) (v4 : Int32) (s0 : Int64) : Option (Rho × Int32) := (some (v4 + 1)).bind fun x1 => k30 ρ v1 x1 (s0)
set_option maxRecDepth 100000 in
set_option maxHeartbeats 4000000 in
theorem br_stamp_71 {p : Program} {l : Launch} {e : Env} {s : State} {m : MethodId} {args : Array Value} {below : List Frame} {meth : Method} {c : Code} {D : va_G} {dA : Nat → ClassId} {A : Nat → Prop} {ad : Nat → Nat} {o : Rho × Int32} (X : zc p l s m args meth c cX12_stamp RX12 D dA A) (hml : c.maxLocals = 5) (hr : meth.sig.returnType = (some .int)) {k30 : Rho → Int32 → Int32 → Int64 → Option (Rho × Int32)} (hk30 : ∀ {ρ : Rho} {v1 : Int32} {v4 : Int32} {u2 : Int64}, k30 ρ v1 v4 u2 = some o → zz p l e ({ frames := 60, cells := 0, slots := 0, locals := 600 } : Room) s m args below meth c A (rw D dA A ρ ad) 0 0 (MQ below (va_Qi (fun r (_ : Unit) => r = o.2 ∧ True) (fun _ t => rw D dA A o.1 ad t.heap) A) args s 0 0 A) 30 [(0, .ref (ad 40)), (1, .int (v1)), (4, .int (v4))] [(2, u2)] []) {ρ : Rho} {v1 : Int32} {v4 : Int32} {s0 : Int64} (h : fr_stamp_71 k30 ρ v1 v4 s0 = some o) : zz p l e ({ frames := 60, cells := 0, slots := 0, locals := 600 } : Room) s m args below meth c A (rw D dA A ρ ad) 0 0 (MQ below (va_Qi (fun r (_ : Unit) => r = o.2 ∧ True) (fun _ t => rw D dA A o.1 ad t.heap) A) args s 0 0 A) 71 [(0, .ref (ad 40)), (1, .int (v1)), (4, .int (v4))] [] [.long (s0)] := by
  unfold fr_stamp_71 at h
  refine z_lstore_n X dX12_stamp_71 rfl (by rw [hml]; decide) (lo' := [(0, .ref (ad 40)), (1, .int (v1)), (4, .int (v4))]) (ll' := [(2, s0)]) rfl rfl ?_
  obtain ⟨x1, ex1, h⟩ := zb h
  refine z_iinc (v := x1) (lo' := [(4, .int (x1)), (0, .ref (ad 40)), (1, .int (v1))]) X dX12_stamp_72 rfl ex1 (by rw [hml]; decide) rfl rfl ?_
  refine z_goto (tgt := 30) X dX12_stamp_75 (by decide) ?_
  refine zz.pick (lo' := [(0, .ref (ad 40)), (1, .int (v1)), (4, .int (x1))]) [0, 1, 4] rfl ?_
  exact hk30  h
def fr_stamp_30 : Nat → Rho → Int32 → Int32 → Int64 → Option (Rho × Int32)
  | 0, _, _, _, _ => none
  | n + 1, ρ, v1, v4, u2 => (if (ρ 22 0) ≤ v4 then some (ρ, (((u2 >>> ((32 : Int32).toInt64 &&& 63)) : Int64).toInt32 ^^^ (u2 : Int64).toInt32))
  else if v4 < 0 ∨ 80 ≤ (v4).toNatClampNeg then none else (if (ρ 24 (v4).toNatClampNeg) = v1 then (fr_sealOf ρ (v4)).bind fun o2 => fr_stamp_71 (fr_stamp_30 n) ρ v1 v4 (((u2 <<< ((7 : Int32).toInt64 &&& 63)) ||| (((u2 : Int64).toUInt64 >>> (((57 : Int32).toInt64).toUInt64 &&& Int64.toUInt64 63)).toInt64)) + (o2 : Int32).toInt64)
  else fr_stamp_71 (fr_stamp_30 n) ρ v1 v4 u2))
set_option maxRecDepth 100000 in
set_option maxHeartbeats 4000000 in
theorem br_stamp_30 {p : Program} {l : Launch} {e : Env} {s : State} {m : MethodId} {args : Array Value} {below : List Frame} {meth : Method} {c : Code} {D : va_G} {dA : Nat → ClassId} {A : Nat → Prop} {ad : Nat → Nat} {o : Rho × Int32} (X : zc p l s m args meth c cX12_stamp RX12 D dA A) (hml : c.maxLocals = 5) (hr : meth.sig.returnType = (some .int)) : ∀ (n : Nat) {ρ : Rho} {v1 : Int32} {v4 : Int32} {u2 : Int64}, fr_stamp_30  n ρ v1 v4 u2 = some o → zz p l e ({ frames := 60, cells := 0, slots := 0, locals := 600 } : Room) s m args below meth c A (rw D dA A ρ ad) 0 0 (MQ below (va_Qi (fun r (_ : Unit) => r = o.2 ∧ True) (fun _ t => rw D dA A o.1 ad t.heap) A) args s 0 0 A) 30 [(0, .ref (ad 40)), (1, .int (v1)), (4, .int (v4))] [(2, u2)] [] := by
  intro n
  induction n with
  | zero => intro ρ v1 v4 u2 h; exact (nomatch (show none = some o from h))
  | succ n ih =>
    intro ρ v1 v4 u2 h
    rw [fr_stamp_30] at h
    refine z_iload X dX12_stamp_30 rfl ?_
    refine z_aload_n X dX12_stamp_32 rfl rfl ?_
    refine r_getS X 22 rfl rfl g_1328 dX12_stamp_33 ?_
    refine z_icmp_ge (tgt := 78) X dX12_stamp_36 (by decide) (fun q => ?_) (fun q => ?_)
    · have h := zp q h
      refine z_lload_n X dX12_stamp_78 rfl rfl ?_
      refine z_bipush (v := 32) X dX12_stamp_79 (by decide) ?_
      refine z_lshr X dX12_stamp_81 ?_
      refine z_l2i X dX12_stamp_82 ?_
      refine z_lload_n X dX12_stamp_83 rfl rfl ?_
      refine z_l2i X dX12_stamp_84 ?_
      refine z_ixor X dX12_stamp_85 ?_
      obtain rfl := Option.some.inj h
      exact z_iret X hr rfl (fun t hG hF _ => ⟨⟨_, (), rfl, ⟨rfl, trivial⟩, hG⟩, hF⟩) dX12_stamp_86
    · have h := zn q h
      refine z_aload_n X dX12_stamp_39 rfl rfl ?_
      refine r_getA X 24 rfl rfl g_1330 dX12_stamp_40 ?_
      refine z_iload X dX12_stamp_43 rfl ?_
      obtain ⟨q1, h⟩ := zg h
      refine r_ald X 24 rfl rfl q1 dX12_stamp_45 ?_
      refine z_iload_n X dX12_stamp_46 rfl rfl ?_
      refine z_icmp_ne (tgt := 70) X dX12_stamp_47 (by decide) (fun q => ?_) (fun q => ?_)
      · have h := zp q h
        refine z_lload_n X dX12_stamp_50 rfl rfl ?_
        refine z_bipush (v := 7) X dX12_stamp_51 (by decide) ?_
        refine z_lshl X dX12_stamp_53 ?_
        refine z_lload_n X dX12_stamp_54 rfl rfl ?_
        refine z_bipush (v := 57) X dX12_stamp_55 (by decide) ?_
        refine z_lushr X dX12_stamp_57 ?_
        refine z_lor X dX12_stamp_58 ?_
        refine z_aload_n X dX12_stamp_59 rfl rfl ?_
        refine z_iload X dX12_stamp_60 rfl ?_
        obtain ⟨o2, co2, h⟩ := zb2 h
        refine z_callVi (As := [.int (v4)]) (rest := [.long (((u2 <<< ((7 : Int32).toInt64 &&& 63)) ||| (((u2 : Int64).toUInt64 >>> (((57 : Int32).toInt64).toUInt64 &&& Int64.toUInt64 63)).toInt64)))]) (nA := 1) (r0 := o2) (pu := fun (_ : Unit) => True) (G1 := fun _ => rw D dA A ρ ad) X (cr_sealOf l X.2.2.2.2.2.2.2.2 X.2.2.2.2.2.2.1 co2) g_1691 g_1693 gs_52 g_15 g_1694 hd_yX12_sealOf ⟨rfl, rfl, Nat.le_of_ble_eq_true rfl, Nat.le_of_ble_eq_true rfl⟩ rfl (fun _ hG => rw_recv X hG) rfl (Nat.le_of_ble_eq_true rfl) dX12_stamp_62 ⟨Nat.le_refl _, Nat.le_refl _⟩ (fun _ _ => ?_)
        refine z_i2l X dX12_stamp_65 ?_
        refine z_ladd X dX12_stamp_66 ?_
        refine z_goto (tgt := 71) X dX12_stamp_67 (by decide) ?_
        refine zz.pick (lo' := [(0, .ref (ad 40)), (1, .int (v1)), (4, .int (v4))]) [0, 1, 4] rfl ?_
        refine zz.pickl (ll' := []) [] rfl ?_
        exact br_stamp_71 X hml hr ih h
      · have h := zn q h
        refine z_lload_n X dX12_stamp_70 rfl rfl ?_
        refine zz.pick (lo' := [(0, .ref (ad 40)), (1, .int (v1)), (4, .int (v4))]) [0, 1, 4] rfl ?_
        refine zz.pickl (ll' := []) [] rfl ?_
        exact br_stamp_71 X hml hr ih h
def fr_stamp_14 (ρ : Rho) (v1 : Int32) (s1 : Int32) : Option (Rho × Int32) := (fr_can ρ (s1)).bind fun o1 => (if o1.2 = 0 then some (o1.1, 0)
  else (some (((v1 : Int32).toInt64 + 1))).bind fun x2 => fr_stamp_30 FU o1.1 v1 0 (x2))
set_option maxRecDepth 100000 in
set_option maxHeartbeats 4000000 in
theorem br_stamp_14 {p : Program} {l : Launch} {e : Env} {s : State} {m : MethodId} {args : Array Value} {below : List Frame} {meth : Method} {c : Code} {D : va_G} {dA : Nat → ClassId} {A : Nat → Prop} {ad : Nat → Nat} {o : Rho × Int32} (X : zc p l s m args meth c cX12_stamp RX12 D dA A) (hml : c.maxLocals = 5) (hr : meth.sig.returnType = (some .int)) {ρ : Rho} {v1 : Int32} {s1 : Int32} (h : fr_stamp_14 ρ v1 s1 = some o) : zz p l e ({ frames := 60, cells := 0, slots := 0, locals := 600 } : Room) s m args below meth c A (rw D dA A ρ ad) 0 0 (MQ below (va_Qi (fun r (_ : Unit) => r = o.2 ∧ True) (fun _ t => rw D dA A o.1 ad t.heap) A) args s 0 0 A) 14 [(0, .ref (ad 40)), (1, .int (v1))] [] [.int (s1), .ref (ad 40)] := by
  unfold fr_stamp_14 at h
  obtain ⟨o1, co1, h⟩ := zb2 h
  refine z_callVi (As := [.int (s1)]) (rest := []) (nA := 1) (r0 := o1.2) (pu := fun (_ : Unit) => True) (G1 := fun _ => rw D dA A o1.1 ad) X (cr_can l X.2.2.2.2.2.2.2.2 X.2.2.2.2.2.2.1 co1) g_1445 g_1447 gs_25 g_15 g_1448 hd_yX12_can ⟨rfl, rfl, Nat.le_of_ble_eq_true rfl, Nat.le_of_ble_eq_true rfl⟩ rfl (fun _ hG => rw_recv X hG) rfl (Nat.le_of_ble_eq_true rfl) dX12_stamp_14 ⟨Nat.le_refl _, Nat.le_refl _⟩ (fun _ _ => ?_)
  refine z_if_ne (tgt := 22) X dX12_stamp_17 (by decide) (fun q => ?_) (fun q => ?_)
  · have h := zp q h
    refine z_iconst (v := 0) X dX12_stamp_20 (by decide) ?_
    obtain rfl := Option.some.inj h
    exact z_iret X hr rfl (fun t hG hF _ => ⟨⟨_, (), rfl, ⟨rfl, trivial⟩, hG⟩, hF⟩) dX12_stamp_21
  · have h := zn q h
    refine z_iload_n X dX12_stamp_22 rfl rfl ?_
    refine z_i2l X dX12_stamp_23 ?_
    refine z_lconst (v := 1) X dX12_stamp_24 (by decide) ?_
    refine z_ladd X dX12_stamp_25 ?_
    obtain ⟨x2, ex2, h⟩ := zb h
    rw [ex2]
    refine z_lstore_n X dX12_stamp_26 rfl (by rw [hml]; decide) (lo' := [(0, .ref (ad 40)), (1, .int (v1))]) (ll' := [(2, x2)]) rfl rfl ?_
    refine z_iconst (v := 0) X dX12_stamp_27 (by decide) ?_
    refine z_istore (lo' := [(4, .int (0)), (0, .ref (ad 40)), (1, .int (v1))]) X dX12_stamp_28 (by rw [hml]; decide) rfl rfl ?_
    refine zz.pick (lo' := [(0, .ref (ad 40)), (1, .int (v1)), (4, .int (0))]) [0, 1, 4] rfl ?_
    exact br_stamp_30 X hml hr FU h
def fr_stamp (ρ : Rho) (a1 : Int32) : Option (Rho × Int32) := (fr_isCall ρ (a1)).bind fun o1 => (if o1 = 0 then fr_stamp_14 ρ a1 1
  else fr_stamp_14 ρ a1 0)
set_option maxRecDepth 100000 in
set_option maxHeartbeats 4000000 in
theorem br_stamp {p : Program} {l : Launch} {e : Env} {s : State} {m : MethodId} {args : Array Value} {below : List Frame} {meth : Method} {c : Code} {D : va_G} {dA : Nat → ClassId} {A : Nat → Prop} {ad : Nat → Nat} {o : Rho × Int32} (X : zc p l s m args meth c cX12_stamp RX12 D dA A) (hml : c.maxLocals = 5) (hr : meth.sig.returnType = (some .int)) {ρ : Rho} {a1 : Int32} (h : fr_stamp ρ a1 = some o) : zz p l e ({ frames := 60, cells := 0, slots := 0, locals := 600 } : Room) s m args below meth c A (rw D dA A ρ ad) 0 0 (MQ below (va_Qi (fun r (_ : Unit) => r = o.2 ∧ True) (fun _ t => rw D dA A o.1 ad t.heap) A) args s 0 0 A) 0 [(0, .ref (ad 40)), (1, .int (a1))] [] [] := by
  unfold fr_stamp at h
  refine z_aload_n X dX12_stamp_0 rfl rfl ?_
  refine z_aload_n X dX12_stamp_1 rfl rfl ?_
  refine z_iload_n X dX12_stamp_2 rfl rfl ?_
  obtain ⟨o1, co1, h⟩ := zb2 h
  refine z_callVi (As := [.int (a1)]) (rest := [.ref (ad 40)]) (nA := 1) (r0 := o1) (pu := fun (_ : Unit) => True) (G1 := fun _ => rw D dA A ρ ad) X (cr_isCall l X.2.2.2.2.2.2.2.2 X.2.2.2.2.2.2.1 co1) g_1595 g_1597 gs_46 g_15 g_1598 hd_yX12_isCall ⟨rfl, rfl, Nat.le_of_ble_eq_true rfl, Nat.le_of_ble_eq_true rfl⟩ rfl (fun _ hG => rw_recv X hG) rfl (Nat.le_of_ble_eq_true rfl) dX12_stamp_3 ⟨Nat.le_refl _, Nat.le_refl _⟩ (fun _ _ => ?_)
  refine z_if_eq (tgt := 13) X dX12_stamp_6 (by decide) (fun q => ?_) (fun q => ?_)
  · have h := zp q h
    refine z_iconst (v := 1) X dX12_stamp_13 (by decide) ?_
    refine zz.pick (lo' := [(0, .ref (ad 40)), (1, .int (a1))]) [0, 1] rfl ?_
    exact br_stamp_14 X hml hr h
  · have h := zn q h
    refine z_iconst (v := 0) X dX12_stamp_9 (by decide) ?_
    refine z_goto (tgt := 14) X dX12_stamp_10 (by decide) ?_
    refine zz.pick (lo' := [(0, .ref (ad 40)), (1, .int (a1))]) [0, 1] rfl ?_
    exact br_stamp_14 X hml hr h
theorem cr_stamp (l : Launch) {D : va_G} {dA : Nat → ClassId} {A : Nat → Prop} {n : Nat} {ad : Nat → Nat} (hst : l.stackTraces = false) (hA : ∀ q, n ≤ q → A q) {ρ : Rho} {a1 : Int32} {o : Rho × Int32} (h : fr_stamp ρ a1 = some o) : Met l yX12_stamp (.code yX12_stamp cX12_stamp 5 (some .int) :: gT) ({ frames := 60, cells := 0, slots := 0, locals := 600 } : Room) (va_Pc [.ref (ad 40), .int a1] (zB D dA A n (rw D dA A ρ ad))) (va_Qi (fun r (_ : Unit) => r = o.2 ∧ True) (fun _ t => rw D dA A o.1 ad t.heap) A) 0 0 A :=
  z_met (by decide) hA hst (Nat.le_of_ble_eq_true rfl) rfl rfl (fun p e s m below meth c X hml hr _ => br_stamp X hml hr h)
-- sign(I)V
def fr_sign_16 (ρ : Rho) (s1 : Int32) : Option (Rho) := (some (cs ρ 38 0 (s1))).bind fun ρ1 => (some (cs ρ1 37 0 (((ρ1 37 0) - 1)))).bind fun ρ2 => some ρ2
set_option maxRecDepth 100000 in
set_option maxHeartbeats 4000000 in
theorem br_sign_16 {p : Program} {l : Launch} {e : Env} {s : State} {m : MethodId} {args : Array Value} {below : List Frame} {meth : Method} {c : Code} {D : va_G} {dA : Nat → ClassId} {A : Nat → Prop} {ad : Nat → Nat} {o : Rho} (X : zc p l s m args meth c cX12_sign RX12 D dA A) (hml : c.maxLocals = 2) (hr : meth.sig.returnType = none) {ρ : Rho} {s1 : Int32} (h : fr_sign_16 ρ s1 = some o) : zz p l e ({ frames := 20, cells := 0, slots := 0, locals := 200 } : Room) s m args below meth c A (rw D dA A ρ ad) 0 0 (MQ below (va_Qv (fun (_ : Unit) => True) (fun _ t => rw D dA A o ad t.heap) A) args s 0 0 A) 16 [(0, .ref (ad 40))] [] [.int (s1), .ref (ad 40)] := by
  unfold fr_sign_16 at h
  obtain ⟨ρ1, eρ1, h⟩ := zb h
  refine r_putS X 38 rfl rfl rfl g_1344 eρ1 dX12_sign_16 ?_
  refine z_aload_n X dX12_sign_19 rfl rfl ?_
  refine z_dup X dX12_sign_20 rfl ?_
  refine r_getS X 37 rfl rfl g_1343 dX12_sign_21 ?_
  refine z_iconst (v := 1) X dX12_sign_24 (by decide) ?_
  refine z_isub X dX12_sign_25 ?_
  obtain ⟨ρ2, eρ2, h⟩ := zb h
  refine r_putS X 37 rfl rfl rfl g_1343 eρ2 dX12_sign_26 ?_
  obtain rfl := Option.some.inj h
  exact z_vret X hr (fun t hG hF _ => ⟨⟨(), rfl, trivial, hG⟩, hF⟩) dX12_sign_29
def fr_sign (ρ : Rho) (a1 : Int32) : Option (Rho) := (if (ρ 37 0) = 0 then fr_sign_16 ρ a1
  else fr_sign_16 ρ (ρ 38 0))
set_option maxRecDepth 100000 in
set_option maxHeartbeats 4000000 in
theorem br_sign {p : Program} {l : Launch} {e : Env} {s : State} {m : MethodId} {args : Array Value} {below : List Frame} {meth : Method} {c : Code} {D : va_G} {dA : Nat → ClassId} {A : Nat → Prop} {ad : Nat → Nat} {o : Rho} (X : zc p l s m args meth c cX12_sign RX12 D dA A) (hml : c.maxLocals = 2) (hr : meth.sig.returnType = none) {ρ : Rho} {a1 : Int32} (h : fr_sign ρ a1 = some o) : zz p l e ({ frames := 20, cells := 0, slots := 0, locals := 200 } : Room) s m args below meth c A (rw D dA A ρ ad) 0 0 (MQ below (va_Qv (fun (_ : Unit) => True) (fun _ t => rw D dA A o ad t.heap) A) args s 0 0 A) 0 [(0, .ref (ad 40)), (1, .int (a1))] [] [] := by
  unfold fr_sign at h
  refine z_aload_n X dX12_sign_0 rfl rfl ?_
  refine z_aload_n X dX12_sign_1 rfl rfl ?_
  refine r_getS X 37 rfl rfl g_1343 dX12_sign_2 ?_
  refine z_if_ne (tgt := 12) X dX12_sign_5 (by decide) (fun q => ?_) (fun q => ?_)
  · have h := zp q h
    refine z_iload_n X dX12_sign_8 rfl rfl ?_
    refine z_goto (tgt := 16) X dX12_sign_9 (by decide) ?_
    refine zz.pick (lo' := [(0, .ref (ad 40))]) [0] rfl ?_
    exact br_sign_16 X hml hr h
  · have h := zn q h
    refine z_aload_n X dX12_sign_12 rfl rfl ?_
    refine r_getS X 38 rfl rfl g_1344 dX12_sign_13 ?_
    refine zz.pick (lo' := [(0, .ref (ad 40))]) [0] rfl ?_
    exact br_sign_16 X hml hr h
theorem cr_sign (l : Launch) {D : va_G} {dA : Nat → ClassId} {A : Nat → Prop} {n : Nat} {ad : Nat → Nat} (hst : l.stackTraces = false) (hA : ∀ q, n ≤ q → A q) {ρ : Rho} {a1 : Int32} {o : Rho} (h : fr_sign ρ a1 = some o) : Met l yX12_sign (.code yX12_sign cX12_sign 2 none :: gT) ({ frames := 20, cells := 0, slots := 0, locals := 200 } : Room) (va_Pc [.ref (ad 40), .int a1] (zB D dA A n (rw D dA A ρ ad))) (va_Qv (fun (_ : Unit) => True) (fun _ t => rw D dA A o ad t.heap) A) 0 0 A :=
  z_met (by decide) hA hst (Nat.le_of_ble_eq_true rfl) rfl rfl (fun p e s m below meth c X hml hr _ => br_sign X hml hr h)
-- number(I)V
def fr_number_18 : Nat → Rho → Int32 → Int32 → Option (Rho)
  | 0, _, _, _ => none
  | n + 1, ρ, v1, v2 => (if v2 ≤ 0 then some ρ
  else if v2 = 0 then none else (fr_sign ρ ((48 + ((v1 / v2) - (v1 / v2) / 10 * 10)))).bind fun o2 => (some ((v2 / 10))).bind fun x3 => fr_number_18 n o2 v1 x3)
set_option maxRecDepth 100000 in
set_option maxHeartbeats 4000000 in
theorem br_number_18 {p : Program} {l : Launch} {e : Env} {s : State} {m : MethodId} {args : Array Value} {below : List Frame} {meth : Method} {c : Code} {D : va_G} {dA : Nat → ClassId} {A : Nat → Prop} {ad : Nat → Nat} {o : Rho} (X : zc p l s m args meth c cX12_number RX12 D dA A) (hml : c.maxLocals = 3) (hr : meth.sig.returnType = none) : ∀ (n : Nat) {ρ : Rho} {v1 : Int32} {v2 : Int32}, fr_number_18  n ρ v1 v2 = some o → zz p l e ({ frames := 40, cells := 0, slots := 0, locals := 400 } : Room) s m args below meth c A (rw D dA A ρ ad) 0 0 (MQ below (va_Qv (fun (_ : Unit) => True) (fun _ t => rw D dA A o ad t.heap) A) args s 0 0 A) 18 [(0, .ref (ad 40)), (1, .int (v1)), (2, .int (v2))] [] [] := by
  intro n
  induction n with
  | zero => intro ρ v1 v2 h; exact (nomatch (show none = some o from h))
  | succ n ih =>
    intro ρ v1 v2 h
    rw [fr_number_18] at h
    refine z_iload_n X dX12_number_18 rfl rfl ?_
    refine z_if_le (tgt := 43) X dX12_number_19 (by decide) (fun q => ?_) (fun q => ?_)
    · have h := zp q h
      obtain rfl := Option.some.inj h
      exact z_vret X hr (fun t hG hF _ => ⟨⟨(), rfl, trivial, hG⟩, hF⟩) dX12_number_43
    · have h := zn q h
      refine z_aload_n X dX12_number_22 rfl rfl ?_
      refine z_bipush (v := 48) X dX12_number_23 (by decide) ?_
      refine z_iload_n X dX12_number_25 rfl rfl ?_
      refine z_iload_n X dX12_number_26 rfl rfl ?_
      obtain ⟨q1, h⟩ := zg h
      refine z_idiv X dX12_number_27 q1 ?_
      refine z_bipush (v := 10) X dX12_number_28 (by decide) ?_
      refine z_irem X dX12_number_30 (by decide) ?_
      refine z_iadd X dX12_number_31 ?_
      obtain ⟨o2, co2, h⟩ := zb2 h
      refine z_callVv (As := [.int ((48 + ((v1 / v2) - (v1 / v2) / 10 * 10)))]) (rest := []) (nA := 1) (pu := fun (_ : Unit) => True) (G1 := fun _ => rw D dA A o2 ad) X (cr_sign l X.2.2.2.2.2.2.2.2 X.2.2.2.2.2.2.1 co2) g_1703 g_1705 gs_53 g_15 g_1706 hd_yX12_sign ⟨rfl, rfl, Nat.le_of_ble_eq_true rfl, Nat.le_of_ble_eq_true rfl⟩ rfl (fun _ hG => rw_recv X hG) rfl (Nat.le_of_ble_eq_true rfl) dX12_number_32 ⟨Nat.le_refl _, Nat.le_refl _⟩ (fun _ _ => ?_)
      refine z_iload_n X dX12_number_35 rfl rfl ?_
      refine z_bipush (v := 10) X dX12_number_36 (by decide) ?_
      refine z_idiv X dX12_number_38 (by decide) ?_
      obtain ⟨x3, ex3, h⟩ := zb h
      rw [ex3]
      refine z_istore_n (lo' := [(2, .int (x3)), (0, .ref (ad 40)), (1, .int (v1))]) X dX12_number_39 rfl (by rw [hml]; decide) rfl rfl ?_
      refine z_goto (tgt := 18) X dX12_number_40 (by decide) ?_
      refine zz.pick (lo' := [(0, .ref (ad 40)), (1, .int (v1)), (2, .int (x3))]) [0, 1, 2] rfl ?_
      exact ih  h
def fr_number_2 : Nat → Rho → Int32 → Int32 → Option (Rho)
  | 0, _, _, _ => none
  | n + 1, ρ, v1, v2 => if v2 = 0 then none else (if (v1 / v2) ≤ 9 then fr_number_18 FU ρ v1 v2
  else (some ((v2 * 10))).bind fun x2 => fr_number_2 n ρ v1 x2)
set_option maxRecDepth 100000 in
set_option maxHeartbeats 4000000 in
theorem br_number_2 {p : Program} {l : Launch} {e : Env} {s : State} {m : MethodId} {args : Array Value} {below : List Frame} {meth : Method} {c : Code} {D : va_G} {dA : Nat → ClassId} {A : Nat → Prop} {ad : Nat → Nat} {o : Rho} (X : zc p l s m args meth c cX12_number RX12 D dA A) (hml : c.maxLocals = 3) (hr : meth.sig.returnType = none) : ∀ (n : Nat) {ρ : Rho} {v1 : Int32} {v2 : Int32}, fr_number_2  n ρ v1 v2 = some o → zz p l e ({ frames := 40, cells := 0, slots := 0, locals := 400 } : Room) s m args below meth c A (rw D dA A ρ ad) 0 0 (MQ below (va_Qv (fun (_ : Unit) => True) (fun _ t => rw D dA A o ad t.heap) A) args s 0 0 A) 2 [(0, .ref (ad 40)), (1, .int (v1)), (2, .int (v2))] [] [] := by
  intro n
  induction n with
  | zero => intro ρ v1 v2 h; exact (nomatch (show none = some o from h))
  | succ n ih =>
    intro ρ v1 v2 h
    rw [fr_number_2] at h
    refine z_iload_n X dX12_number_2 rfl rfl ?_
    refine z_iload_n X dX12_number_3 rfl rfl ?_
    obtain ⟨q1, h⟩ := zg h
    refine z_idiv X dX12_number_4 q1 ?_
    refine z_bipush (v := 9) X dX12_number_5 (by decide) ?_
    refine z_icmp_le (tgt := 18) X dX12_number_7 (by decide) (fun q => ?_) (fun q => ?_)
    · have h := zp q h
      refine zz.pick (lo' := [(0, .ref (ad 40)), (1, .int (v1)), (2, .int (v2))]) [0, 1, 2] rfl ?_
      exact br_number_18 X hml hr FU h
    · have h := zn q h
      refine z_iload_n X dX12_number_10 rfl rfl ?_
      refine z_bipush (v := 10) X dX12_number_11 (by decide) ?_
      refine z_imul X dX12_number_13 ?_
      obtain ⟨x2, ex2, h⟩ := zb h
      rw [ex2]
      refine z_istore_n (lo' := [(2, .int (x2)), (0, .ref (ad 40)), (1, .int (v1))]) X dX12_number_14 rfl (by rw [hml]; decide) rfl rfl ?_
      refine z_goto (tgt := 2) X dX12_number_15 (by decide) ?_
      refine zz.pick (lo' := [(0, .ref (ad 40)), (1, .int (v1)), (2, .int (x2))]) [0, 1, 2] rfl ?_
      exact ih  h
def fr_number (ρ : Rho) (a1 : Int32) : Option (Rho) := fr_number_2 FU ρ a1 1
set_option maxRecDepth 100000 in
set_option maxHeartbeats 4000000 in
theorem br_number {p : Program} {l : Launch} {e : Env} {s : State} {m : MethodId} {args : Array Value} {below : List Frame} {meth : Method} {c : Code} {D : va_G} {dA : Nat → ClassId} {A : Nat → Prop} {ad : Nat → Nat} {o : Rho} (X : zc p l s m args meth c cX12_number RX12 D dA A) (hml : c.maxLocals = 3) (hr : meth.sig.returnType = none) {ρ : Rho} {a1 : Int32} (h : fr_number ρ a1 = some o) : zz p l e ({ frames := 40, cells := 0, slots := 0, locals := 400 } : Room) s m args below meth c A (rw D dA A ρ ad) 0 0 (MQ below (va_Qv (fun (_ : Unit) => True) (fun _ t => rw D dA A o ad t.heap) A) args s 0 0 A) 0 [(0, .ref (ad 40)), (1, .int (a1))] [] [] := by
  unfold fr_number at h
  refine z_iconst (v := 1) X dX12_number_0 (by decide) ?_
  refine z_istore_n (lo' := [(2, .int (1)), (0, .ref (ad 40)), (1, .int (a1))]) X dX12_number_1 rfl (by rw [hml]; decide) rfl rfl ?_
  refine zz.pick (lo' := [(0, .ref (ad 40)), (1, .int (a1)), (2, .int (1))]) [0, 1, 2] rfl ?_
  exact br_number_2 X hml hr FU h
theorem cr_number (l : Launch) {D : va_G} {dA : Nat → ClassId} {A : Nat → Prop} {n : Nat} {ad : Nat → Nat} (hst : l.stackTraces = false) (hA : ∀ q, n ≤ q → A q) {ρ : Rho} {a1 : Int32} {o : Rho} (h : fr_number ρ a1 = some o) : Met l yX12_number (.code yX12_number cX12_number 3 none :: gT) ({ frames := 40, cells := 0, slots := 0, locals := 400 } : Room) (va_Pc [.ref (ad 40), .int a1] (zB D dA A n (rw D dA A ρ ad))) (va_Qv (fun (_ : Unit) => True) (fun _ t => rw D dA A o ad t.heap) A) 0 0 A :=
  z_met (by decide) hA hst (Nat.le_of_ble_eq_true rfl) rfl rfl (fun p e s m below meth c X hml hr _ => br_number X hml hr h)
-- lineAt(II)I
def fr_lineAt_18 (ρ : Rho) (v1 : Int32) (v2 : Int32) (s1 : Int32) : Option (Rho × Int32) := (fr_can ρ (s1)).bind fun o1 => (if o1.2 = 0 then some (o1.1, 0)
  else (some (cs o1.1 37 0 (v2))).bind fun ρ2 => (some (cs ρ2 38 0 ((-1)))).bind fun ρ3 => (fr_sign ρ3 (80)).bind fun o4 => if v1 < 0 ∨ 80 ≤ (v1).toNatClampNeg then none else (fr_number o4 ((o4 23 (v1).toNatClampNeg))).bind fun o6 => (fr_sign o6 (67)).bind fun o7 => if v1 < 0 ∨ 80 ≤ (v1).toNatClampNeg then none else (fr_number o7 ((o7 24 (v1).toNatClampNeg))).bind fun o9 => (fr_sign o9 (58)).bind fun o10 => if v1 < 0 ∨ 80 ≤ (v1).toNatClampNeg then none else (fr_number o10 ((o10 27 (v1).toNatClampNeg))).bind fun o12 => (fr_sign o12 (61)).bind fun o13 => if v1 < 0 ∨ 80 ≤ (v1).toNatClampNeg then none else (fr_number o13 ((o13 28 (v1).toNatClampNeg))).bind fun o15 => (fr_sign o15 (43)).bind fun o16 => if v1 < 0 ∨ 80 ≤ (v1).toNatClampNeg then none else (fr_number o16 ((o16 29 (v1).toNatClampNeg))).bind fun o18 => if v1 < 0 ∨ 80 ≤ (v1).toNatClampNeg then none else (some ((o18 26 (v1).toNatClampNeg))).bind fun x20 => (if x20 = 0 then (fr_sign o18 (126)).bind fun o21 => some (o21, (o21 38 0))
  else (if x20 = 1 then (fr_sign o18 (46)).bind fun o22 => some (o22, (o22 38 0))
  else (if x20 = 2 then (fr_sign o18 (33)).bind fun o23 => some (o23, (o23 38 0))
  else (fr_sign o18 (63)).bind fun o24 => some (o24, (o24 38 0))))))
set_option maxRecDepth 100000 in
set_option maxHeartbeats 4000000 in
theorem br_lineAt_18 {p : Program} {l : Launch} {e : Env} {s : State} {m : MethodId} {args : Array Value} {below : List Frame} {meth : Method} {c : Code} {D : va_G} {dA : Nat → ClassId} {A : Nat → Prop} {ad : Nat → Nat} {o : Rho × Int32} (X : zc p l s m args meth c cX12_lineAt RX12 D dA A) (hml : c.maxLocals = 4) (hr : meth.sig.returnType = (some .int)) {ρ : Rho} {v1 : Int32} {v2 : Int32} {s1 : Int32} (h : fr_lineAt_18 ρ v1 v2 s1 = some o) : zz p l e ({ frames := 60, cells := 0, slots := 0, locals := 600 } : Room) s m args below meth c A (rw D dA A ρ ad) 0 0 (MQ below (va_Qi (fun r (_ : Unit) => r = o.2 ∧ True) (fun _ t => rw D dA A o.1 ad t.heap) A) args s 0 0 A) 18 [(0, .ref (ad 40)), (1, .int (v1)), (2, .int (v2))] [] [.int (s1), .ref (ad 40)] := by
  unfold fr_lineAt_18 at h
  obtain ⟨o1, co1, h⟩ := zb2 h
  refine z_callVi (As := [.int (s1)]) (rest := []) (nA := 1) (r0 := o1.2) (pu := fun (_ : Unit) => True) (G1 := fun _ => rw D dA A o1.1 ad) X (cr_can l X.2.2.2.2.2.2.2.2 X.2.2.2.2.2.2.1 co1) g_1445 g_1447 gs_25 g_15 g_1448 hd_yX12_can ⟨rfl, rfl, Nat.le_of_ble_eq_true rfl, Nat.le_of_ble_eq_true rfl⟩ rfl (fun _ hG => rw_recv X hG) rfl (Nat.le_of_ble_eq_true rfl) dX12_lineAt_18 ⟨Nat.le_refl _, Nat.le_refl _⟩ (fun _ _ => ?_)
  refine z_if_ne (tgt := 26) X dX12_lineAt_21 (by decide) (fun q => ?_) (fun q => ?_)
  · have h := zp q h
    refine z_iconst (v := 0) X dX12_lineAt_24 (by decide) ?_
    obtain rfl := Option.some.inj h
    exact z_iret X hr rfl (fun t hG hF _ => ⟨⟨_, (), rfl, ⟨rfl, trivial⟩, hG⟩, hF⟩) dX12_lineAt_25
  · have h := zn q h
    refine z_aload_n X dX12_lineAt_26 rfl rfl ?_
    refine z_iload_n X dX12_lineAt_27 rfl rfl ?_
    obtain ⟨ρ2, eρ2, h⟩ := zb h
    refine r_putS X 37 rfl rfl rfl g_1343 eρ2 dX12_lineAt_28 ?_
    refine z_aload_n X dX12_lineAt_31 rfl rfl ?_
    refine z_iconst (v := (-1)) X dX12_lineAt_32 (by decide) ?_
    obtain ⟨ρ3, eρ3, h⟩ := zb h
    refine r_putS X 38 rfl rfl rfl g_1344 eρ3 dX12_lineAt_33 ?_
    refine z_aload_n X dX12_lineAt_36 rfl rfl ?_
    refine z_bipush (v := 80) X dX12_lineAt_37 (by decide) ?_
    obtain ⟨o4, co4, h⟩ := zb2 h
    refine z_callVv (As := [.int (80)]) (rest := []) (nA := 1) (pu := fun (_ : Unit) => True) (G1 := fun _ => rw D dA A o4 ad) X (cr_sign l X.2.2.2.2.2.2.2.2 X.2.2.2.2.2.2.1 co4) g_1703 g_1705 gs_53 g_15 g_1706 hd_yX12_sign ⟨rfl, rfl, Nat.le_of_ble_eq_true rfl, Nat.le_of_ble_eq_true rfl⟩ rfl (fun _ hG => rw_recv X hG) rfl (Nat.le_of_ble_eq_true rfl) dX12_lineAt_39 ⟨Nat.le_refl _, Nat.le_refl _⟩ (fun _ _ => ?_)
    refine z_aload_n X dX12_lineAt_42 rfl rfl ?_
    refine z_aload_n X dX12_lineAt_43 rfl rfl ?_
    refine r_getA X 23 rfl rfl g_1329 dX12_lineAt_44 ?_
    refine z_iload_n X dX12_lineAt_47 rfl rfl ?_
    obtain ⟨q5, h⟩ := zg h
    refine r_ald X 23 rfl rfl q5 dX12_lineAt_48 ?_
    obtain ⟨o6, co6, h⟩ := zb2 h
    refine z_callVv (As := [.int ((o4 23 (v1).toNatClampNeg))]) (rest := []) (nA := 1) (pu := fun (_ : Unit) => True) (G1 := fun _ => rw D dA A o6 ad) X (cr_number l X.2.2.2.2.2.2.2.2 X.2.2.2.2.2.2.1 co6) g_1707 g_1709 gs_54 g_15 g_1710 hd_yX12_number ⟨rfl, rfl, Nat.le_of_ble_eq_true rfl, Nat.le_of_ble_eq_true rfl⟩ rfl (fun _ hG => rw_recv X hG) rfl (Nat.le_of_ble_eq_true rfl) dX12_lineAt_49 ⟨Nat.le_refl _, Nat.le_refl _⟩ (fun _ _ => ?_)
    refine z_aload_n X dX12_lineAt_52 rfl rfl ?_
    refine z_bipush (v := 67) X dX12_lineAt_53 (by decide) ?_
    obtain ⟨o7, co7, h⟩ := zb2 h
    refine z_callVv (As := [.int (67)]) (rest := []) (nA := 1) (pu := fun (_ : Unit) => True) (G1 := fun _ => rw D dA A o7 ad) X (cr_sign l X.2.2.2.2.2.2.2.2 X.2.2.2.2.2.2.1 co7) g_1703 g_1705 gs_53 g_15 g_1706 hd_yX12_sign ⟨rfl, rfl, Nat.le_of_ble_eq_true rfl, Nat.le_of_ble_eq_true rfl⟩ rfl (fun _ hG => rw_recv X hG) rfl (Nat.le_of_ble_eq_true rfl) dX12_lineAt_55 ⟨Nat.le_refl _, Nat.le_refl _⟩ (fun _ _ => ?_)
    refine z_aload_n X dX12_lineAt_58 rfl rfl ?_
    refine z_aload_n X dX12_lineAt_59 rfl rfl ?_
    refine r_getA X 24 rfl rfl g_1330 dX12_lineAt_60 ?_
    refine z_iload_n X dX12_lineAt_63 rfl rfl ?_
    obtain ⟨q8, h⟩ := zg h
    refine r_ald X 24 rfl rfl q8 dX12_lineAt_64 ?_
    obtain ⟨o9, co9, h⟩ := zb2 h
    refine z_callVv (As := [.int ((o7 24 (v1).toNatClampNeg))]) (rest := []) (nA := 1) (pu := fun (_ : Unit) => True) (G1 := fun _ => rw D dA A o9 ad) X (cr_number l X.2.2.2.2.2.2.2.2 X.2.2.2.2.2.2.1 co9) g_1707 g_1709 gs_54 g_15 g_1710 hd_yX12_number ⟨rfl, rfl, Nat.le_of_ble_eq_true rfl, Nat.le_of_ble_eq_true rfl⟩ rfl (fun _ hG => rw_recv X hG) rfl (Nat.le_of_ble_eq_true rfl) dX12_lineAt_65 ⟨Nat.le_refl _, Nat.le_refl _⟩ (fun _ _ => ?_)
    refine z_aload_n X dX12_lineAt_68 rfl rfl ?_
    refine z_bipush (v := 58) X dX12_lineAt_69 (by decide) ?_
    obtain ⟨o10, co10, h⟩ := zb2 h
    refine z_callVv (As := [.int (58)]) (rest := []) (nA := 1) (pu := fun (_ : Unit) => True) (G1 := fun _ => rw D dA A o10 ad) X (cr_sign l X.2.2.2.2.2.2.2.2 X.2.2.2.2.2.2.1 co10) g_1703 g_1705 gs_53 g_15 g_1706 hd_yX12_sign ⟨rfl, rfl, Nat.le_of_ble_eq_true rfl, Nat.le_of_ble_eq_true rfl⟩ rfl (fun _ hG => rw_recv X hG) rfl (Nat.le_of_ble_eq_true rfl) dX12_lineAt_71 ⟨Nat.le_refl _, Nat.le_refl _⟩ (fun _ _ => ?_)
    refine z_aload_n X dX12_lineAt_74 rfl rfl ?_
    refine z_aload_n X dX12_lineAt_75 rfl rfl ?_
    refine r_getA X 27 rfl rfl g_1333 dX12_lineAt_76 ?_
    refine z_iload_n X dX12_lineAt_79 rfl rfl ?_
    obtain ⟨q11, h⟩ := zg h
    refine r_ald X 27 rfl rfl q11 dX12_lineAt_80 ?_
    obtain ⟨o12, co12, h⟩ := zb2 h
    refine z_callVv (As := [.int ((o10 27 (v1).toNatClampNeg))]) (rest := []) (nA := 1) (pu := fun (_ : Unit) => True) (G1 := fun _ => rw D dA A o12 ad) X (cr_number l X.2.2.2.2.2.2.2.2 X.2.2.2.2.2.2.1 co12) g_1707 g_1709 gs_54 g_15 g_1710 hd_yX12_number ⟨rfl, rfl, Nat.le_of_ble_eq_true rfl, Nat.le_of_ble_eq_true rfl⟩ rfl (fun _ hG => rw_recv X hG) rfl (Nat.le_of_ble_eq_true rfl) dX12_lineAt_81 ⟨Nat.le_refl _, Nat.le_refl _⟩ (fun _ _ => ?_)
    refine z_aload_n X dX12_lineAt_84 rfl rfl ?_
    refine z_bipush (v := 61) X dX12_lineAt_85 (by decide) ?_
    obtain ⟨o13, co13, h⟩ := zb2 h
    refine z_callVv (As := [.int (61)]) (rest := []) (nA := 1) (pu := fun (_ : Unit) => True) (G1 := fun _ => rw D dA A o13 ad) X (cr_sign l X.2.2.2.2.2.2.2.2 X.2.2.2.2.2.2.1 co13) g_1703 g_1705 gs_53 g_15 g_1706 hd_yX12_sign ⟨rfl, rfl, Nat.le_of_ble_eq_true rfl, Nat.le_of_ble_eq_true rfl⟩ rfl (fun _ hG => rw_recv X hG) rfl (Nat.le_of_ble_eq_true rfl) dX12_lineAt_87 ⟨Nat.le_refl _, Nat.le_refl _⟩ (fun _ _ => ?_)
    refine z_aload_n X dX12_lineAt_90 rfl rfl ?_
    refine z_aload_n X dX12_lineAt_91 rfl rfl ?_
    refine r_getA X 28 rfl rfl g_1334 dX12_lineAt_92 ?_
    refine z_iload_n X dX12_lineAt_95 rfl rfl ?_
    obtain ⟨q14, h⟩ := zg h
    refine r_ald X 28 rfl rfl q14 dX12_lineAt_96 ?_
    obtain ⟨o15, co15, h⟩ := zb2 h
    refine z_callVv (As := [.int ((o13 28 (v1).toNatClampNeg))]) (rest := []) (nA := 1) (pu := fun (_ : Unit) => True) (G1 := fun _ => rw D dA A o15 ad) X (cr_number l X.2.2.2.2.2.2.2.2 X.2.2.2.2.2.2.1 co15) g_1707 g_1709 gs_54 g_15 g_1710 hd_yX12_number ⟨rfl, rfl, Nat.le_of_ble_eq_true rfl, Nat.le_of_ble_eq_true rfl⟩ rfl (fun _ hG => rw_recv X hG) rfl (Nat.le_of_ble_eq_true rfl) dX12_lineAt_97 ⟨Nat.le_refl _, Nat.le_refl _⟩ (fun _ _ => ?_)
    refine z_aload_n X dX12_lineAt_100 rfl rfl ?_
    refine z_bipush (v := 43) X dX12_lineAt_101 (by decide) ?_
    obtain ⟨o16, co16, h⟩ := zb2 h
    refine z_callVv (As := [.int (43)]) (rest := []) (nA := 1) (pu := fun (_ : Unit) => True) (G1 := fun _ => rw D dA A o16 ad) X (cr_sign l X.2.2.2.2.2.2.2.2 X.2.2.2.2.2.2.1 co16) g_1703 g_1705 gs_53 g_15 g_1706 hd_yX12_sign ⟨rfl, rfl, Nat.le_of_ble_eq_true rfl, Nat.le_of_ble_eq_true rfl⟩ rfl (fun _ hG => rw_recv X hG) rfl (Nat.le_of_ble_eq_true rfl) dX12_lineAt_103 ⟨Nat.le_refl _, Nat.le_refl _⟩ (fun _ _ => ?_)
    refine z_aload_n X dX12_lineAt_106 rfl rfl ?_
    refine z_aload_n X dX12_lineAt_107 rfl rfl ?_
    refine r_getA X 29 rfl rfl g_1335 dX12_lineAt_108 ?_
    refine z_iload_n X dX12_lineAt_111 rfl rfl ?_
    obtain ⟨q17, h⟩ := zg h
    refine r_ald X 29 rfl rfl q17 dX12_lineAt_112 ?_
    obtain ⟨o18, co18, h⟩ := zb2 h
    refine z_callVv (As := [.int ((o16 29 (v1).toNatClampNeg))]) (rest := []) (nA := 1) (pu := fun (_ : Unit) => True) (G1 := fun _ => rw D dA A o18 ad) X (cr_number l X.2.2.2.2.2.2.2.2 X.2.2.2.2.2.2.1 co18) g_1707 g_1709 gs_54 g_15 g_1710 hd_yX12_number ⟨rfl, rfl, Nat.le_of_ble_eq_true rfl, Nat.le_of_ble_eq_true rfl⟩ rfl (fun _ hG => rw_recv X hG) rfl (Nat.le_of_ble_eq_true rfl) dX12_lineAt_113 ⟨Nat.le_refl _, Nat.le_refl _⟩ (fun _ _ => ?_)
    refine z_aload_n X dX12_lineAt_116 rfl rfl ?_
    refine r_getA X 26 rfl rfl g_1332 dX12_lineAt_117 ?_
    refine z_iload_n X dX12_lineAt_120 rfl rfl ?_
    obtain ⟨q19, h⟩ := zg h
    refine r_ald X 26 rfl rfl q19 dX12_lineAt_121 ?_
    obtain ⟨x20, ex20, h⟩ := zb h
    rw [ex20]
    refine z_istore_n (lo' := [(3, .int (x20)), (0, .ref (ad 40)), (1, .int (v1)), (2, .int (v2))]) X dX12_lineAt_122 rfl (by rw [hml]; decide) rfl rfl ?_
    refine z_aload_n X dX12_lineAt_123 rfl rfl ?_
    refine z_iload_n X dX12_lineAt_124 rfl rfl ?_
    refine z_if_ne (tgt := 133) X dX12_lineAt_125 (by decide) (fun q => ?_) (fun q => ?_)
    · have h := zp q h
      refine z_bipush (v := 126) X dX12_lineAt_128 (by decide) ?_
      refine z_goto (tgt := 155) X dX12_lineAt_130 (by decide) ?_
      obtain ⟨o21, co21, h⟩ := zb2 h
      refine z_callVv (As := [.int (126)]) (rest := []) (nA := 1) (pu := fun (_ : Unit) => True) (G1 := fun _ => rw D dA A o21 ad) X (cr_sign l X.2.2.2.2.2.2.2.2 X.2.2.2.2.2.2.1 co21) g_1703 g_1705 gs_53 g_15 g_1706 hd_yX12_sign ⟨rfl, rfl, Nat.le_of_ble_eq_true rfl, Nat.le_of_ble_eq_true rfl⟩ rfl (fun _ hG => rw_recv X hG) rfl (Nat.le_of_ble_eq_true rfl) dX12_lineAt_155 ⟨Nat.le_refl _, Nat.le_refl _⟩ (fun _ _ => ?_)
      refine z_aload_n X dX12_lineAt_158 rfl rfl ?_
      refine r_getS X 38 rfl rfl g_1344 dX12_lineAt_159 ?_
      obtain rfl := Option.some.inj h
      exact z_iret X hr rfl (fun t hG hF _ => ⟨⟨_, (), rfl, ⟨rfl, trivial⟩, hG⟩, hF⟩) dX12_lineAt_162
    · have h := zn q h
      refine z_iload_n X dX12_lineAt_133 rfl rfl ?_
      refine z_iconst (v := 1) X dX12_lineAt_134 (by decide) ?_
      refine z_icmp_ne (tgt := 143) X dX12_lineAt_135 (by decide) (fun q => ?_) (fun q => ?_)
      · have h := zp q h
        refine z_bipush (v := 46) X dX12_lineAt_138 (by decide) ?_
        refine z_goto (tgt := 155) X dX12_lineAt_140 (by decide) ?_
        obtain ⟨o22, co22, h⟩ := zb2 h
        refine z_callVv (As := [.int (46)]) (rest := []) (nA := 1) (pu := fun (_ : Unit) => True) (G1 := fun _ => rw D dA A o22 ad) X (cr_sign l X.2.2.2.2.2.2.2.2 X.2.2.2.2.2.2.1 co22) g_1703 g_1705 gs_53 g_15 g_1706 hd_yX12_sign ⟨rfl, rfl, Nat.le_of_ble_eq_true rfl, Nat.le_of_ble_eq_true rfl⟩ rfl (fun _ hG => rw_recv X hG) rfl (Nat.le_of_ble_eq_true rfl) dX12_lineAt_155 ⟨Nat.le_refl _, Nat.le_refl _⟩ (fun _ _ => ?_)
        refine z_aload_n X dX12_lineAt_158 rfl rfl ?_
        refine r_getS X 38 rfl rfl g_1344 dX12_lineAt_159 ?_
        obtain rfl := Option.some.inj h
        exact z_iret X hr rfl (fun t hG hF _ => ⟨⟨_, (), rfl, ⟨rfl, trivial⟩, hG⟩, hF⟩) dX12_lineAt_162
      · have h := zn q h
        refine z_iload_n X dX12_lineAt_143 rfl rfl ?_
        refine z_iconst (v := 2) X dX12_lineAt_144 (by decide) ?_
        refine z_icmp_ne (tgt := 153) X dX12_lineAt_145 (by decide) (fun q => ?_) (fun q => ?_)
        · have h := zp q h
          refine z_bipush (v := 33) X dX12_lineAt_148 (by decide) ?_
          refine z_goto (tgt := 155) X dX12_lineAt_150 (by decide) ?_
          obtain ⟨o23, co23, h⟩ := zb2 h
          refine z_callVv (As := [.int (33)]) (rest := []) (nA := 1) (pu := fun (_ : Unit) => True) (G1 := fun _ => rw D dA A o23 ad) X (cr_sign l X.2.2.2.2.2.2.2.2 X.2.2.2.2.2.2.1 co23) g_1703 g_1705 gs_53 g_15 g_1706 hd_yX12_sign ⟨rfl, rfl, Nat.le_of_ble_eq_true rfl, Nat.le_of_ble_eq_true rfl⟩ rfl (fun _ hG => rw_recv X hG) rfl (Nat.le_of_ble_eq_true rfl) dX12_lineAt_155 ⟨Nat.le_refl _, Nat.le_refl _⟩ (fun _ _ => ?_)
          refine z_aload_n X dX12_lineAt_158 rfl rfl ?_
          refine r_getS X 38 rfl rfl g_1344 dX12_lineAt_159 ?_
          obtain rfl := Option.some.inj h
          exact z_iret X hr rfl (fun t hG hF _ => ⟨⟨_, (), rfl, ⟨rfl, trivial⟩, hG⟩, hF⟩) dX12_lineAt_162
        · have h := zn q h
          refine z_bipush (v := 63) X dX12_lineAt_153 (by decide) ?_
          obtain ⟨o24, co24, h⟩ := zb2 h
          refine z_callVv (As := [.int (63)]) (rest := []) (nA := 1) (pu := fun (_ : Unit) => True) (G1 := fun _ => rw D dA A o24 ad) X (cr_sign l X.2.2.2.2.2.2.2.2 X.2.2.2.2.2.2.1 co24) g_1703 g_1705 gs_53 g_15 g_1706 hd_yX12_sign ⟨rfl, rfl, Nat.le_of_ble_eq_true rfl, Nat.le_of_ble_eq_true rfl⟩ rfl (fun _ hG => rw_recv X hG) rfl (Nat.le_of_ble_eq_true rfl) dX12_lineAt_155 ⟨Nat.le_refl _, Nat.le_refl _⟩ (fun _ _ => ?_)
          refine z_aload_n X dX12_lineAt_158 rfl rfl ?_
          refine r_getS X 38 rfl rfl g_1344 dX12_lineAt_159 ?_
          obtain rfl := Option.some.inj h
          exact z_iret X hr rfl (fun t hG hF _ => ⟨⟨_, (), rfl, ⟨rfl, trivial⟩, hG⟩, hF⟩) dX12_lineAt_162
def fr_lineAt_17 (ρ : Rho) (v1 : Int32) (v2 : Int32) : Option (Rho × Int32) := fr_lineAt_18 ρ v1 v2 1
set_option maxRecDepth 100000 in
set_option maxHeartbeats 4000000 in
theorem br_lineAt_17 {p : Program} {l : Launch} {e : Env} {s : State} {m : MethodId} {args : Array Value} {below : List Frame} {meth : Method} {c : Code} {D : va_G} {dA : Nat → ClassId} {A : Nat → Prop} {ad : Nat → Nat} {o : Rho × Int32} (X : zc p l s m args meth c cX12_lineAt RX12 D dA A) (hml : c.maxLocals = 4) (hr : meth.sig.returnType = (some .int)) {ρ : Rho} {v1 : Int32} {v2 : Int32} (h : fr_lineAt_17 ρ v1 v2 = some o) : zz p l e ({ frames := 60, cells := 0, slots := 0, locals := 600 } : Room) s m args below meth c A (rw D dA A ρ ad) 0 0 (MQ below (va_Qi (fun r (_ : Unit) => r = o.2 ∧ True) (fun _ t => rw D dA A o.1 ad t.heap) A) args s 0 0 A) 17 [(0, .ref (ad 40)), (1, .int (v1)), (2, .int (v2))] [] [.ref (ad 40)] := by
  unfold fr_lineAt_17 at h
  refine z_iconst (v := 1) X dX12_lineAt_17 (by decide) ?_
  refine zz.pick (lo' := [(0, .ref (ad 40)), (1, .int (v1)), (2, .int (v2))]) [0, 1, 2] rfl ?_
  exact br_lineAt_18 X hml hr h
def fr_lineAt (ρ : Rho) (a1 : Int32) (a2 : Int32) : Option (Rho × Int32) := (fr_isLeg ρ (a1)).bind fun o1 => (if o1 = 0 then fr_lineAt_17 ρ a1 a2
  else (if a2 < 0 then fr_lineAt_17 ρ a1 a2
  else fr_lineAt_18 ρ a1 a2 0))
set_option maxRecDepth 100000 in
set_option maxHeartbeats 4000000 in
theorem br_lineAt {p : Program} {l : Launch} {e : Env} {s : State} {m : MethodId} {args : Array Value} {below : List Frame} {meth : Method} {c : Code} {D : va_G} {dA : Nat → ClassId} {A : Nat → Prop} {ad : Nat → Nat} {o : Rho × Int32} (X : zc p l s m args meth c cX12_lineAt RX12 D dA A) (hml : c.maxLocals = 4) (hr : meth.sig.returnType = (some .int)) {ρ : Rho} {a1 : Int32} {a2 : Int32} (h : fr_lineAt ρ a1 a2 = some o) : zz p l e ({ frames := 60, cells := 0, slots := 0, locals := 600 } : Room) s m args below meth c A (rw D dA A ρ ad) 0 0 (MQ below (va_Qi (fun r (_ : Unit) => r = o.2 ∧ True) (fun _ t => rw D dA A o.1 ad t.heap) A) args s 0 0 A) 0 [(0, .ref (ad 40)), (1, .int (a1)), (2, .int (a2))] [] [] := by
  unfold fr_lineAt at h
  refine z_aload_n X dX12_lineAt_0 rfl rfl ?_
  refine z_aload_n X dX12_lineAt_1 rfl rfl ?_
  refine z_iload_n X dX12_lineAt_2 rfl rfl ?_
  obtain ⟨o1, co1, h⟩ := zb2 h
  refine z_callVi (As := [.int (a1)]) (rest := [.ref (ad 40)]) (nA := 1) (r0 := o1) (pu := fun (_ : Unit) => True) (G1 := fun _ => rw D dA A ρ ad) X (cr_isLeg l X.2.2.2.2.2.2.2.2 X.2.2.2.2.2.2.1 co1) g_1663 g_1665 gs_51 g_15 g_1666 hd_yX12_isLeg ⟨rfl, rfl, Nat.le_of_ble_eq_true rfl, Nat.le_of_ble_eq_true rfl⟩ rfl (fun _ hG => rw_recv X hG) rfl (Nat.le_of_ble_eq_true rfl) dX12_lineAt_3 ⟨Nat.le_refl _, Nat.le_refl _⟩ (fun _ _ => ?_)
  refine z_if_eq (tgt := 17) X dX12_lineAt_6 (by decide) (fun q => ?_) (fun q => ?_)
  · have h := zp q h
    refine zz.pick (lo' := [(0, .ref (ad 40)), (1, .int (a1)), (2, .int (a2))]) [0, 1, 2] rfl ?_
    exact br_lineAt_17 X hml hr h
  · have h := zn q h
    refine z_iload_n X dX12_lineAt_9 rfl rfl ?_
    refine z_if_lt (tgt := 17) X dX12_lineAt_10 (by decide) (fun q => ?_) (fun q => ?_)
    · have h := zp q h
      refine zz.pick (lo' := [(0, .ref (ad 40)), (1, .int (a1)), (2, .int (a2))]) [0, 1, 2] rfl ?_
      exact br_lineAt_17 X hml hr h
    · have h := zn q h
      refine z_iconst (v := 0) X dX12_lineAt_13 (by decide) ?_
      refine z_goto (tgt := 18) X dX12_lineAt_14 (by decide) ?_
      refine zz.pick (lo' := [(0, .ref (ad 40)), (1, .int (a1)), (2, .int (a2))]) [0, 1, 2] rfl ?_
      exact br_lineAt_18 X hml hr h
theorem cr_lineAt (l : Launch) {D : va_G} {dA : Nat → ClassId} {A : Nat → Prop} {n : Nat} {ad : Nat → Nat} (hst : l.stackTraces = false) (hA : ∀ q, n ≤ q → A q) {ρ : Rho} {a1 : Int32} {a2 : Int32} {o : Rho × Int32} (h : fr_lineAt ρ a1 a2 = some o) : Met l yX12_lineAt (.code yX12_lineAt cX12_lineAt 4 (some .int) :: gT) ({ frames := 60, cells := 0, slots := 0, locals := 600 } : Room) (va_Pc [.ref (ad 40), .int a1, .int a2] (zB D dA A n (rw D dA A ρ ad))) (va_Qi (fun r (_ : Unit) => r = o.2 ∧ True) (fun _ t => rw D dA A o.1 ad t.heap) A) 0 0 A :=
  z_met (by decide) hA hst (Nat.le_of_ble_eq_true rfl) rfl rfl (fun p e s m below meth c X hml hr _ => br_lineAt X hml hr h)
