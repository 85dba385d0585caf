-- lives(LMeshBiller;I[I)Z
def fl_lives_98 (d : Nat) (k73 : GS → Int32 → Int32 → Int32 → Int32 → Option (GS × Int32)) (σ : GS) (v3 : Int32) (v5 : Int32) (v6 : Int32) (s0 : Int32) (s1 : Int32) : Option (GS × Int32) := (some ((s0 + s1))).bind fun x1 => (some (v6 + 1)).bind fun x2 => k73 σ v3 x1 v5 x2
set_option maxRecDepth 100000 in
set_option maxHeartbeats 4000000 in
theorem bl_lives_98 {p : Program} {l : Launch} {e : Env} {s : State} {m : MethodId} {args : Array Value} {below : List Frame} {meth : Method} {c : Code} {D : va_G} {dA : Nat → ClassId} {A : Nat → Prop} {ar : Nat → Nat} {ob b Ls : Nat} {sc : Nat → Int32} {d : Nat} {o : GS × Int32} (X : zc p l s m args meth c cL_lives RL D dA A) (Y : zY s A b Ls sc) (hml : c.maxLocals = 7) (hr : meth.sig.returnType = (some .boolean)) {k73 : GS → Int32 → Int32 → Int32 → Int32 → Option (GS × Int32)} (hk73 : ∀ {cells slots : Nat} (hcs : cells + (0) ≤ 4 * d + 1 ∧ slots + (0) ≤ 1826 * d + 6) {σ : GS} {v3 : Int32} {v4 : Int32} {v5 : Int32} {v6 : Int32}, k73 σ v3 v4 v5 v6 = some o → zz p l e ({ frames := 16, cells := 4 * d + 1, slots := 1826 * d + 6, locals := 672 } : Room) s m args below meth c A (gw D dA A σ ob ar) cells slots (MQ below (va_Qi (fun r (_ : Unit) => r = o.2 ∧ True) (fun _ t => gw D dA A o.1 ob ar t.heap) A) args s (4 * d + 1) (1826 * d + 6) A) 73 [(0, .ref ob), (2, .ref (ar 2)), (3, .int (v3)), (4, .int (v4)), (5, .int (v5)), (6, .int (v6))] [] []) {cells slots : Nat} (hcs : cells + (0) ≤ 4 * d + 1 ∧ slots + (0) ≤ 1826 * d + 6) {σ : GS} {v3 : Int32} {v5 : Int32} {v6 : Int32} {s0 : Int32} {s1 : Int32} (h : fl_lives_98 d k73 σ v3 v5 v6 s0 s1 = some o) : zz p l e ({ frames := 16, cells := 4 * d + 1, slots := 1826 * d + 6, locals := 672 } : Room) s m args below meth c A (gw D dA A σ ob ar) cells slots (MQ below (va_Qi (fun r (_ : Unit) => r = o.2 ∧ True) (fun _ t => gw D dA A o.1 ob ar t.heap) A) args s (4 * d + 1) (1826 * d + 6) A) 98 [(0, .ref ob), (2, .ref (ar 2)), (3, .int (v3)), (5, .int (v5)), (6, .int (v6))] [] [.int (s1), .int (s0)] := by
  obtain ⟨hcs1, hcs2⟩ := hcs
  unfold fl_lives_98 at h
  refine z_iadd X dL_lives_98 ?_
  obtain ⟨x1, ex1, h⟩ := zb h
  rw [ex1]
  refine z_istore (lo' := [(4, .int (x1)), (0, .ref ob), (2, .ref (ar 2)), (3, .int (v3)), (5, .int (v5)), (6, .int (v6))]) X dL_lives_99 (by rw [hml]; decide) rfl rfl ?_
  obtain ⟨x2, ex2, h⟩ := zb h
  refine z_iinc (v := x2) (lo' := [(6, .int (x2)), (4, .int (x1)), (0, .ref ob), (2, .ref (ar 2)), (3, .int (v3)), (5, .int (v5))]) X dL_lives_101 rfl ex2 (by rw [hml]; decide) rfl rfl ?_
  refine z_goto (tgt := 73) X dL_lives_104 (by decide) ?_
  refine zz.pick (lo' := [(0, .ref ob), (2, .ref (ar 2)), (3, .int (v3)), (4, .int (x1)), (5, .int (v5)), (6, .int (x2))]) [0, 2, 3, 4, 5, 6] rfl ?_
  exact hk73 ⟨by omega, by omega⟩ h
def fl_lives_73 (d : Nat) : Nat → GS → Int32 → Int32 → Int32 → Int32 → Option (GS × Int32)
  | 0, _, _, _, _, _ => none
  | n + 1, σ, v3, v4, v5, v6 => (if (σ.2 2 (2 : Int32).toNatClampNeg) ≤ v6 then if (0 : Int32) < 0 ∨ 5 ≤ ((0 : Int32)).toNatClampNeg then none else (some ((σ.1, cs σ.2 2 ((0 : Int32)).toNatClampNeg (((σ.2 2 (0 : Int32).toNatClampNeg) + v3))) : GS)).bind fun σ1 => (if v5 = v4 then some (σ1, 1)
  else some (σ1, 0))
  else (aq_stateOf σ.1 (v6)).bind fun o3 => (if o3 = 2 then fl_lives_98 d (fl_lives_73 d n) σ v3 v5 v6 v4 1
  else fl_lives_98 d (fl_lives_73 d n) σ v3 v5 v6 v4 0))
set_option maxRecDepth 100000 in
set_option maxHeartbeats 4000000 in
theorem bl_lives_73 {p : Program} {l : Launch} {e : Env} {s : State} {m : MethodId} {args : Array Value} {below : List Frame} {meth : Method} {c : Code} {D : va_G} {dA : Nat → ClassId} {A : Nat → Prop} {ar : Nat → Nat} {ob b Ls : Nat} {sc : Nat → Int32} {d : Nat} {o : GS × Int32} (X : zc p l s m args meth c cL_lives RL D dA A) (Y : zY s A b Ls sc) (hml : c.maxLocals = 7) (hr : meth.sig.returnType = (some .boolean)) : ∀ (n : Nat) {cells slots : Nat} (hcs : cells + (0) ≤ 4 * d + 1 ∧ slots + (0) ≤ 1826 * d + 6) {σ : GS} {v3 : Int32} {v4 : Int32} {v5 : Int32} {v6 : Int32}, fl_lives_73 d n σ v3 v4 v5 v6 = some o → zz p l e ({ frames := 16, cells := 4 * d + 1, slots := 1826 * d + 6, locals := 672 } : Room) s m args below meth c A (gw D dA A σ ob ar) cells slots (MQ below (va_Qi (fun r (_ : Unit) => r = o.2 ∧ True) (fun _ t => gw D dA A o.1 ob ar t.heap) A) args s (4 * d + 1) (1826 * d + 6) A) 73 [(0, .ref ob), (2, .ref (ar 2)), (3, .int (v3)), (4, .int (v4)), (5, .int (v5)), (6, .int (v6))] [] [] := by
  intro n
  induction n with
  | zero => intro cells slots hcs σ v3 v4 v5 v6 h; exact (nomatch (show none = some o from h))
  | succ n ih =>
    intro cells slots hcs σ v3 v4 v5 v6 h
    obtain ⟨hcs1, hcs2⟩ := hcs
    rw [fl_lives_73] at h
    refine z_iload X dL_lives_73 rfl ?_
    refine z_aload_n X dL_lives_75 rfl rfl ?_
    refine z_iconst (v := 2) X dL_lives_76 (by decide) ?_
    refine l_ald X 2 rfl (by decide) dL_lives_77 ?_
    refine z_icmp_ge (tgt := 107) X dL_lives_78 (by decide) (fun q => ?_) (fun q => ?_)
    · have h := zp q h
      refine z_aload_n X dL_lives_107 rfl rfl ?_
      refine z_iconst (v := 0) X dL_lives_108 (by decide) ?_
      refine z_dup2 X dL_lives_109 rfl rfl ?_
      refine l_ald X 2 rfl (by decide) dL_lives_110 ?_
      refine z_iload_n X dL_lives_111 rfl rfl ?_
      refine z_iadd X dL_lives_112 ?_
      obtain ⟨q2, h⟩ := zg h
      obtain ⟨σ1, eσ1, h⟩ := zb h
      refine l_ast X 2 rfl q2 eσ1 dL_lives_113 ?_
      refine z_iload X dL_lives_114 rfl ?_
      refine z_iload X dL_lives_116 rfl ?_
      refine z_icmp_ne (tgt := 125) X dL_lives_118 (by decide) (fun q => ?_) (fun q => ?_)
      · have h := zp q h
        refine z_iconst (v := 1) X dL_lives_121 (by decide) ?_
        refine z_goto (tgt := 126) X dL_lives_122 (by decide) ?_
        obtain rfl := Option.some.inj h
        refine zz.widen (k := 4 * d + 1) (n := 1826 * d + 6) (by omega) (by omega) ?_
        exact z_iret X hr rfl (fun t hG hF _ => ⟨⟨_, (), rfl, ⟨rfl, trivial⟩, hG⟩, hF⟩) dL_lives_126
      · have h := zn q h
        refine z_iconst (v := 0) X dL_lives_125 (by decide) ?_
        obtain rfl := Option.some.inj h
        refine zz.widen (k := 4 * d + 1) (n := 1826 * d + 6) (by omega) (by omega) ?_
        exact z_iret X hr rfl (fun t hG hF _ => ⟨⟨_, (), rfl, ⟨rfl, trivial⟩, hG⟩, hF⟩) dL_lives_126
    · have h := zn q h
      refine z_iload X dL_lives_81 rfl ?_
      refine z_aload_n X dL_lives_83 rfl rfl ?_
      refine z_iload X dL_lives_84 rfl ?_
      obtain ⟨o3, co3, h⟩ := zb2 h
      refine l_q (As := [.int (v6)]) (rest := [.int (v4)]) (nA := 1) (mc := 0) (ms := 0) (rm := ({ frames := 10, cells := 0, slots := 0, locals := 420 } : Room)) (r0 := o3) X (fun _ h11 => cz_stateOf l X.2.2.2.2.2.2.2.2 X.2.2.2.2.2.2.1 h11 (fun _ z => nomatch z) (qo_eq co3)) n_775 n_776 n_777 n_1 n_778 nh_yX11_stateOf ⟨rfl, rfl, Nat.le_of_ble_eq_true rfl, Nat.le_of_ble_eq_true rfl⟩ rfl rfl (Nat.le_of_ble_eq_true rfl) dL_lives_86 ⟨by show _ ≤ 4 * d + 1; omega, by show _ ≤ 1826 * d + 6; omega⟩ ?_
      refine z_iconst (v := 2) X dL_lives_89 (by decide) ?_
      refine z_icmp_ne (tgt := 97) X dL_lives_90 (by decide) (fun q => ?_) (fun q => ?_)
      · have h := zp q h
        refine z_iconst (v := 1) X dL_lives_93 (by decide) ?_
        refine z_goto (tgt := 98) X dL_lives_94 (by decide) ?_
        refine zz.pick (lo' := [(0, .ref ob), (2, .ref (ar 2)), (3, .int (v3)), (5, .int (v5)), (6, .int (v6))]) [0, 2, 3, 5, 6] rfl ?_
        exact bl_lives_98 X Y hml hr ih ⟨by omega, by omega⟩ h
      · have h := zn q h
        refine z_iconst (v := 0) X dL_lives_97 (by decide) ?_
        refine zz.pick (lo' := [(0, .ref ob), (2, .ref (ar 2)), (3, .int (v3)), (5, .int (v5)), (6, .int (v6))]) [0, 2, 3, 5, 6] rfl ?_
        exact bl_lives_98 X Y hml hr ih ⟨by omega, by omega⟩ h
def fl_lives_50 (d : Nat) (k25 : GS → Int32 → Int32 → Int32 → Option (GS × Int32)) (σ : GS) (v3 : Int32) (v5 : Int32) (s0 : Int32) (s1 : Int32) : Option (GS × Int32) := (some ((s0 - s1))).bind fun x1 => (some (v5 + 1)).bind fun x2 => k25 σ v3 x1 x2
set_option maxRecDepth 100000 in
set_option maxHeartbeats 4000000 in
theorem bl_lives_50 {p : Program} {l : Launch} {e : Env} {s : State} {m : MethodId} {args : Array Value} {below : List Frame} {meth : Method} {c : Code} {D : va_G} {dA : Nat → ClassId} {A : Nat → Prop} {ar : Nat → Nat} {ob b Ls : Nat} {sc : Nat → Int32} {d : Nat} {o : GS × Int32} (X : zc p l s m args meth c cL_lives RL D dA A) (Y : zY s A b Ls sc) (hml : c.maxLocals = 7) (hr : meth.sig.returnType = (some .boolean)) {k25 : GS → Int32 → Int32 → Int32 → Option (GS × Int32)} (hk25 : ∀ {cells slots : Nat} (hcs : cells + (4 * d + 1) ≤ 4 * d + 1 ∧ slots + (1826 * d + 6) ≤ 1826 * d + 6) {σ : GS} {v3 : Int32} {v4 : Int32} {v5 : Int32}, k25 σ v3 v4 v5 = some o → zz p l e ({ frames := 16, cells := 4 * d + 1, slots := 1826 * d + 6, locals := 672 } : Room) s m args below meth c A (gw D dA A σ ob ar) cells slots (MQ below (va_Qi (fun r (_ : Unit) => r = o.2 ∧ True) (fun _ t => gw D dA A o.1 ob ar t.heap) A) args s (4 * d + 1) (1826 * d + 6) A) 25 [(0, .ref ob), (2, .ref (ar 2)), (3, .int (v3)), (4, .int (v4)), (5, .int (v5))] [] []) {cells slots : Nat} (hcs : cells + (4 * d + 1) ≤ 4 * d + 1 ∧ slots + (1826 * d + 6) ≤ 1826 * d + 6) {σ : GS} {v3 : Int32} {v5 : Int32} {s0 : Int32} {s1 : Int32} (h : fl_lives_50 d k25 σ v3 v5 s0 s1 = some o) : zz p l e ({ frames := 16, cells := 4 * d + 1, slots := 1826 * d + 6, locals := 672 } : Room) s m args below meth c A (gw D dA A σ ob ar) cells slots (MQ below (va_Qi (fun r (_ : Unit) => r = o.2 ∧ True) (fun _ t => gw D dA A o.1 ob ar t.heap) A) args s (4 * d + 1) (1826 * d + 6) A) 50 [(0, .ref ob), (2, .ref (ar 2)), (3, .int (v3)), (5, .int (v5))] [] [.int (s1), .int (s0)] := by
  obtain ⟨hcs1, hcs2⟩ := hcs
  unfold fl_lives_50 at h
  refine z_isub X dL_lives_50 ?_
  obtain ⟨x1, ex1, h⟩ := zb h
  rw [ex1]
  refine z_istore (lo' := [(4, .int (x1)), (0, .ref ob), (2, .ref (ar 2)), (3, .int (v3)), (5, .int (v5))]) X dL_lives_51 (by rw [hml]; decide) rfl rfl ?_
  obtain ⟨x2, ex2, h⟩ := zb h
  refine z_iinc (v := x2) (lo' := [(5, .int (x2)), (4, .int (x1)), (0, .ref ob), (2, .ref (ar 2)), (3, .int (v3))]) X dL_lives_53 rfl ex2 (by rw [hml]; decide) rfl rfl ?_
  refine z_goto (tgt := 25) X dL_lives_56 (by decide) ?_
  refine zz.pick (lo' := [(0, .ref ob), (2, .ref (ar 2)), (3, .int (v3)), (4, .int (x1)), (5, .int (x2))]) [0, 2, 3, 4, 5] rfl ?_
  exact hk25 ⟨by omega, by omega⟩ h
def fl_lives_25 (d : Nat) : Nat → GS → Int32 → Int32 → Int32 → Option (GS × Int32)
  | 0, _, _, _, _ => none
  | n + 1, σ, v3, v4, v5 => (if (σ.2 2 (2 : Int32).toNatClampNeg) ≤ v5 then (ak_pass σ.1 (v3) (0) (0)).bind fun o1 => if ¬ (o1.2 = nI d ∧ d ≤ 9000000) then none else (some ((o1.1, σ.2) : GS)).bind fun σ2 => (some (o1.2)).bind fun x4 => fl_lives_73 d FU σ2 v3 v4 x4 0
  else (aq_stateOf σ.1 (v5)).bind fun o5 => (if o5 = 2 then fl_lives_50 d (fl_lives_25 d n) σ v3 v5 v4 1
  else fl_lives_50 d (fl_lives_25 d n) σ v3 v5 v4 0))
set_option maxRecDepth 100000 in
set_option maxHeartbeats 4000000 in
theorem bl_lives_25 {p : Program} {l : Launch} {e : Env} {s : State} {m : MethodId} {args : Array Value} {below : List Frame} {meth : Method} {c : Code} {D : va_G} {dA : Nat → ClassId} {A : Nat → Prop} {ar : Nat → Nat} {ob b Ls : Nat} {sc : Nat → Int32} {d : Nat} {o : GS × Int32} (X : zc p l s m args meth c cL_lives RL D dA A) (Y : zY s A b Ls sc) (hml : c.maxLocals = 7) (hr : meth.sig.returnType = (some .boolean)) : ∀ (n : Nat) {cells slots : Nat} (hcs : cells + (4 * d + 1) ≤ 4 * d + 1 ∧ slots + (1826 * d + 6) ≤ 1826 * d + 6) {σ : GS} {v3 : Int32} {v4 : Int32} {v5 : Int32}, fl_lives_25 d n σ v3 v4 v5 = some o → zz p l e ({ frames := 16, cells := 4 * d + 1, slots := 1826 * d + 6, locals := 672 } : Room) s m args below meth c A (gw D dA A σ ob ar) cells slots (MQ below (va_Qi (fun r (_ : Unit) => r = o.2 ∧ True) (fun _ t => gw D dA A o.1 ob ar t.heap) A) args s (4 * d + 1) (1826 * d + 6) A) 25 [(0, .ref ob), (2, .ref (ar 2)), (3, .int (v3)), (4, .int (v4)), (5, .int (v5))] [] [] := by
  intro n
  induction n with
  | zero => intro cells slots hcs σ v3 v4 v5 h; exact (nomatch (show none = some o from h))
  | succ n ih =>
    intro cells slots hcs σ v3 v4 v5 h
    obtain ⟨hcs1, hcs2⟩ := hcs
    rw [fl_lives_25] at h
    refine z_iload X dL_lives_25 rfl ?_
    refine z_aload_n X dL_lives_27 rfl rfl ?_
    refine z_iconst (v := 2) X dL_lives_28 (by decide) ?_
    refine l_ald X 2 rfl (by decide) dL_lives_29 ?_
    refine z_icmp_ge (tgt := 59) X dL_lives_30 (by decide) (fun q => ?_) (fun q => ?_)
    · have h := zp q h
      refine z_aload_n X dL_lives_59 rfl rfl ?_
      refine z_bipush (v := 6) X dL_lives_60 (by decide) ?_
      refine z_iload_n X dL_lives_62 rfl rfl ?_
      refine z_iconst (v := 0) X dL_lives_63 (by decide) ?_
      refine z_iconst (v := 0) X dL_lives_64 (by decide) ?_
      obtain ⟨o1, co1, h⟩ := zb2 h
      obtain ⟨q3, h⟩ := zg h
      replace q3 := Decidable.not_not.mp q3
      obtain ⟨σ2, eσ2, h⟩ := zb h
      refine z_callWi (As := [.ref ob, .int (6), .int (v3), .int (0), .int (0)]) (rest := []) (nA := 5) (mc := 4 * d + 1) (ms := 1826 * d + 6) (rm := ({ frames := 15, cells := 4 * d + 1, slots := 1826 * d + 6, locals := 630 } : Room)) (S := Unit) (post := fun r _ => r = o1.2 ∧ True) (G1 := fun _ => gw D dA A (o1.1, σ.2) ob ar) X Y.1 (la_pass l X.2.2.2.2.2.2.2.2 X.2.2.2.2.2.2.1 q3.1 q3.2 co1) n_390 n_391 n_0 n_392 nh_yL_asks ⟨rfl, rfl, Nat.le_of_ble_eq_true rfl, Nat.le_of_ble_eq_true rfl⟩ rfl rfl (Nat.le_of_ble_eq_true rfl) dL_lives_65 ⟨by show _ ≤ 4 * d + 1; omega, by show _ ≤ 1826 * d + 6; omega⟩ (fun r9 _ hr9 => ?_)
      obtain ⟨rfl, -⟩ := hr9
      rw [eσ2]
      obtain ⟨x4, ex4, h⟩ := zb h
      rw [ex4]
      refine z_istore (lo' := [(5, .int (x4)), (0, .ref ob), (2, .ref (ar 2)), (3, .int (v3)), (4, .int (v4))]) X dL_lives_68 (by rw [hml]; decide) rfl rfl ?_
      refine z_iconst (v := 0) X dL_lives_70 (by decide) ?_
      refine z_istore (lo' := [(6, .int (0)), (5, .int (x4)), (0, .ref ob), (2, .ref (ar 2)), (3, .int (v3)), (4, .int (v4))]) X dL_lives_71 (by rw [hml]; decide) rfl rfl ?_
      refine zz.pick (lo' := [(0, .ref ob), (2, .ref (ar 2)), (3, .int (v3)), (4, .int (v4)), (5, .int (x4)), (6, .int (0))]) [0, 2, 3, 4, 5, 6] rfl ?_
      exact bl_lives_73 X Y hml hr FU ⟨by omega, by omega⟩ h
    · have h := zn q h
      refine z_iload X dL_lives_33 rfl ?_
      refine z_aload_n X dL_lives_35 rfl rfl ?_
      refine z_iload X dL_lives_36 rfl ?_
      obtain ⟨o5, co5, h⟩ := zb2 h
      refine l_q (As := [.int (v5)]) (rest := [.int (v4)]) (nA := 1) (mc := 0) (ms := 0) (rm := ({ frames := 10, cells := 0, slots := 0, locals := 420 } : Room)) (r0 := o5) X (fun _ h11 => cz_stateOf l X.2.2.2.2.2.2.2.2 X.2.2.2.2.2.2.1 h11 (fun _ z => nomatch z) (qo_eq co5)) n_775 n_776 n_777 n_1 n_778 nh_yX11_stateOf ⟨rfl, rfl, Nat.le_of_ble_eq_true rfl, Nat.le_of_ble_eq_true rfl⟩ rfl rfl (Nat.le_of_ble_eq_true rfl) dL_lives_38 ⟨by show _ ≤ 4 * d + 1; omega, by show _ ≤ 1826 * d + 6; omega⟩ ?_
      refine z_iconst (v := 2) X dL_lives_41 (by decide) ?_
      refine z_icmp_ne (tgt := 49) X dL_lives_42 (by decide) (fun q => ?_) (fun q => ?_)
      · have h := zp q h
        refine z_iconst (v := 1) X dL_lives_45 (by decide) ?_
        refine z_goto (tgt := 50) X dL_lives_46 (by decide) ?_
        refine zz.pick (lo' := [(0, .ref ob), (2, .ref (ar 2)), (3, .int (v3)), (5, .int (v5))]) [0, 2, 3, 5] rfl ?_
        exact bl_lives_50 X Y hml hr ih ⟨by omega, by omega⟩ h
      · have h := zn q h
        refine z_iconst (v := 0) X dL_lives_49 (by decide) ?_
        refine zz.pick (lo' := [(0, .ref ob), (2, .ref (ar 2)), (3, .int (v3)), (5, .int (v5))]) [0, 2, 3, 5] rfl ?_
        exact bl_lives_50 X Y hml hr ih ⟨by omega, by omega⟩ h
def fl_lives_16 (d : Nat) (σ : GS) (s0 : Int32) (s1 : Int32) (s2 : Int32) : Option (GS × Int32) := if s2 = 0 then none else (some ((s0 + (s1 - s1 / s2 * s2)))).bind fun x2 => fl_lives_25 d FU σ x2 0 0
set_option maxRecDepth 100000 in
set_option maxHeartbeats 4000000 in
theorem bl_lives_16 {p : Program} {l : Launch} {e : Env} {s : State} {m : MethodId} {args : Array Value} {below : List Frame} {meth : Method} {c : Code} {D : va_G} {dA : Nat → ClassId} {A : Nat → Prop} {ar : Nat → Nat} {ob b Ls : Nat} {sc : Nat → Int32} {d : Nat} {o : GS × Int32} (X : zc p l s m args meth c cL_lives RL D dA A) (Y : zY s A b Ls sc) (hml : c.maxLocals = 7) (hr : meth.sig.returnType = (some .boolean)) {cells slots : Nat} (hcs : cells + (4 * d + 1) ≤ 4 * d + 1 ∧ slots + (1826 * d + 6) ≤ 1826 * d + 6) {σ : GS} {s0 : Int32} {s1 : Int32} {s2 : Int32} (h : fl_lives_16 d σ s0 s1 s2 = some o) : zz p l e ({ frames := 16, cells := 4 * d + 1, slots := 1826 * d + 6, locals := 672 } : Room) s m args below meth c A (gw D dA A σ ob ar) cells slots (MQ below (va_Qi (fun r (_ : Unit) => r = o.2 ∧ True) (fun _ t => gw D dA A o.1 ob ar t.heap) A) args s (4 * d + 1) (1826 * d + 6) A) 16 [(0, .ref ob), (2, .ref (ar 2))] [] [.int (s2), .int (s1), .int (s0)] := by
  obtain ⟨hcs1, hcs2⟩ := hcs
  unfold fl_lives_16 at h
  obtain ⟨q1, h⟩ := zg h
  refine z_irem X dL_lives_16 q1 ?_
  refine z_iadd X dL_lives_17 ?_
  obtain ⟨x2, ex2, h⟩ := zb h
  rw [ex2]
  refine z_istore_n (lo' := [(3, .int (x2)), (0, .ref ob), (2, .ref (ar 2))]) X dL_lives_18 rfl (by rw [hml]; decide) rfl rfl ?_
  refine z_iconst (v := 0) X dL_lives_19 (by decide) ?_
  refine z_istore (lo' := [(4, .int (0)), (3, .int (x2)), (0, .ref ob), (2, .ref (ar 2))]) X dL_lives_20 (by rw [hml]; decide) rfl rfl ?_
  refine z_iconst (v := 0) X dL_lives_22 (by decide) ?_
  refine z_istore (lo' := [(5, .int (0)), (4, .int (0)), (3, .int (x2)), (0, .ref ob), (2, .ref (ar 2))]) X dL_lives_23 (by rw [hml]; decide) rfl rfl ?_
  refine zz.pick (lo' := [(0, .ref ob), (2, .ref (ar 2)), (3, .int (x2)), (4, .int (0)), (5, .int (0))]) [0, 2, 3, 4, 5] rfl ?_
  exact bl_lives_25 X Y hml hr FU ⟨by omega, by omega⟩ h
def fl_lives (d : Nat) (σ : GS) (a1 : Int32) : Option (GS × Int32) := (if (a1 - a1 / 5 * 5) = 0 then fl_lives_16 d σ 1 a1 200
  else fl_lives_16 d σ 1 a1 9)
set_option maxRecDepth 100000 in
set_option maxHeartbeats 4000000 in
theorem bl_lives {p : Program} {l : Launch} {e : Env} {s : State} {m : MethodId} {args : Array Value} {below : List Frame} {meth : Method} {c : Code} {D : va_G} {dA : Nat → ClassId} {A : Nat → Prop} {ar : Nat → Nat} {ob b Ls : Nat} {sc : Nat → Int32} {d : Nat} {o : GS × Int32} (X : zc p l s m args meth c cL_lives RL D dA A) (Y : zY s A b Ls sc) (hml : c.maxLocals = 7) (hr : meth.sig.returnType = (some .boolean)) {cells slots : Nat} (hcs : cells + (4 * d + 1) ≤ 4 * d + 1 ∧ slots + (1826 * d + 6) ≤ 1826 * d + 6) {σ : GS} {a1 : Int32} (h : fl_lives d σ a1 = some o) : zz p l e ({ frames := 16, cells := 4 * d + 1, slots := 1826 * d + 6, locals := 672 } : Room) s m args below meth c A (gw D dA A σ ob ar) cells slots (MQ below (va_Qi (fun r (_ : Unit) => r = o.2 ∧ True) (fun _ t => gw D dA A o.1 ob ar t.heap) A) args s (4 * d + 1) (1826 * d + 6) A) 0 [(0, .ref ob), (1, .int (a1)), (2, .ref (ar 2))] [] [] := by
  obtain ⟨hcs1, hcs2⟩ := hcs
  unfold fl_lives at h
  refine z_iconst (v := 1) X dL_lives_0 (by decide) ?_
  refine z_iload_n X dL_lives_1 rfl rfl ?_
  refine z_iload_n X dL_lives_2 rfl rfl ?_
  refine z_iconst (v := 5) X dL_lives_3 (by decide) ?_
  refine z_irem X dL_lives_4 (by decide) ?_
  refine z_if_ne (tgt := 14) X dL_lives_5 (by decide) (fun q => ?_) (fun q => ?_)
  · have h := zp q h
    refine z_sipush (v := 200) X dL_lives_8 (by decide) ?_
    refine z_goto (tgt := 16) X dL_lives_11 (by decide) ?_
    refine zz.pick (lo' := [(0, .ref ob), (2, .ref (ar 2))]) [0, 2] rfl ?_
    exact bl_lives_16 X Y hml hr ⟨by omega, by omega⟩ h
  · have h := zn q h
    refine z_bipush (v := 9) X dL_lives_14 (by decide) ?_
    refine zz.pick (lo' := [(0, .ref ob), (2, .ref (ar 2))]) [0, 2] rfl ?_
    exact bl_lives_16 X Y hml hr ⟨by omega, by omega⟩ h
theorem ll_lives (l : Launch) {D : va_G} {dA : Nat → ClassId} {A : Nat → Prop} {n : Nat} {ar : Nat → Nat} {ob b Ls : Nat} {sc : Nat → Int32} (hst : l.stackTraces = false) (hA : ∀ q, n ≤ q → A q) (hbA : ¬ A b) {σ : GS} {d : Nat} {a1 : Int32} {o : GS × Int32} (h : fl_lives d σ a1 = some o) : Met l yL_lives (.code yL_lives cL_lives 7 (some .boolean) :: gT) ({ frames := 16, cells := 4 * d + 1, slots := 1826 * d + 6, locals := 672 } : Room) (va_Pc [.ref ob, .int (a1), .ref (ar 2)] (zBL D dA A n b Ls sc (gw D dA A σ ob ar))) (va_Qi (fun r (_ : Unit) => r = o.2 ∧ True) (fun _ t => gw D dA A o.1 ob ar t.heap) A) (4 * d + 1) (1826 * d + 6) A :=
  z_metL (by decide) hA hbA hst (Nat.le_of_ble_eq_true rfl) rfl rfl (fun p e s m below meth c X Y hml hr => bl_lives X Y hml hr ⟨by omega, by omega⟩ h)
-- step(LMeshBiller;III[I[I[I)Z
def fl_step_84 (d : Nat) (σ : GS) (v2 : Int32) (v3 : Int32) (s1 : Int32) : Option (GS × Int32) := (fl_calls σ (s1) (v2) (v3)).bind fun o1 => if o1.2 = 0 ∨ o1.2 = 1 then some (o1.1, o1.2) else none
set_option maxRecDepth 100000 in
set_option maxHeartbeats 4000000 in
theorem bl_step_84 {p : Program} {l : Launch} {e : Env} {s : State} {m : MethodId} {args : Array Value} {below : List Frame} {meth : Method} {c : Code} {D : va_G} {dA : Nat → ClassId} {A : Nat → Prop} {ar : Nat → Nat} {ob b Ls : Nat} {sc : Nat → Int32} {d : Nat} {o : GS × Int32} (X : zc p l s m args meth c cL_step RL D dA A) (Y : zY s A b Ls sc) (hml : c.maxLocals = 7) (hr : meth.sig.returnType = (some .boolean)) {cells slots : Nat} (hcs : cells + (27) ≤ 4 * d + 27 ∧ slots + (13082) ≤ 1826 * d + 13082) {σ : GS} {v2 : Int32} {v3 : Int32} {s1 : Int32} (h : fl_step_84 d σ v2 v3 s1 = some o) : zz p l e ({ frames := 17, cells := 4 * d + 27, slots := 1826 * d + 13082, locals := 714 } : Room) s m args below meth c A (gw D dA A σ ob ar) cells slots (MQ below (va_Qi (fun r (_ : Unit) => r = o.2 ∧ True) (fun _ t => gw D dA A o.1 ob ar t.heap) A) args s (4 * d + 27) (1826 * d + 13082) A) 84 [(2, .int (v2)), (3, .int (v3)), (4, .ref (ar 0)), (5, .ref (ar 1)), (6, .ref (ar 2))] [] [.int (s1), .ref ob] := by
  obtain ⟨hcs1, hcs2⟩ := hcs
  unfold fl_step_84 at h
  refine z_iload_n X dL_step_84 rfl rfl ?_
  refine z_iload_n X dL_step_85 rfl rfl ?_
  refine z_aload X dL_step_86 rfl ?_
  refine z_aload X dL_step_88 rfl ?_
  refine z_aload X dL_step_90 rfl ?_
  obtain ⟨o1, co1, h⟩ := zb2 h
  refine z_lSi (As := [.ref ob, .int (s1), .int (v2), .int (v3), .ref (ar 0), .ref (ar 1), .ref (ar 2)]) (rest := []) (nA := 7) (mc := 27) (ms := 13082) (r0 := o1.2) (pu := fun (_ : Unit) => True) (G1 := fun _ => gw D dA A o1.1 ob ar) X Y (ll_calls l X.2.2.2.2.2.2.2.2 X.2.2.2.2.2.2.1 Y.2.2.2 co1) n_310 n_311 n_0 n_312 nh_yL_calls ⟨rfl, rfl, Nat.le_of_ble_eq_true rfl, Nat.le_of_ble_eq_true rfl⟩ rfl rfl (Nat.le_of_ble_eq_true rfl) dL_step_92 ⟨by show _ ≤ 4 * d + 27; omega, by show _ ≤ 1826 * d + 13082; omega⟩ (fun _ _ => ?_)
  obtain ⟨q, h⟩ := zgp h
  obtain rfl := Option.some.inj h
  refine zz.widen (k := 4 * d + 27) (n := 1826 * d + 13082) (by omega) (by omega) ?_
  exact z_iret X hr (z_nb q) (fun t hG hF _ => ⟨⟨_, (), rfl, ⟨rfl, trivial⟩, hG⟩, hF⟩) dL_step_95
def fl_step_66 (d : Nat) (σ : GS) (v1 : Int32) (v2 : Int32) (v3 : Int32) : Option (GS × Int32) := (if 12 ≤ v1 then (if 17 ≤ v1 then (if 23 ≤ v1 then (fl_lives d σ (v3)).bind fun o1 => if o1.2 = 0 ∨ o1.2 = 1 then some (o1.1, o1.2) else none
  else (fl_sets σ ((v1 - 17)) (v2) (v3)).bind fun o2 => if o2.2 = 0 ∨ o2.2 = 1 then some (o2.1, o2.2) else none)
  else (if 14 ≤ v1 then (if 3 ≤ (v1 - 13) then (fl_wallets σ (2) (v2) (v3)).bind fun o3 => if o3.2 = 0 ∨ o3.2 = 1 then some (o3.1, o3.2) else none
  else (fl_wallets σ ((v1 - 13)) (v2) (v3)).bind fun o4 => if o4.2 = 0 ∨ o4.2 = 1 then some (o4.1, o4.2) else none)
  else (fl_wallets σ (0) (v2) (v3)).bind fun o5 => if o5.2 = 0 ∨ o5.2 = 1 then some (o5.1, o5.2) else none))
  else (if 8 ≤ v1 then fl_step_84 d σ v2 v3 3
  else fl_step_84 d σ v2 v3 2))
set_option maxRecDepth 100000 in
set_option maxHeartbeats 4000000 in
theorem bl_step_66 {p : Program} {l : Launch} {e : Env} {s : State} {m : MethodId} {args : Array Value} {below : List Frame} {meth : Method} {c : Code} {D : va_G} {dA : Nat → ClassId} {A : Nat → Prop} {ar : Nat → Nat} {ob b Ls : Nat} {sc : Nat → Int32} {d : Nat} {o : GS × Int32} (X : zc p l s m args meth c cL_step RL D dA A) (Y : zY s A b Ls sc) (hml : c.maxLocals = 7) (hr : meth.sig.returnType = (some .boolean)) {cells slots : Nat} (hcs : cells + (4 * d + 27) ≤ 4 * d + 27 ∧ slots + (1826 * d + 13082) ≤ 1826 * d + 13082) {σ : GS} {v1 : Int32} {v2 : Int32} {v3 : Int32} (h : fl_step_66 d σ v1 v2 v3 = some o) : zz p l e ({ frames := 17, cells := 4 * d + 27, slots := 1826 * d + 13082, locals := 714 } : Room) s m args below meth c A (gw D dA A σ ob ar) cells slots (MQ below (va_Qi (fun r (_ : Unit) => r = o.2 ∧ True) (fun _ t => gw D dA A o.1 ob ar t.heap) A) args s (4 * d + 27) (1826 * d + 13082) A) 66 [(0, .ref ob), (1, .int (v1)), (2, .int (v2)), (3, .int (v3)), (4, .ref (ar 0)), (5, .ref (ar 1)), (6, .ref (ar 2))] [] [] := by
  obtain ⟨hcs1, hcs2⟩ := hcs
  unfold fl_step_66 at h
  refine z_iload_n X dL_step_66 rfl rfl ?_
  refine z_bipush (v := 12) X dL_step_67 (by decide) ?_
  refine z_icmp_ge (tgt := 96) X dL_step_69 (by decide) (fun q => ?_) (fun q => ?_)
  · have h := zp q h
    refine z_iload_n X dL_step_96 rfl rfl ?_
    refine z_bipush (v := 17) X dL_step_97 (by decide) ?_
    refine z_icmp_ge (tgt := 137) X dL_step_99 (by decide) (fun q => ?_) (fun q => ?_)
    · have h := zp q h
      refine z_iload_n X dL_step_137 rfl rfl ?_
      refine z_bipush (v := 23) X dL_step_138 (by decide) ?_
      refine z_icmp_ge (tgt := 156) X dL_step_140 (by decide) (fun q => ?_) (fun q => ?_)
      · have h := zp q h
        refine z_aload_n X dL_step_156 rfl rfl ?_
        refine z_iload_n X dL_step_157 rfl rfl ?_
        refine z_aload X dL_step_158 rfl ?_
        obtain ⟨o1, co1, h⟩ := zb2 h
        refine z_lSi (As := [.ref ob, .int (v3), .ref (ar 2)]) (rest := []) (nA := 3) (mc := 4 * d + 1) (ms := 1826 * d + 6) (r0 := o1.2) (pu := fun (_ : Unit) => True) (G1 := fun _ => gw D dA A o1.1 ob ar) X Y (ll_lives l X.2.2.2.2.2.2.2.2 X.2.2.2.2.2.2.1 Y.2.2.2 co1) n_890 n_891 n_0 n_892 nh_yL_lives ⟨rfl, rfl, Nat.le_of_ble_eq_true rfl, Nat.le_of_ble_eq_true rfl⟩ rfl rfl (Nat.le_of_ble_eq_true rfl) dL_step_160 ⟨by show _ ≤ 4 * d + 27; omega, by show _ ≤ 1826 * d + 13082; omega⟩ (fun _ _ => ?_)
        obtain ⟨q, h⟩ := zgp h
        obtain rfl := Option.some.inj h
        refine zz.widen (k := 4 * d + 27) (n := 1826 * d + 13082) (by omega) (by omega) ?_
        exact z_iret X hr (z_nb q) (fun t hG hF _ => ⟨⟨_, (), rfl, ⟨rfl, trivial⟩, hG⟩, hF⟩) dL_step_163
      · have h := zn q h
        refine z_aload_n X dL_step_143 rfl rfl ?_
        refine z_iload_n X dL_step_144 rfl rfl ?_
        refine z_bipush (v := 17) X dL_step_145 (by decide) ?_
        refine z_isub X dL_step_147 ?_
        refine z_iload_n X dL_step_148 rfl rfl ?_
        refine z_iload_n X dL_step_149 rfl rfl ?_
        refine z_aload X dL_step_150 rfl ?_
        obtain ⟨o2, co2, h⟩ := zb2 h
        refine z_lSi (As := [.ref ob, .int ((v1 - 17)), .int (v2), .int (v3), .ref (ar 2)]) (rest := []) (nA := 5) (mc := 6) (ms := 1824) (r0 := o2.2) (pu := fun (_ : Unit) => True) (G1 := fun _ => gw D dA A o2.1 ob ar) X Y (ll_sets l X.2.2.2.2.2.2.2.2 X.2.2.2.2.2.2.1 Y.2.2.2 co2) n_863 n_864 n_0 n_865 nh_yL_sets ⟨rfl, rfl, Nat.le_of_ble_eq_true rfl, Nat.le_of_ble_eq_true rfl⟩ rfl rfl (Nat.le_of_ble_eq_true rfl) dL_step_152 ⟨by show _ ≤ 4 * d + 27; omega, by show _ ≤ 1826 * d + 13082; omega⟩ (fun _ _ => ?_)
        obtain ⟨q, h⟩ := zgp h
        obtain rfl := Option.some.inj h
        refine zz.widen (k := 4 * d + 27) (n := 1826 * d + 13082) (by omega) (by omega) ?_
        exact z_iret X hr (z_nb q) (fun t hG hF _ => ⟨⟨_, (), rfl, ⟨rfl, trivial⟩, hG⟩, hF⟩) dL_step_155
    · have h := zn q h
      refine z_aload_n X dL_step_102 rfl rfl ?_
      refine z_iload_n X dL_step_103 rfl rfl ?_
      refine z_bipush (v := 14) X dL_step_104 (by decide) ?_
      refine z_icmp_ge (tgt := 113) X dL_step_106 (by decide) (fun q => ?_) (fun q => ?_)
      · have h := zp q h
        refine z_iload_n X dL_step_113 rfl rfl ?_
        refine z_bipush (v := 13) X dL_step_114 (by decide) ?_
        refine z_isub X dL_step_116 ?_
        refine z_iconst (v := 3) X dL_step_117 (by decide) ?_
        refine z_icmp_ge (tgt := 128) X dL_step_118 (by decide) (fun q => ?_) (fun q => ?_)
        · have h := zp q h
          refine z_iconst (v := 2) X dL_step_128 (by decide) ?_
          refine z_iload_n X dL_step_129 rfl rfl ?_
          refine z_iload_n X dL_step_130 rfl rfl ?_
          refine z_aload X dL_step_131 rfl ?_
          obtain ⟨o3, co3, h⟩ := zb2 h
          refine z_lSi (As := [.ref ob, .int (2), .int (v2), .int (v3), .ref (ar 2)]) (rest := []) (nA := 5) (mc := 4) (ms := 3030) (r0 := o3.2) (pu := fun (_ : Unit) => True) (G1 := fun _ => gw D dA A o3.1 ob ar) X Y (ll_wallets l X.2.2.2.2.2.2.2.2 X.2.2.2.2.2.2.1 Y.2.2.2 co3) n_798 n_799 n_0 n_800 nh_yL_wallets ⟨rfl, rfl, Nat.le_of_ble_eq_true rfl, Nat.le_of_ble_eq_true rfl⟩ rfl rfl (Nat.le_of_ble_eq_true rfl) dL_step_133 ⟨by show _ ≤ 4 * d + 27; omega, by show _ ≤ 1826 * d + 13082; omega⟩ (fun _ _ => ?_)
          obtain ⟨q, h⟩ := zgp h
          obtain rfl := Option.some.inj h
          refine zz.widen (k := 4 * d + 27) (n := 1826 * d + 13082) (by omega) (by omega) ?_
          exact z_iret X hr (z_nb q) (fun t hG hF _ => ⟨⟨_, (), rfl, ⟨rfl, trivial⟩, hG⟩, hF⟩) dL_step_136
        · have h := zn q h
          refine z_iload_n X dL_step_121 rfl rfl ?_
          refine z_bipush (v := 13) X dL_step_122 (by decide) ?_
          refine z_isub X dL_step_124 ?_
          refine z_goto (tgt := 129) X dL_step_125 (by decide) ?_
          refine z_iload_n X dL_step_129 rfl rfl ?_
          refine z_iload_n X dL_step_130 rfl rfl ?_
          refine z_aload X dL_step_131 rfl ?_
          obtain ⟨o4, co4, h⟩ := zb2 h
          refine z_lSi (As := [.ref ob, .int ((v1 - 13)), .int (v2), .int (v3), .ref (ar 2)]) (rest := []) (nA := 5) (mc := 4) (ms := 3030) (r0 := o4.2) (pu := fun (_ : Unit) => True) (G1 := fun _ => gw D dA A o4.1 ob ar) X Y (ll_wallets l X.2.2.2.2.2.2.2.2 X.2.2.2.2.2.2.1 Y.2.2.2 co4) n_798 n_799 n_0 n_800 nh_yL_wallets ⟨rfl, rfl, Nat.le_of_ble_eq_true rfl, Nat.le_of_ble_eq_true rfl⟩ rfl rfl (Nat.le_of_ble_eq_true rfl) dL_step_133 ⟨by show _ ≤ 4 * d + 27; omega, by show _ ≤ 1826 * d + 13082; omega⟩ (fun _ _ => ?_)
          obtain ⟨q, h⟩ := zgp h
          obtain rfl := Option.some.inj h
          refine zz.widen (k := 4 * d + 27) (n := 1826 * d + 13082) (by omega) (by omega) ?_
          exact z_iret X hr (z_nb q) (fun t hG hF _ => ⟨⟨_, (), rfl, ⟨rfl, trivial⟩, hG⟩, hF⟩) dL_step_136
      · have h := zn q h
        refine z_iconst (v := 0) X dL_step_109 (by decide) ?_
        refine z_goto (tgt := 129) X dL_step_110 (by decide) ?_
        refine z_iload_n X dL_step_129 rfl rfl ?_
        refine z_iload_n X dL_step_130 rfl rfl ?_
        refine z_aload X dL_step_131 rfl ?_
        obtain ⟨o5, co5, h⟩ := zb2 h
        refine z_lSi (As := [.ref ob, .int (0), .int (v2), .int (v3), .ref (ar 2)]) (rest := []) (nA := 5) (mc := 4) (ms := 3030) (r0 := o5.2) (pu := fun (_ : Unit) => True) (G1 := fun _ => gw D dA A o5.1 ob ar) X Y (ll_wallets l X.2.2.2.2.2.2.2.2 X.2.2.2.2.2.2.1 Y.2.2.2 co5) n_798 n_799 n_0 n_800 nh_yL_wallets ⟨rfl, rfl, Nat.le_of_ble_eq_true rfl, Nat.le_of_ble_eq_true rfl⟩ rfl rfl (Nat.le_of_ble_eq_true rfl) dL_step_133 ⟨by show _ ≤ 4 * d + 27; omega, by show _ ≤ 1826 * d + 13082; omega⟩ (fun _ _ => ?_)
        obtain ⟨q, h⟩ := zgp h
        obtain rfl := Option.some.inj h
        refine zz.widen (k := 4 * d + 27) (n := 1826 * d + 13082) (by omega) (by omega) ?_
        exact z_iret X hr (z_nb q) (fun t hG hF _ => ⟨⟨_, (), rfl, ⟨rfl, trivial⟩, hG⟩, hF⟩) dL_step_136
  · have h := zn q h
    refine z_aload_n X dL_step_72 rfl rfl ?_
    refine z_iload_n X dL_step_73 rfl rfl ?_
    refine z_bipush (v := 8) X dL_step_74 (by decide) ?_
    refine z_icmp_ge (tgt := 83) X dL_step_76 (by decide) (fun q => ?_) (fun q => ?_)
    · have h := zp q h
      refine z_iconst (v := 3) X dL_step_83 (by decide) ?_
      refine zz.pick (lo' := [(2, .int (v2)), (3, .int (v3)), (4, .ref (ar 0)), (5, .ref (ar 1)), (6, .ref (ar 2))]) [2, 3, 4, 5, 6] rfl ?_
      exact bl_step_84 X Y hml hr ⟨by omega, by omega⟩ h
    · have h := zn q h
      refine z_iconst (v := 2) X dL_step_79 (by decide) ?_
      refine z_goto (tgt := 84) X dL_step_80 (by decide) ?_
      refine zz.pick (lo' := [(2, .int (v2)), (3, .int (v3)), (4, .ref (ar 0)), (5, .ref (ar 1)), (6, .ref (ar 2))]) [2, 3, 4, 5, 6] rfl ?_
      exact bl_step_84 X Y hml hr ⟨by omega, by omega⟩ h
def fl_step_37 (d : Nat) (σ : GS) (v1 : Int32) (v2 : Int32) (v3 : Int32) : Option (GS × Int32) := (if 7 ≤ v1 then fl_step_66 d σ v1 v2 v3
  else (if 62 ≤ (σ.2 2 (2 : Int32).toNatClampNeg) then fl_step_66 d σ v1 v2 v3
  else (fl_calls σ (1) (v2) (v3)).bind fun o1 => if o1.2 = 0 ∨ o1.2 = 1 then some (o1.1, o1.2) else none))
set_option maxRecDepth 100000 in
set_option maxHeartbeats 4000000 in
theorem bl_step_37 {p : Program} {l : Launch} {e : Env} {s : State} {m : MethodId} {args : Array Value} {below : List Frame} {meth : Method} {c : Code} {D : va_G} {dA : Nat → ClassId} {A : Nat → Prop} {ar : Nat → Nat} {ob b Ls : Nat} {sc : Nat → Int32} {d : Nat} {o : GS × Int32} (X : zc p l s m args meth c cL_step RL D dA A) (Y : zY s A b Ls sc) (hml : c.maxLocals = 7) (hr : meth.sig.returnType = (some .boolean)) {cells slots : Nat} (hcs : cells + (4 * d + 27) ≤ 4 * d + 27 ∧ slots + (1826 * d + 13082) ≤ 1826 * d + 13082) {σ : GS} {v1 : Int32} {v2 : Int32} {v3 : Int32} (h : fl_step_37 d σ v1 v2 v3 = some o) : zz p l e ({ frames := 17, cells := 4 * d + 27, slots := 1826 * d + 13082, locals := 714 } : Room) s m args below meth c A (gw D dA A σ ob ar) cells slots (MQ below (va_Qi (fun r (_ : Unit) => r = o.2 ∧ True) (fun _ t => gw D dA A o.1 ob ar t.heap) A) args s (4 * d + 27) (1826 * d + 13082) A) 37 [(0, .ref ob), (1, .int (v1)), (2, .int (v2)), (3, .int (v3)), (4, .ref (ar 0)), (5, .ref (ar 1)), (6, .ref (ar 2))] [] [] := by
  obtain ⟨hcs1, hcs2⟩ := hcs
  unfold fl_step_37 at h
  refine z_iload_n X dL_step_37 rfl rfl ?_
  refine z_bipush (v := 7) X dL_step_38 (by decide) ?_
  refine z_icmp_ge (tgt := 66) X dL_step_40 (by decide) (fun q => ?_) (fun q => ?_)
  · have h := zp q h
    refine zz.pick (lo' := [(0, .ref ob), (1, .int (v1)), (2, .int (v2)), (3, .int (v3)), (4, .ref (ar 0)), (5, .ref (ar 1)), (6, .ref (ar 2))]) [0, 1, 2, 3, 4, 5, 6] rfl ?_
    exact bl_step_66 X Y hml hr ⟨by omega, by omega⟩ h
  · have h := zn q h
    refine z_aload X dL_step_43 rfl ?_
    refine z_iconst (v := 2) X dL_step_45 (by decide) ?_
    refine l_ald X 2 rfl (by decide) dL_step_46 ?_
    refine z_bipush (v := 62) X dL_step_47 (by decide) ?_
    refine z_icmp_ge (tgt := 66) X dL_step_49 (by decide) (fun q => ?_) (fun q => ?_)
    · have h := zp q h
      refine zz.pick (lo' := [(0, .ref ob), (1, .int (v1)), (2, .int (v2)), (3, .int (v3)), (4, .ref (ar 0)), (5, .ref (ar 1)), (6, .ref (ar 2))]) [0, 1, 2, 3, 4, 5, 6] rfl ?_
      exact bl_step_66 X Y hml hr ⟨by omega, by omega⟩ h
    · have h := zn q h
      refine z_aload_n X dL_step_52 rfl rfl ?_
      refine z_iconst (v := 1) X dL_step_53 (by decide) ?_
      refine z_iload_n X dL_step_54 rfl rfl ?_
      refine z_iload_n X dL_step_55 rfl rfl ?_
      refine z_aload X dL_step_56 rfl ?_
      refine z_aload X dL_step_58 rfl ?_
      refine z_aload X dL_step_60 rfl ?_
      obtain ⟨o1, co1, h⟩ := zb2 h
      refine z_lSi (As := [.ref ob, .int (1), .int (v2), .int (v3), .ref (ar 0), .ref (ar 1), .ref (ar 2)]) (rest := []) (nA := 7) (mc := 27) (ms := 13082) (r0 := o1.2) (pu := fun (_ : Unit) => True) (G1 := fun _ => gw D dA A o1.1 ob ar) X Y (ll_calls l X.2.2.2.2.2.2.2.2 X.2.2.2.2.2.2.1 Y.2.2.2 co1) n_310 n_311 n_0 n_312 nh_yL_calls ⟨rfl, rfl, Nat.le_of_ble_eq_true rfl, Nat.le_of_ble_eq_true rfl⟩ rfl rfl (Nat.le_of_ble_eq_true rfl) dL_step_62 ⟨by show _ ≤ 4 * d + 27; omega, by show _ ≤ 1826 * d + 13082; omega⟩ (fun _ _ => ?_)
      obtain ⟨q, h⟩ := zgp h
      obtain rfl := Option.some.inj h
      refine zz.widen (k := 4 * d + 27) (n := 1826 * d + 13082) (by omega) (by omega) ?_
      exact z_iret X hr (z_nb q) (fun t hG hF _ => ⟨⟨_, (), rfl, ⟨rfl, trivial⟩, hG⟩, hF⟩) dL_step_65
def fl_step (d : Nat) (σ : GS) (a1 : Int32) (a2 : Int32) (a3 : Int32) : Option (GS × Int32) := (if 4 ≤ a1 then fl_step_37 d σ a1 a2 a3
  else (if 62 ≤ (σ.2 2 (2 : Int32).toNatClampNeg) then fl_step_37 d σ a1 a2 a3
  else (if 40 ≤ (σ.2 2 (1 : Int32).toNatClampNeg) then fl_step_37 d σ a1 a2 a3
  else (fl_calls σ (0) (a2) (a3)).bind fun o1 => if o1.2 = 0 ∨ o1.2 = 1 then some (o1.1, o1.2) else none)))
set_option maxRecDepth 100000 in
set_option maxHeartbeats 4000000 in
theorem bl_step {p : Program} {l : Launch} {e : Env} {s : State} {m : MethodId} {args : Array Value} {below : List Frame} {meth : Method} {c : Code} {D : va_G} {dA : Nat → ClassId} {A : Nat → Prop} {ar : Nat → Nat} {ob b Ls : Nat} {sc : Nat → Int32} {d : Nat} {o : GS × Int32} (X : zc p l s m args meth c cL_step RL D dA A) (Y : zY s A b Ls sc) (hml : c.maxLocals = 7) (hr : meth.sig.returnType = (some .boolean)) {cells slots : Nat} (hcs : cells + (4 * d + 27) ≤ 4 * d + 27 ∧ slots + (1826 * d + 13082) ≤ 1826 * d + 13082) {σ : GS} {a1 : Int32} {a2 : Int32} {a3 : Int32} (h : fl_step d σ a1 a2 a3 = some o) : zz p l e ({ frames := 17, cells := 4 * d + 27, slots := 1826 * d + 13082, locals := 714 } : Room) s m args below meth c A (gw D dA A σ ob ar) cells slots (MQ below (va_Qi (fun r (_ : Unit) => r = o.2 ∧ True) (fun _ t => gw D dA A o.1 ob ar t.heap) A) args s (4 * d + 27) (1826 * d + 13082) A) 0 [(0, .ref ob), (1, .int (a1)), (2, .int (a2)), (3, .int (a3)), (4, .ref (ar 0)), (5, .ref (ar 1)), (6, .ref (ar 2))] [] [] := by
  obtain ⟨hcs1, hcs2⟩ := hcs
  unfold fl_step at h
  refine z_iload_n X dL_step_0 rfl rfl ?_
  refine z_iconst (v := 4) X dL_step_1 (by decide) ?_
  refine z_icmp_ge (tgt := 37) X dL_step_2 (by decide) (fun q => ?_) (fun q => ?_)
  · have h := zp q h
    refine zz.pick (lo' := [(0, .ref ob), (1, .int (a1)), (2, .int (a2)), (3, .int (a3)), (4, .ref (ar 0)), (5, .ref (ar 1)), (6, .ref (ar 2))]) [0, 1, 2, 3, 4, 5, 6] rfl ?_
    exact bl_step_37 X Y hml hr ⟨by omega, by omega⟩ h
  · have h := zn q h
    refine z_aload X dL_step_5 rfl ?_
    refine z_iconst (v := 2) X dL_step_7 (by decide) ?_
    refine l_ald X 2 rfl (by decide) dL_step_8 ?_
    refine z_bipush (v := 62) X dL_step_9 (by decide) ?_
    refine z_icmp_ge (tgt := 37) X dL_step_11 (by decide) (fun q => ?_) (fun q => ?_)
    · have h := zp q h
      refine zz.pick (lo' := [(0, .ref ob), (1, .int (a1)), (2, .int (a2)), (3, .int (a3)), (4, .ref (ar 0)), (5, .ref (ar 1)), (6, .ref (ar 2))]) [0, 1, 2, 3, 4, 5, 6] rfl ?_
      exact bl_step_37 X Y hml hr ⟨by omega, by omega⟩ h
    · have h := zn q h
      refine z_aload X dL_step_14 rfl ?_
      refine z_iconst (v := 1) X dL_step_16 (by decide) ?_
      refine l_ald X 2 rfl (by decide) dL_step_17 ?_
      refine z_bipush (v := 40) X dL_step_18 (by decide) ?_
      refine z_icmp_ge (tgt := 37) X dL_step_20 (by decide) (fun q => ?_) (fun q => ?_)
      · have h := zp q h
        refine zz.pick (lo' := [(0, .ref ob), (1, .int (a1)), (2, .int (a2)), (3, .int (a3)), (4, .ref (ar 0)), (5, .ref (ar 1)), (6, .ref (ar 2))]) [0, 1, 2, 3, 4, 5, 6] rfl ?_
        exact bl_step_37 X Y hml hr ⟨by omega, by omega⟩ h
      · have h := zn q h
        refine z_aload_n X dL_step_23 rfl rfl ?_
        refine z_iconst (v := 0) X dL_step_24 (by decide) ?_
        refine z_iload_n X dL_step_25 rfl rfl ?_
        refine z_iload_n X dL_step_26 rfl rfl ?_
        refine z_aload X dL_step_27 rfl ?_
        refine z_aload X dL_step_29 rfl ?_
        refine z_aload X dL_step_31 rfl ?_
        obtain ⟨o1, co1, h⟩ := zb2 h
        refine z_lSi (As := [.ref ob, .int (0), .int (a2), .int (a3), .ref (ar 0), .ref (ar 1), .ref (ar 2)]) (rest := []) (nA := 7) (mc := 27) (ms := 13082) (r0 := o1.2) (pu := fun (_ : Unit) => True) (G1 := fun _ => gw D dA A o1.1 ob ar) X Y (ll_calls l X.2.2.2.2.2.2.2.2 X.2.2.2.2.2.2.1 Y.2.2.2 co1) n_310 n_311 n_0 n_312 nh_yL_calls ⟨rfl, rfl, Nat.le_of_ble_eq_true rfl, Nat.le_of_ble_eq_true rfl⟩ rfl rfl (Nat.le_of_ble_eq_true rfl) dL_step_33 ⟨by show _ ≤ 4 * d + 27; omega, by show _ ≤ 1826 * d + 13082; omega⟩ (fun _ _ => ?_)
        obtain ⟨q, h⟩ := zgp h
        obtain rfl := Option.some.inj h
        refine zz.widen (k := 4 * d + 27) (n := 1826 * d + 13082) (by omega) (by omega) ?_
        exact z_iret X hr (z_nb q) (fun t hG hF _ => ⟨⟨_, (), rfl, ⟨rfl, trivial⟩, hG⟩, hF⟩) dL_step_36
theorem ll_step (l : Launch) {D : va_G} {dA : Nat → ClassId} {A : Nat → Prop} {n : Nat} {ar : Nat → Nat} {ob b Ls : Nat} {sc : Nat → Int32} (hst : l.stackTraces = false) (hA : ∀ q, n ≤ q → A q) (hbA : ¬ A b) {σ : GS} {d : Nat} {a1 : Int32} {a2 : Int32} {a3 : Int32} {o : GS × Int32} (h : fl_step d σ a1 a2 a3 = some o) : Met l yL_step (.code yL_step cL_step 7 (some .boolean) :: gT) ({ frames := 17, cells := 4 * d + 27, slots := 1826 * d + 13082, locals := 714 } : Room) (va_Pc [.ref ob, .int (a1), .int (a2), .int (a3), .ref (ar 0), .ref (ar 1), .ref (ar 2)] (zBL D dA A n b Ls sc (gw D dA A σ ob ar))) (va_Qi (fun r (_ : Unit) => r = o.2 ∧ True) (fun _ t => gw D dA A o.1 ob ar t.heap) A) (4 * d + 27) (1826 * d + 13082) A :=
  z_metL (by decide) hA hbA hst (Nat.le_of_ble_eq_true rfl) rfl rfl (fun p e s m below meth c X Y hml hr => bl_step X Y hml hr ⟨by omega, by omega⟩ h)
