theorem g_576 : Cond.methodLink RJx4a65c 135 yJx4a65c_rangeCheckForAdd_d00df ∈ gT := gT_t 853 (by decide +kernel) rfl
theorem g_578 : Cond.instanceMethod yJx4a65c_rangeCheckForAdd_d00df ∈ gT := gT_t 855 (by decide +kernel) rfl
theorem g_579 : Cond.code yJx4a65c_rangeCheckForAdd_d00df cJx4a65c_rangeCheckForAdd_d00df 2 none ∈ gT := gT_t 856 (by decide +kernel) rfl
theorem g_817 : Cond.methodLink RJx4a65c 112 arraycopyName ∈ gT := gT_t 857 (by decide +kernel) rfl
theorem gs_8 : Cond.selects RJx4a65c yJx4a65c_rangeCheckForAdd_d00df yJx4a65c_rangeCheckForAdd_d00df ∈ gT := gT_s 23 (by decide +kernel) rfl
theorem hd_yJx4a65c_rangeCheckForAdd_d00df : yJx4a65c_rangeCheckForAdd_d00df.cls = RJx4a65c ∧ yJx4a65c_rangeCheckForAdd_d00df.cls ≠ "java/lang/invoke/MethodHandle" ∧ yJx4a65c_rangeCheckForAdd_d00df.cls ≠ "java/lang/invoke/VarHandle" ∧ (parseMethodDescriptor yJx4a65c_rangeCheckForAdd_d00df.desc).map (fun d => d.parameters.length) = some 1 := by decide +kernel
theorem nI_sb {a b : Nat} (h : b ≤ a) : nI a - nI b = nI (a - b) := by
  have e : nI a = nI (a - b) + nI b := by rw [nI_add, Nat.sub_add_cancel h]
  rw [e, Int32.add_sub_cancel]
set_option maxRecDepth 100000 in
theorem jl_atE {l : Launch} {D : va_G} {dA : Nat → ClassId} {A : Nat → Prop} {n : Nat} (hst : l.stackTraces = false) (hA : ∀ q, n ≤ q → A q) {zs : va_W} {K : Heap → Prop} (hf : kf A K) (q0 : Nat) {a : Nat} {mo : Int32} (hx : zs[q0]? = some (a, .inr (2, [.int mo, .ref (dA 99), .int 0]))) {v ci : Nat} {vs : List Value} {r0 : vw_C} (hv : ∀ H, K H → va_at D vwCl (v, .inr (ci, vs)) H) (hcl : vwCl[ci]? = some r0) (hca : Cond.castable r0.1 "java/lang/Object" ∈ gF) {b9 : Nat} (hb9 : 10 ≤ b9) : Met l yJx4a65c_add_7a177 (.code yJx4a65c_add_7a177 cJx4a65c_add_7a177 5 none :: gT) ({ frames := 8, cells := 1, slots := b9, locals := 336 } : Room) (va_Pc [.ref a, .int ((0 : Int32)), .ref v] (zB D dA A n (zw D A zs K))) (va_Qv (fun (_ : Nat) => True) (fun (u : Nat) t => zw D A ((zs.set q0 (a, .inr (2, [.int (mo + 1), .ref (dA 99), .int 0]))).set q0 (a, .inr (2, [.int (mo + 1), .ref u, .int 1])) ++ [(u, .inl (dA 5, 10, .inr (.inr (.inr (.inr (va_up (va_cpy (fun _ => none) (fun _ => none) 0 (0 + 1) (0 - 0)) 0 (some v)))))))]) K t.heap) A) 1 b9 A :=
  z_met (by decide) hA hst (Nat.le_of_ble_eq_true rfl) rfl rfl (fun p e s m below meth c X hml hr _ => by
    have hx1 : (zs.set q0 (a, .inr (2, [.int (mo + 1), .ref (dA 99), .int 0])))[q0]? = some (a, .inr (2, [.int (mo + 1), .ref (dA 99), .int 0])) := List.getElem?_set_self (List.getElem?_eq_some_iff.mp hx).1
    refine z_aload_n X dJx4a65c_add_7a177_0 rfl rfl ?_
    refine z_iload_n X dJx4a65c_add_7a177_1 rfl rfl ?_
    refine z_callVv (As := [.int ((0 : Int32))]) (rest := []) (nA := 1) (mc := 0) (ms := 0) (rm := ({ frames := 7, cells := 0, slots := 0, locals := 294 } : Room))  (pu := (fun (_ : Unit) => True)) (G1 := (fun _ => zw D A zs K)) X (jl_rchk X.2.2.2.2.2.2.2.2 X.2.2.2.2.2.2.1 q0 hx (by decide) (by decide)) g_576 g_578 gs_8 g_4 g_579 hd_yJx4a65c_rangeCheckForAdd_d00df ⟨rfl, rfl, Nat.le_of_ble_eq_true rfl, Nat.le_of_ble_eq_true rfl⟩ rfl (fun _ hG => va_recv X.2.2.2.2.2.1 hG.1 (q := (RJx4a65c, TJx4a65c, 3)) rfl hx) rfl (Nat.le_of_ble_eq_true rfl) dJx4a65c_add_7a177_2 ⟨Nat.zero_le _, Nat.zero_le _⟩ (fun _ _ => ?_)
    refine z_aload_n X dJx4a65c_add_7a177_5 rfl rfl ?_
    refine z_dup X dJx4a65c_add_7a177_6 rfl ?_
    refine w_get X q0 0 rj_ws hx rfl rfl g_69 (Or.inr g_70) rfl dJx4a65c_add_7a177_7 ?_
    refine z_iconst (v := 1) X dJx4a65c_add_7a177_10 (by decide) ?_
    refine z_iadd X dJx4a65c_add_7a177_11 ?_
    refine w_put hf X q0 0 (v := .int (mo + 1)) (zs' := (zs.set q0 (a, .inr (2, [.int (mo + 1), .ref (dA 99), .int 0])))) (ty := .int) rj_ws hx rfl tyJx4a65c_ok nmJx4a65c rfl rfl g_69 (Or.inr g_70) rfl rfl rfl rfl rfl dJx4a65c_add_7a177_12 ?_
    refine z_aload_n X dJx4a65c_add_7a177_15 rfl rfl ?_
    refine w_get X q0 2 rj_ws hx1 rfl rfl g_67 (Or.inl rfl) rfl dJx4a65c_add_7a177_16 ?_
    refine z_dup X dJx4a65c_add_7a177_19 rfl ?_
    refine z_istore_n (lo' := [(3, .int 0), (0, .ref a), (1, .int (0 : Int32)), (2, .ref v)]) X dJx4a65c_add_7a177_20 rfl (by rw [hml]; decide) rfl rfl ?_
    refine z_aload_n X dJx4a65c_add_7a177_21 rfl rfl ?_
    refine w_get X q0 1 rj_ws hx1 rfl rfl g_66 (Or.inl rfl) rfl dJx4a65c_add_7a177_22 ?_
    refine z_dup X dJx4a65c_add_7a177_25 rfl ?_
    refine z_astore (x := (dA 99)) (lo' := [(4, .ref (dA 99)), (3, .int 0), (0, .ref a), (1, .int (0 : Int32)), (2, .ref v)]) X dJx4a65c_add_7a177_26 (by rw [hml]; decide) rfl rfl ?_
    refine z_alenE X dJx4a65c_add_7a177_28 ?_
    refine z_icmp_ne (tgt := 38) X dJx4a65c_add_7a177_29 (by decide) (fun q => ?_) (fun q => absurd rfl q)
    refine z_aload_n X dJx4a65c_add_7a177_32 rfl rfl ?_
    refine z_callVq (As := []) (rest := []) (nA := 0) (mc := 1) (ms := 10) (rm := ({ frames := 6, cells := 1, slots := 10, locals := 252 } : Room)) (ro := fun (u : Nat) => some u) (pu := (fun _ => True)) (G1 := (fun (u : Nat) => zw D A ((zs.set q0 (a, .inr (2, [.int (mo + 1), .ref (dA 99), .int 0]))).set q0 (a, .inr (2, [.int (mo + 1), .ref u, .int 0])) ++ [(u, .inl (dA 5, 10, .inr (.inr (.inr (.inr (fun _ => none))))))]) K)) X (jl_growE1 X.2.2.2.2.2.2.2.2 X.2.2.2.2.2.2.1 hf q0 hx1) g_114 g_116 gs_1 g_4 g_117 hd_yJx4a65c_grow_d5877 ⟨rfl, rfl, Nat.le_of_ble_eq_true rfl, Nat.le_of_ble_eq_true rfl⟩ rfl (fun _ hG => va_recv X.2.2.2.2.2.1 hG.1 (q := (RJx4a65c, TJx4a65c, 3)) rfl hx1) rfl (Nat.le_of_ble_eq_true rfl) dJx4a65c_add_7a177_33 ⟨by show 0 + 1 ≤ 1; omega, by show 0 + 10 ≤ b9; omega⟩ (fun u _ => ?_)
    refine z_astore (x := u) (lo' := [(4, .ref u), (3, .int 0), (0, .ref a), (1, .int (0 : Int32)), (2, .ref v)]) X dJx4a65c_add_7a177_36 (by rw [hml]; decide) rfl rfl ?_
    refine z_aload X dJx4a65c_add_7a177_38 rfl ?_
    refine z_iload_n X dJx4a65c_add_7a177_40 rfl rfl ?_
    refine z_aload X dJx4a65c_add_7a177_41 rfl ?_
    refine z_iload_n X dJx4a65c_add_7a177_43 rfl rfl ?_
    refine z_iconst (v := 1) X dJx4a65c_add_7a177_44 (by decide) ?_
    refine z_iadd X dJx4a65c_add_7a177_45 ?_
    refine z_iload_n X dJx4a65c_add_7a177_46 rfl rfl ?_
    refine z_iload_n X dJx4a65c_add_7a177_47 rfl rfl ?_
    refine z_isub X dJx4a65c_add_7a177_48 ?_
    rw [show (0 : Int32) + 1 = 1 by decide, show (0 : Int32) - 0 = 0 by decide]
    refine w_copy hf X ((zs.set q0 (a, .inr (2, [.int (mo + 1), .ref (dA 99), .int 0]))).length) ((zs.set q0 (a, .inr (2, [.int (mo + 1), .ref (dA 99), .int 0]))).length) g_817 g_169 g_168 g_11 wl1 wl1 (by decide) (by decide) (by decide) (by decide) (by decide) (fun H hH i9 hi9 y hy9 => ?_) (Nat.le_of_ble_eq_true rfl) (Nat.le_of_ble_eq_true rfl) (zs' := (zs.set q0 (a, .inr (2, [.int (mo + 1), .ref (dA 99), .int 0]))).set q0 (a, .inr (2, [.int (mo + 1), .ref u, .int 0])) ++ [(u, .inl (dA 5, 10, .inr (.inr (.inr (.inr ((va_cpy (fun _ => none) (fun _ => none) 0 (0 + 1) (0 - 0))))))))]) (by rw [show (0 : Int32).toNatClampNeg = 0 by decide, show (1 : Int32).toNatClampNeg = 1 by decide]; exact wl2) dJx4a65c_add_7a177_49 ?_
    · rw [show (0 : Int32).toNatClampNeg = 0 by decide] at hi9
      omega
    refine z_aload X dJx4a65c_add_7a177_52 rfl ?_
    refine z_iload_n X dJx4a65c_add_7a177_54 rfl rfl ?_
    refine z_aload_n X dJx4a65c_add_7a177_55 rfl rfl ?_
    refine w_aast hf X ((zs.set q0 (a, .inr (2, [.int (mo + 1), .ref (dA 99), .int 0]))).length) (zs' := (zs.set q0 (a, .inr (2, [.int (mo + 1), .ref (dA 99), .int 0]))).set q0 (a, .inr (2, [.int (mo + 1), .ref u, .int 0])) ++ [(u, .inl (dA 5, 10, .inr (.inr (.inr (.inr (va_up (va_cpy (fun _ => none) (fun _ => none) 0 (0 + 1) (0 - 0)) 0 (some v)))))))]) wl1 hv hcl hca (fun z => z.elim (fun h => absurd h (by decide)) (fun h => absurd h (by decide))) (by rw [show (0 : Int32).toNatClampNeg = 0 by decide]; exact wl2) dJx4a65c_add_7a177_56 ?_
    refine z_aload_n X dJx4a65c_add_7a177_57 rfl rfl ?_
    refine z_iload_n X dJx4a65c_add_7a177_58 rfl rfl ?_
    refine z_iconst (v := 1) X dJx4a65c_add_7a177_59 (by decide) ?_
    refine z_iadd X dJx4a65c_add_7a177_60 ?_
    rw [show (0 : Int32) + 1 = 1 by decide]
    refine w_put hf X q0 2 (v := .int 1) (zs' := (zs.set q0 (a, .inr (2, [.int (mo + 1), .ref (dA 99), .int 0]))).set q0 (a, .inr (2, [.int (mo + 1), .ref u, .int 1])) ++ [(u, .inl (dA 5, 10, .inr (.inr (.inr (.inr (va_up (va_cpy (fun _ => none) (fun _ => none) 0 (0 + 1) (0 - 0)) 0 (some v)))))))]) (ty := .int) rj_ws (wl3 hx1) rfl tyJx4a65c_ok nmJx4a65c rfl rfl g_67 (Or.inl rfl) rfl rfl rfl rfl (wl4 hx1) dJx4a65c_add_7a177_61 ?_
    refine zz.widen (k := 1) (n := b9) (by omega) (by omega) ?_
    exact z_vret X hr (fun t hG hF _ => ⟨⟨u, rfl, trivial, hG⟩, hF⟩) dJx4a65c_add_7a177_64)
set_option maxRecDepth 100000 in
theorem jl_atN {l : Launch} {D : va_G} {dA : Nat → ClassId} {A : Nat → Prop} {n : Nat} (hst : l.stackTraces = false) (hA : ∀ q, n ≤ q → A q) {zs : va_W} {K : Heap → Prop} (hf : kf A K) (q0 q1 : Nat) {a b cap : Nat} {mo : Int32} {f : Nat → Option Nat} (hx : zs[q0]? = some (a, .inr (2, [.int mo, .ref b, .int (nI cap)]))) (hy : zs[q1]? = some (b, .inl (dA 5, cap, .inr (.inr (.inr (.inr f)))))) (hc0 : 0 < cap) (hc9 : cap ≤ 1000) (hK : ∀ H, K H → ∀ (j y : Nat), f j = some y → ∃ (ci : Nat) (fs : List Value) (r : vw_C), vwCl[ci]? = some r ∧ Cond.castable r.1 "java/lang/Object" ∈ gF ∧ va_at D vwCl (y, .inr (ci, fs)) H) {v ci : Nat} {vs : List Value} {r0 : vw_C} (hv : ∀ H, K H → va_at D vwCl (v, .inr (ci, vs)) H) (hcl : vwCl[ci]? = some r0) (hca : Cond.castable r0.1 "java/lang/Object" ∈ gF) (hq01 : q0 ≠ q1) {j : Nat} (hj : j ≤ cap) {b9 : Nat} (hb9 : (gcap cap) ≤ b9) : Met l yJx4a65c_add_7a177 (.code yJx4a65c_add_7a177 cJx4a65c_add_7a177 5 none :: gT) ({ frames := 8, cells := 1, slots := b9, locals := 336 } : Room) (va_Pc [.ref a, .int (nI j), .ref v] (zB D dA A n (zw D A zs K))) (va_Qv (fun (_ : Nat) => True) (fun (u : Nat) t => zw D A ((zs.set q0 (a, .inr (2, [.int (mo + 1), .ref b, .int (nI cap)]))).set q0 (a, .inr (2, [.int (mo + 1), .ref u, .int (nI (cap + 1))])) ++ [(u, .inl (dA 5, gcap cap, .inr (.inr (.inr (.inr (va_up (va_cpy (va_cpy f (fun _ => none) 0 0 cap) (va_cpy f (fun _ => none) 0 0 cap) j (j + 1) (cap - j)) j (some v)))))))]) K t.heap) A) 1 b9 A :=
  z_met (by decide) hA hst (Nat.le_of_ble_eq_true rfl) rfl rfl (fun p e s m below meth c X hml hr _ => by
    have hx1 : (zs.set q0 (a, .inr (2, [.int (mo + 1), .ref b, .int (nI cap)])))[q0]? = some (a, .inr (2, [.int (mo + 1), .ref b, .int (nI cap)])) := List.getElem?_set_self (List.getElem?_eq_some_iff.mp hx).1
    have hgc : cap < gcap cap ∧ gcap cap ≤ 2000 := by unfold gcap; omega
    refine z_aload_n X dJx4a65c_add_7a177_0 rfl rfl ?_
    refine z_iload_n X dJx4a65c_add_7a177_1 rfl rfl ?_
    refine z_callVv (As := [.int (nI j)]) (rest := []) (nA := 1) (mc := 0) (ms := 0) (rm := ({ frames := 7, cells := 0, slots := 0, locals := 294 } : Room))  (pu := (fun (_ : Unit) => True)) (G1 := (fun _ => zw D A zs K)) X (jl_rchk X.2.2.2.2.2.2.2.2 X.2.2.2.2.2.2.1 q0 hx (nI_nlt hj (by omega)) (Int32.not_lt.mp (nI_pos (by omega)))) g_576 g_578 gs_8 g_4 g_579 hd_yJx4a65c_rangeCheckForAdd_d00df ⟨rfl, rfl, Nat.le_of_ble_eq_true rfl, Nat.le_of_ble_eq_true rfl⟩ rfl (fun _ hG => va_recv X.2.2.2.2.2.1 hG.1 (q := (RJx4a65c, TJx4a65c, 3)) rfl hx) rfl (Nat.le_of_ble_eq_true rfl) dJx4a65c_add_7a177_2 ⟨Nat.zero_le _, Nat.zero_le _⟩ (fun _ _ => ?_)
    refine z_aload_n X dJx4a65c_add_7a177_5 rfl rfl ?_
    refine z_dup X dJx4a65c_add_7a177_6 rfl ?_
    refine w_get X q0 0 rj_ws hx rfl rfl g_69 (Or.inr g_70) rfl dJx4a65c_add_7a177_7 ?_
    refine z_iconst (v := 1) X dJx4a65c_add_7a177_10 (by decide) ?_
    refine z_iadd X dJx4a65c_add_7a177_11 ?_
    refine w_put hf X q0 0 (v := .int (mo + 1)) (zs' := (zs.set q0 (a, .inr (2, [.int (mo + 1), .ref b, .int (nI cap)])))) (ty := .int) rj_ws hx rfl tyJx4a65c_ok nmJx4a65c rfl rfl g_69 (Or.inr g_70) rfl rfl rfl rfl rfl dJx4a65c_add_7a177_12 ?_
    refine z_aload_n X dJx4a65c_add_7a177_15 rfl rfl ?_
    refine w_get X q0 2 rj_ws hx1 rfl rfl g_67 (Or.inl rfl) rfl dJx4a65c_add_7a177_16 ?_
    refine z_dup X dJx4a65c_add_7a177_19 rfl ?_
    refine z_istore_n (lo' := [(3, .int (nI cap)), (0, .ref a), (1, .int (nI j)), (2, .ref v)]) X dJx4a65c_add_7a177_20 rfl (by rw [hml]; decide) rfl rfl ?_
    refine z_aload_n X dJx4a65c_add_7a177_21 rfl rfl ?_
    refine w_get X q0 1 rj_ws hx1 rfl rfl g_66 (Or.inl rfl) rfl dJx4a65c_add_7a177_22 ?_
    refine z_dup X dJx4a65c_add_7a177_25 rfl ?_
    refine z_astore (x := b) (lo' := [(4, .ref b), (3, .int (nI cap)), (0, .ref a), (1, .int (nI j)), (2, .ref v)]) X dJx4a65c_add_7a177_26 (by rw [hml]; decide) rfl rfl ?_
    refine w_alen X q1 ((List.getElem?_set_ne hq01).trans hy) rfl dJx4a65c_add_7a177_28 ?_
    refine z_icmp_ne (tgt := 38) X dJx4a65c_add_7a177_29 (by decide) (fun q => ?_) (fun q => absurd rfl q)
    refine z_aload_n X dJx4a65c_add_7a177_32 rfl rfl ?_
    refine z_callVq (As := []) (rest := []) (nA := 0) (mc := 1) (ms := (gcap cap)) (rm := ({ frames := 6, cells := 1, slots := (gcap cap), locals := 252 } : Room)) (ro := fun (u : Nat) => some u) (pu := (fun _ => True)) (G1 := (fun (u : Nat) => zw D A ((zs.set q0 (a, .inr (2, [.int (mo + 1), .ref b, .int (nI cap)]))).set q0 (a, .inr (2, [.int (mo + 1), .ref u, .int (nI cap)])) ++ [(u, .inl (dA 5, gcap cap, .inr (.inr (.inr (.inr (va_cpy f (fun _ => none) 0 0 cap))))))]) K)) X (jl_growN1 X.2.2.2.2.2.2.2.2 X.2.2.2.2.2.2.1 hf q0 q1 hx1 ((List.getElem?_set_ne hq01).trans hy) hc0 hc9 hK) g_114 g_116 gs_1 g_4 g_117 hd_yJx4a65c_grow_d5877 ⟨rfl, rfl, Nat.le_of_ble_eq_true rfl, Nat.le_of_ble_eq_true rfl⟩ rfl (fun _ hG => va_recv X.2.2.2.2.2.1 hG.1 (q := (RJx4a65c, TJx4a65c, 3)) rfl hx1) rfl (Nat.le_of_ble_eq_true rfl) dJx4a65c_add_7a177_33 ⟨by show 0 + 1 ≤ 1; omega, by show 0 + (gcap cap) ≤ b9; omega⟩ (fun u _ => ?_)
    refine z_astore (x := u) (lo' := [(4, .ref u), (3, .int (nI cap)), (0, .ref a), (1, .int (nI j)), (2, .ref v)]) X dJx4a65c_add_7a177_36 (by rw [hml]; decide) rfl rfl ?_
    refine z_aload X dJx4a65c_add_7a177_38 rfl ?_
    refine z_iload_n X dJx4a65c_add_7a177_40 rfl rfl ?_
    refine z_aload X dJx4a65c_add_7a177_41 rfl ?_
    refine z_iload_n X dJx4a65c_add_7a177_43 rfl rfl ?_
    refine z_iconst (v := 1) X dJx4a65c_add_7a177_44 (by decide) ?_
    refine z_iadd X dJx4a65c_add_7a177_45 ?_
    refine z_iload_n X dJx4a65c_add_7a177_46 rfl rfl ?_
    refine z_iload_n X dJx4a65c_add_7a177_47 rfl rfl ?_
    refine z_isub X dJx4a65c_add_7a177_48 ?_
    rw [nI_1, nI_sb hj]
    refine w_copy hf X ((zs.set q0 (a, .inr (2, [.int (mo + 1), .ref b, .int (nI cap)]))).length) ((zs.set q0 (a, .inr (2, [.int (mo + 1), .ref b, .int (nI cap)]))).length) g_817 g_169 g_168 g_11 wl1 wl1 (nI_pos (by omega)) (nI_pos (by omega)) (nI_pos (by omega)) (by rw [nI_clamp (by omega), nI_clamp (by omega)]; omega) (by rw [nI_clamp (by omega), nI_clamp (by omega)]; omega) (fun H hH i9 hi9 y hy9 => ?_) (Nat.le_of_ble_eq_true rfl) (Nat.le_of_ble_eq_true rfl) (zs' := (zs.set q0 (a, .inr (2, [.int (mo + 1), .ref b, .int (nI cap)]))).set q0 (a, .inr (2, [.int (mo + 1), .ref u, .int (nI cap)])) ++ [(u, .inl (dA 5, gcap cap, .inr (.inr (.inr (.inr ((va_cpy (va_cpy f (fun _ => none) 0 0 cap) (va_cpy f (fun _ => none) 0 0 cap) j (j + 1) (cap - j))))))))]) (by rw [nI_clamp (by omega), nI_clamp (by omega), nI_clamp (by omega)]; exact wl2) dJx4a65c_add_7a177_49 ?_
    · unfold va_cpy at hy9
      split at hy9
      · obtain ⟨ci, fs, r, g1, g2, g3⟩ := hK H hH.2.2 _ y hy9
        exact va_rAny X.2.2.2.2.2.1 (zone1 g3) (q0 := 0) rfl g1 (z_asg X g2)
      · cases hy9
    refine z_aload X dJx4a65c_add_7a177_52 rfl ?_
    refine z_iload_n X dJx4a65c_add_7a177_54 rfl rfl ?_
    refine z_aload_n X dJx4a65c_add_7a177_55 rfl rfl ?_
    refine w_aast hf X ((zs.set q0 (a, .inr (2, [.int (mo + 1), .ref b, .int (nI cap)]))).length) (zs' := (zs.set q0 (a, .inr (2, [.int (mo + 1), .ref b, .int (nI cap)]))).set q0 (a, .inr (2, [.int (mo + 1), .ref u, .int (nI cap)])) ++ [(u, .inl (dA 5, gcap cap, .inr (.inr (.inr (.inr (va_up (va_cpy (va_cpy f (fun _ => none) 0 0 cap) (va_cpy f (fun _ => none) 0 0 cap) j (j + 1) (cap - j)) j (some v)))))))]) wl1 hv hcl hca (nI_in (by omega) (by omega)) (by rw [nI_clamp (by omega)]; exact wl2) dJx4a65c_add_7a177_56 ?_
    refine z_aload_n X dJx4a65c_add_7a177_57 rfl rfl ?_
    refine z_iload_n X dJx4a65c_add_7a177_58 rfl rfl ?_
    refine z_iconst (v := 1) X dJx4a65c_add_7a177_59 (by decide) ?_
    refine z_iadd X dJx4a65c_add_7a177_60 ?_
    rw [nI_1]
    refine w_put hf X q0 2 (v := .int (nI (cap + 1))) (zs' := (zs.set q0 (a, .inr (2, [.int (mo + 1), .ref b, .int (nI cap)]))).set q0 (a, .inr (2, [.int (mo + 1), .ref u, .int (nI (cap + 1))])) ++ [(u, .inl (dA 5, gcap cap, .inr (.inr (.inr (.inr (va_up (va_cpy (va_cpy f (fun _ => none) 0 0 cap) (va_cpy f (fun _ => none) 0 0 cap) j (j + 1) (cap - j)) j (some v)))))))]) (ty := .int) rj_ws (wl3 hx1) rfl tyJx4a65c_ok nmJx4a65c rfl rfl g_67 (Or.inl rfl) rfl rfl rfl rfl (wl4 hx1) dJx4a65c_add_7a177_61 ?_
    refine zz.widen (k := 1) (n := b9) (by omega) (by omega) ?_
    exact z_vret X hr (fun t hG hF _ => ⟨⟨u, rfl, trivial, hG⟩, hF⟩) dJx4a65c_add_7a177_64)
set_option maxRecDepth 100000 in
theorem jl_atR {l : Launch} {D : va_G} {dA : Nat → ClassId} {A : Nat → Prop} {n : Nat} (hst : l.stackTraces = false) (hA : ∀ q, n ≤ q → A q) {zs : va_W} {K : Heap → Prop} (hf : kf A K) (q0 q1 : Nat) {a b cap k : Nat} {mo : Int32} {f : Nat → Option Nat} (hx : zs[q0]? = some (a, .inr (2, [.int mo, .ref b, .int (nI k)]))) (hy : zs[q1]? = some (b, .inl (dA 5, cap, .inr (.inr (.inr (.inr f)))))) (hk : k < cap) (hc9 : cap ≤ 100000) (hq01 : q1 ≠ q0) (hK : ∀ H, K H → ∀ (j y : Nat), f j = some y → ∃ (ci : Nat) (fs : List Value) (r : vw_C), vwCl[ci]? = some r ∧ Cond.castable r.1 "java/lang/Object" ∈ gF ∧ va_at D vwCl (y, .inr (ci, fs)) H) {v ci : Nat} {vs : List Value} {r0 : vw_C} (hv : ∀ H, K H → va_at D vwCl (v, .inr (ci, vs)) H) (hcl : vwCl[ci]? = some r0) (hca : Cond.castable r0.1 "java/lang/Object" ∈ gF) {j : Nat} (hj : j ≤ k) {b9 : Nat} (hb9 : 0 ≤ b9) : Met l yJx4a65c_add_7a177 (.code yJx4a65c_add_7a177 cJx4a65c_add_7a177 5 none :: gT) ({ frames := 8, cells := 1, slots := b9, locals := 336 } : Room) (va_Pc [.ref a, .int (nI j), .ref v] (zB D dA A n (zw D A zs K))) (va_Qv (fun (_ : Unit) => True) (fun (_ : Unit) t => zw D A (((zs.set q0 (a, .inr (2, [.int (mo + 1), .ref b, .int (nI k)]))).set q1 (b, .inl (dA 5, cap, .inr (.inr (.inr (.inr (va_up (va_cpy f f j (j + 1) (k - j)) j (some v)))))))).set q0 (a, .inr (2, [.int (mo + 1), .ref b, .int (nI (k + 1))]))) K t.heap) A) 1 b9 A :=
  z_met (by decide) hA hst (Nat.le_of_ble_eq_true rfl) rfl rfl (fun p e s m below meth c X hml hr _ => by
    have hx1 : (zs.set q0 (a, .inr (2, [.int (mo + 1), .ref b, .int (nI k)])))[q0]? = some (a, .inr (2, [.int (mo + 1), .ref b, .int (nI k)])) := List.getElem?_set_self (List.getElem?_eq_some_iff.mp hx).1
    refine z_aload_n X dJx4a65c_add_7a177_0 rfl rfl ?_
    refine z_iload_n X dJx4a65c_add_7a177_1 rfl rfl ?_
    refine z_callVv (As := [.int (nI j)]) (rest := []) (nA := 1) (mc := 0) (ms := 0) (rm := ({ frames := 7, cells := 0, slots := 0, locals := 294 } : Room))  (pu := (fun (_ : Unit) => True)) (G1 := (fun _ => zw D A zs K)) X (jl_rchk X.2.2.2.2.2.2.2.2 X.2.2.2.2.2.2.1 q0 hx (nI_nlt hj (by omega)) (Int32.not_lt.mp (nI_pos (by omega)))) g_576 g_578 gs_8 g_4 g_579 hd_yJx4a65c_rangeCheckForAdd_d00df ⟨rfl, rfl, Nat.le_of_ble_eq_true rfl, Nat.le_of_ble_eq_true rfl⟩ rfl (fun _ hG => va_recv X.2.2.2.2.2.1 hG.1 (q := (RJx4a65c, TJx4a65c, 3)) rfl hx) rfl (Nat.le_of_ble_eq_true rfl) dJx4a65c_add_7a177_2 ⟨Nat.zero_le _, Nat.zero_le _⟩ (fun _ _ => ?_)
    refine z_aload_n X dJx4a65c_add_7a177_5 rfl rfl ?_
    refine z_dup X dJx4a65c_add_7a177_6 rfl ?_
    refine w_get X q0 0 rj_ws hx rfl rfl g_69 (Or.inr g_70) rfl dJx4a65c_add_7a177_7 ?_
    refine z_iconst (v := 1) X dJx4a65c_add_7a177_10 (by decide) ?_
    refine z_iadd X dJx4a65c_add_7a177_11 ?_
    refine w_put hf X q0 0 (v := .int (mo + 1)) (zs' := (zs.set q0 (a, .inr (2, [.int (mo + 1), .ref b, .int (nI k)])))) (ty := .int) rj_ws hx rfl tyJx4a65c_ok nmJx4a65c rfl rfl g_69 (Or.inr g_70) rfl rfl rfl rfl rfl dJx4a65c_add_7a177_12 ?_
    refine z_aload_n X dJx4a65c_add_7a177_15 rfl rfl ?_
    refine w_get X q0 2 rj_ws hx1 rfl rfl g_67 (Or.inl rfl) rfl dJx4a65c_add_7a177_16 ?_
    refine z_dup X dJx4a65c_add_7a177_19 rfl ?_
    refine z_istore_n (lo' := [(3, .int (nI k)), (0, .ref a), (1, .int (nI j)), (2, .ref v)]) X dJx4a65c_add_7a177_20 rfl (by rw [hml]; decide) rfl rfl ?_
    refine z_aload_n X dJx4a65c_add_7a177_21 rfl rfl ?_
    refine w_get X q0 1 rj_ws hx1 rfl rfl g_66 (Or.inl rfl) rfl dJx4a65c_add_7a177_22 ?_
    refine z_dup X dJx4a65c_add_7a177_25 rfl ?_
    refine z_astore (x := b) (lo' := [(4, .ref b), (3, .int (nI k)), (0, .ref a), (1, .int (nI j)), (2, .ref v)]) X dJx4a65c_add_7a177_26 (by rw [hml]; decide) rfl rfl ?_
    refine w_alen X q1 ((List.getElem?_set_ne hq01.symm).trans hy) rfl dJx4a65c_add_7a177_28 ?_
    refine z_icmp_ne (tgt := 38) X dJx4a65c_add_7a177_29 (by decide) (fun q => absurd ((nI_eq (by omega) (by omega)).mp q) (by omega)) (fun q => ?_)
    refine z_aload X dJx4a65c_add_7a177_38 rfl ?_
    refine z_iload_n X dJx4a65c_add_7a177_40 rfl rfl ?_
    refine z_aload X dJx4a65c_add_7a177_41 rfl ?_
    refine z_iload_n X dJx4a65c_add_7a177_43 rfl rfl ?_
    refine z_iconst (v := 1) X dJx4a65c_add_7a177_44 (by decide) ?_
    refine z_iadd X dJx4a65c_add_7a177_45 ?_
    refine z_iload_n X dJx4a65c_add_7a177_46 rfl rfl ?_
    refine z_iload_n X dJx4a65c_add_7a177_47 rfl rfl ?_
    refine z_isub X dJx4a65c_add_7a177_48 ?_
    rw [nI_1, nI_sb hj]
    refine w_copy hf X (q1) (q1) g_817 g_169 g_168 g_11 ((List.getElem?_set_ne hq01.symm).trans hy) ((List.getElem?_set_ne hq01.symm).trans hy) (nI_pos (by omega)) (nI_pos (by omega)) (nI_pos (by omega)) (by rw [nI_clamp (by omega), nI_clamp (by omega)]; omega) (by rw [nI_clamp (by omega), nI_clamp (by omega)]; omega) (fun H hH i9 hi9 y hy9 => ?_) (Nat.le_of_ble_eq_true rfl) (Nat.le_of_ble_eq_true rfl) (zs' := (zs.set q0 (a, .inr (2, [.int (mo + 1), .ref b, .int (nI k)]))).set q1 (b, .inl (dA 5, cap, .inr (.inr (.inr (.inr ((va_cpy f f j (j + 1) (k - j))))))))) (by rw [nI_clamp (by omega), nI_clamp (by omega), nI_clamp (by omega)]) dJx4a65c_add_7a177_49 ?_
    · obtain ⟨ci, fs, r, g1, g2, g3⟩ := hK H hH.2.2 _ y hy9
      exact va_rAny X.2.2.2.2.2.1 (zone1 g3) (q0 := 0) rfl g1 (z_asg X g2)
    refine z_aload X dJx4a65c_add_7a177_52 rfl ?_
    refine z_iload_n X dJx4a65c_add_7a177_54 rfl rfl ?_
    refine z_aload_n X dJx4a65c_add_7a177_55 rfl rfl ?_
    refine w_aast hf X (q1) (zs' := (zs.set q0 (a, .inr (2, [.int (mo + 1), .ref b, .int (nI k)]))).set q1 (b, .inl (dA 5, cap, .inr (.inr (.inr (.inr (va_up (va_cpy f f j (j + 1) (k - j)) j (some v)))))))) (List.getElem?_set_self (by rw [List.length_set]; exact (List.getElem?_eq_some_iff.mp hy).1)) hv hcl hca (nI_in (by omega) (by omega)) (by rw [nI_clamp (by omega), List.set_set]) dJx4a65c_add_7a177_56 ?_
    refine z_aload_n X dJx4a65c_add_7a177_57 rfl rfl ?_
    refine z_iload_n X dJx4a65c_add_7a177_58 rfl rfl ?_
    refine z_iconst (v := 1) X dJx4a65c_add_7a177_59 (by decide) ?_
    refine z_iadd X dJx4a65c_add_7a177_60 ?_
    rw [nI_1]
    refine w_put hf X q0 2 (v := .int (nI (k + 1))) (zs' := ((zs.set q0 (a, .inr (2, [.int (mo + 1), .ref b, .int (nI k)]))).set q1 (b, .inl (dA 5, cap, .inr (.inr (.inr (.inr (va_up (va_cpy f f j (j + 1) (k - j)) j (some v)))))))).set q0 (a, .inr (2, [.int (mo + 1), .ref b, .int (nI (k + 1))]))) (ty := .int) rj_ws (by rw [List.getElem?_set_ne hq01]; exact hx1) rfl tyJx4a65c_ok nmJx4a65c rfl rfl g_67 (Or.inl rfl) rfl rfl rfl rfl rfl dJx4a65c_add_7a177_61 ?_
    refine zz.widen (k := 1) (n := b9) (by omega) (by omega) ?_
    exact z_vret X hr (fun t hG hF _ => ⟨⟨(), rfl, trivial, hG⟩, hF⟩) dJx4a65c_add_7a177_64)
theorem ins_ef {w : List Int32} {x : Int32} {j : Nat} (hj : j ≤ w.length) (F : Int32 → Nat) (t : Nat) : ((w.take j ++ x :: w.drop j)[t]?).map F = if t = j then some (F x) else if t < j then (w[t]?).map F else (w[t - 1]?).map F := by
  have hl : (w.take j).length = j := by rw [List.length_take, Nat.min_eq_left hj]
  by_cases h1 : t = j
  · rw [if_pos h1, List.getElem?_append_right (by omega), hl, h1, Nat.sub_self]
    rfl
  · rw [if_neg h1]
    by_cases h2 : t < j
    · rw [if_pos h2, List.getElem?_append_left (by omega), List.getElem?_take_of_lt h2]
    · rw [if_neg h2, List.getElem?_append_right (by omega), hl]
      obtain ⟨r, rfl⟩ : ∃ r, t = j + 1 + r := ⟨t - (j + 1), by omega⟩
      rw [show j + 1 + r - j = r + 1 by omega, List.getElem?_cons_succ, List.getElem?_drop, show j + 1 + r - 1 = j + r by omega]
section LE2
variable (l : Launch) {D : va_G} {dA : Nat → ClassId} {A : Nat → Prop} {n : Nat} {V : Rho} {L L1 : Lst} {N : Cnt} {ad : Adr} {xs : va_W} {k i : Nat}
theorem cl_addAt' (hst : l.stackTraces = false) (hA : ∀ q, n ≤ q → A q) (h1 : Nat.ble 12 k = true) (h2 : Nat.ble (k + 1) 19 = true) (hi : i < N (ow k)) {j x : Int32} (hx : vp_in x (N (lel k))) (q2 : ¬ (j < 0 ∨ (L k i).length < j.toNatClampNeg)) (q : ¬ 1000 ≤ (L k i).length) (e : lput L k i ((L k i).take j.toNatClampNeg ++ x :: (L k i).drop j.toNatClampNeg) = L1) : Met l yJx4a65c_add_7a177 (.code yJx4a65c_add_7a177 cJx4a65c_add_7a177 5 none :: gT) ({ frames := 8, cells := 1, slots := 1510, locals := 336 } : Room) (va_Pc [.ref (ad k i), .int j, .ref (ad (lel k) x.toNatClampNeg)] (zB D dA A n (cx D dA A V L N ad xs))) (va_Qv (fun (u : Adr) => axt N ad u ∧ ∀ k, N k ≤ N k) (fun (u : Adr) t => cx D dA A V L1 N u xs t.heap) A) 1 1510 A := by
  subst e
  have h1 := Nat.le_of_ble_eq_true h1
  have h2 := Nat.le_of_ble_eq_true h2
  obtain ⟨j, hj9, rfl⟩ := nI_of (fun z => q2 (Or.inl z))
  rw [nI_clamp hj9] at q2 ⊢
  have hj : j ≤ (L k i).length := Nat.not_lt.mp fun z => q2 (Or.inr z)
  have hlen1 : ((L k i).take j ++ x :: (L k i).drop j).length = (L k i).length + 1 := by
    rw [List.length_append, List.length_cons, List.length_take, List.length_drop]
    omega
  have hne1 : ¬ ((L k i).take j ++ x :: (L k i).drop j) = [] := fun z => by
    rw [z] at hlen1
    exact absurd hlen1 (by simp)
  have hax : ∀ u : Nat, axt N ad (adu ad (k + 7) i u) := fun u k' i' hex hk => adu_ne (fun z => hk ⟨by omega, by omega⟩)
  refine met_open (fun H q => q = ad k i ∨ (L k i ≠ [] ∧ q = ad (k + 7) i) ∨ H.size ≤ q) (fun H hG hn => cl_A hA h1 h2 hi H hG hn) (fun H hG hn => ?_)
  obtain ⟨mo, zs, hz, z0, z1⟩ := cl_open h1 h2 hi hG
  have hz' : zw D (fun q => q = ad k i ∨ (L k i ≠ [] ∧ q = ad (k + 7) i) ∨ H.size ≤ q) zs (kel D V L ad k i x) H := ⟨hz.1, hz.2.1, kel_ok h1 h2 hi hx hG⟩
  obtain ⟨r, g1, g2⟩ := lel_cl h1 h2
  have hAA := cl_A hA h1 h2 hi H hG hn
  have hw : ∀ y ∈ (L k i).take j ++ x :: (L k i).drop j, vp_in y (N (lel k)) := fun y hy => by
    rcases List.mem_append.mp hy with h | h
    · exact hG.2.2.2.2.2.2.1 k i y h1 h2 hi (List.mem_of_mem_take h)
    · rcases List.mem_cons.mp h with h | h
      · rw [h]; exact hx
      · exact hG.2.2.2.2.2.2.1 k i y h1 h2 hi (List.mem_of_mem_drop h)
  by_cases hL : L k i = []
  · have z0' : zs[0]? = some (ad k i, .inr (2, [.int mo, .ref (dA 99), .int 0])) := by rw [z0, if_pos hL, hL]; rfl
    have hj0 : j = 0 := by rw [hL] at hj; exact Nat.le_zero.mp hj
    subst hj0
    rw [nI_0]
    refine ⟨_, _, hz', jl_atE hst (fun q h => Or.inr (Or.inr h)) (kel_kf h1 h2 hi hx hG) 0 z0' (fun H hK => hK x (Or.inl rfl)) g1 g2 (b9 := 1510) (by omega), fun av st t o e9 h => ?_⟩
    obtain ⟨⟨u, ho, -, hzz⟩, hF⟩ := h
    have a0 := hzz.1 0 _ (wz0 z0')
    have a1 := hzz.1 zs.length _ wzl
    have hzl : 0 < zs.length := (List.getElem?_eq_some_iff.mp z0').1
    have hune : u ≠ ad k i := fun z => by
      have := hzz.2.1.1 0 zs.length _ _ (wz0 z0') wzl z.symm
      omega
    have hu : H.size ≤ u := by
      rcases hzz.2.1.2 zs.length _ wzl with z | z | z
      · exact absurd z hune
      · exact absurd hL z.1
      · exact z
    refine ⟨⟨adu ad (k + 7) i u, ho, ⟨hax u, fun _ => Nat.le_refl _⟩, ?_⟩, cl_F e9 hAA hF⟩
    refine cx_list (w := (L k i).take 0 ++ x :: (L k i).drop 0) (r := u) h1 h2 hi hG (cl_fr e9 hF) (fun _ => ⟨hAA u (Or.inr (Or.inr hu)), Or.inr hu⟩) hw (by omega) ⟨_, by rw [if_neg hne1, hlen1, hL]; exact a0⟩ (fun _ => ⟨10, ?_, by rw [hlen1, hL]; show 0 + 1 ≤ 10; omega, by omega⟩)
    have ef : (fun (t : Nat) => (((L k i).take 0 ++ x :: (L k i).drop 0)[t]?).map (fun (y : Int32) => ad (lel k) y.toNatClampNeg)) = va_up (va_cpy (fun _ => none) (fun _ => none) 0 (0 + 1) (0 - 0)) 0 (some (ad (lel k) x.toNatClampNeg)) := by
      funext t
      rw [ins_ef hj]
      unfold va_up va_cpy
      rw [hL, ite_self]
      by_cases e1 : t = 0
      · rw [if_pos e1, if_pos e1]
      · rw [if_neg e1, if_neg e1, if_neg (Nat.not_lt_zero t)]
        rfl
    rw [ef]
    exact a1
  · obtain ⟨cap, c1, c2, c3⟩ := z1 hL
    have z0' : zs[0]? = some (ad k i, .inr (2, [.int mo, .ref (ad (k + 7) i), .int (nI (L k i).length)])) := by rw [z0, if_neg hL]
    have hpos : 0 < (L k i).length := Nat.pos_of_ne_zero (fun z => hL (List.eq_nil_of_length_eq_zero z))
    by_cases hfull : (L k i).length = cap
    · subst hfull
      refine ⟨_, _, hz', jl_atN hst (fun q h => Or.inr (Or.inr h)) (kel_kf h1 h2 hi hx hG) 0 1 z0' c1 hpos (by omega) (kel_hK h1 h2) (fun H hK => hK x (Or.inl rfl)) g1 g2 (by decide) hj (b9 := 1510) (by unfold gcap; omega), fun av st t o e9 h => ?_⟩
      obtain ⟨⟨u, ho, -, hzz⟩, hF⟩ := h
      have a0 := hzz.1 0 _ (wz0 z0')
      have a1 := hzz.1 zs.length _ wzl
      have hzl : 1 < zs.length := (List.getElem?_eq_some_iff.mp c1).1
      have hune : u ≠ ad k i := fun z => by
        have := hzz.2.1.1 0 zs.length _ _ (wz0 z0') wzl z.symm
        omega
      have hune2 : u ≠ ad (k + 7) i := fun z => by
        have := hzz.2.1.1 1 zs.length _ _ (wa (by rw [List.set_set, List.getElem?_set_ne (by decide)]; exact c1)) wzl z.symm
        omega
      have hu : H.size ≤ u := by
        rcases hzz.2.1.2 zs.length _ wzl with z | z | z
        · exact absurd z hune
        · exact absurd z.2 hune2
        · exact z
      refine ⟨⟨adu ad (k + 7) i u, ho, ⟨hax u, fun _ => Nat.le_refl _⟩, ?_⟩, cl_F e9 hAA hF⟩
      refine cx_list (w := (L k i).take j ++ x :: (L k i).drop j) (r := u) h1 h2 hi hG (cl_fr e9 hF) (fun _ => ⟨hAA u (Or.inr (Or.inr hu)), Or.inr hu⟩) hw (by omega) ⟨_, by rw [if_neg hne1, hlen1]; exact a0⟩ (fun _ => ⟨gcap (L k i).length, ?_, by rw [hlen1]; unfold gcap; omega, by rw [hlen1]; unfold gcap; omega⟩)
      have ef : (fun (t : Nat) => (((L k i).take j ++ x :: (L k i).drop j)[t]?).map (fun (y : Int32) => ad (lel k) y.toNatClampNeg)) = va_up (va_cpy (va_cpy (fun (j : Nat) => ((L k i)[j]?).map (fun (y : Int32) => ad (lel k) y.toNatClampNeg)) (fun _ => none) 0 0 (L k i).length) (va_cpy (fun (j : Nat) => ((L k i)[j]?).map (fun (y : Int32) => ad (lel k) y.toNatClampNeg)) (fun _ => none) 0 0 (L k i).length) j (j + 1) ((L k i).length - j)) j (some (ad (lel k) x.toNatClampNeg)) := by
        funext t
        rw [ins_ef hj]
        unfold va_up va_cpy
        by_cases e1 : t = j
        · rw [if_pos e1, if_pos e1]
        · rw [if_neg e1, if_neg e1]
          by_cases e2 : t < j
          · rw [if_pos e2, if_neg (fun z => by omega), if_pos ⟨by omega, by omega⟩, Nat.zero_add, Nat.sub_zero]
          · rw [if_neg e2]
            by_cases e3 : t < (L k i).length + 1
            · rw [if_pos ⟨by omega, by omega⟩, if_pos ⟨by omega, by omega⟩, Nat.zero_add, Nat.sub_zero, show j + (t - (j + 1)) = t - 1 by omega]
            · rw [if_neg (fun z => by omega), if_neg (fun z => by omega), List.getElem?_eq_none (by omega)]
              rfl
      rw [ef]
      exact a1
    · refine ⟨_, _, hz', jl_atR hst (fun q h => Or.inr (Or.inr h)) (kel_kf h1 h2 hi hx hG) 0 1 z0' c1 (by omega) (by omega) (by decide) (kel_hK h1 h2) (fun H hK => hK x (Or.inl rfl)) g1 g2 hj (b9 := 1510) (by omega), fun av st t o e9 h => ?_⟩
      obtain ⟨⟨u, ho, -, hzz⟩, hF⟩ := h
      have hzl : 1 < zs.length := (List.getElem?_eq_some_iff.mp c1).1
      have a0 := hzz.1 0 _ (List.getElem?_set_self (by simp; omega))
      have a1 := hzz.1 1 _ ((List.getElem?_set_ne (by decide)).trans (List.getElem?_set_self (by simp; omega)))
      refine ⟨⟨adu ad (k + 7) i (ad (k + 7) i), ho, ⟨hax _, fun _ => Nat.le_refl _⟩, ?_⟩, cl_F e9 hAA hF⟩
      refine cx_list (w := (L k i).take j ++ x :: (L k i).drop j) (r := ad (k + 7) i) h1 h2 hi hG (cl_fr e9 hF) (fun _ => ⟨hAA _ (Or.inr (Or.inl ⟨hL, rfl⟩)), Or.inl ⟨rfl, hL⟩⟩) hw (by omega) ⟨_, by rw [if_neg hne1, hlen1]; exact a0⟩ (fun _ => ⟨cap, ?_, by omega, by omega⟩)
      have ef : (fun (t : Nat) => (((L k i).take j ++ x :: (L k i).drop j)[t]?).map (fun (y : Int32) => ad (lel k) y.toNatClampNeg)) = va_up (va_cpy (fun (j : Nat) => ((L k i)[j]?).map (fun (y : Int32) => ad (lel k) y.toNatClampNeg)) (fun (j : Nat) => ((L k i)[j]?).map (fun (y : Int32) => ad (lel k) y.toNatClampNeg)) j (j + 1) ((L k i).length - j)) j (some (ad (lel k) x.toNatClampNeg)) := by
        funext t
        rw [ins_ef hj]
        unfold va_up va_cpy
        by_cases e1 : t = j
        · rw [if_pos e1, if_pos e1]
        · rw [if_neg e1, if_neg e1]
          by_cases e2 : t < j
          · rw [if_pos e2, if_neg (fun z => by omega)]
          · rw [if_neg e2]
            by_cases e3 : t < (L k i).length + 1
            · rw [if_pos ⟨by omega, by omega⟩, show j + (t - (j + 1)) = t - 1 by omega]
            · rw [if_neg (fun z => by omega), List.getElem?_eq_none (by omega)]
              show none = Option.map (fun (y : Int32) => ad (lel k) y.toNatClampNeg) ((L k i)[t]?)
              rw [List.getElem?_eq_none (by omega)]
              rfl
      rw [ef]
      exact a1
end LE2
