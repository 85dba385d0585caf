/-! STRINGBUILDER: the capacity, letters, digits -/
theorem g_1272 : Cond.methodLink RJ5 191 yJ1_canEncode_fc78d ∈ gT := gT_t 1037 (by decide +kernel) rfl
theorem g_1273 : Cond.static yJ1_canEncode_fc78d ∈ gT := gT_t 1038 (by decide +kernel) rfl
theorem g_1274 : Cond.code yJ1_canEncode_fc78d cJ1_canEncode_fc78d 1 (some .boolean) ∈ gT := gT_t 1039 (by decide +kernel) rfl
theorem g_25 : Cond.initialized RJ5 ∈ gT := gT_t 28 (by decide +kernel) rfl
theorem g_29 : Cond.initialized RJ1 ∈ gT := gT_t 32 (by decide +kernel) rfl
theorem g_606 : Cond.fieldLink RJ5 79 "java/lang/AbstractStringBuilder" "count" "I" ∈ gT := gT_t 995 (by decide +kernel) rfl
theorem g_628 : Cond.methodLink RJ5 100 yJ5_ensureCapacityInternal_d00df ∈ gT := gT_t 1012 (by decide +kernel) rfl
theorem g_630 : Cond.instanceMethod yJ5_ensureCapacityInternal_d00df ∈ gT := gT_t 1014 (by decide +kernel) rfl
theorem g_631 : Cond.code yJ5_ensureCapacityInternal_d00df cJ5_ensureCapacityInternal_d00df 3 none ∈ gT := gT_t 1015 (by decide +kernel) rfl
theorem g_632 : Cond.methodLink RJ5 104 yJ5_newCapacity_0f7a4 ∈ gT := gT_t 1016 (by decide +kernel) rfl
theorem g_634 : Cond.instanceMethod yJ5_newCapacity_0f7a4 ∈ gT := gT_t 1018 (by decide +kernel) rfl
theorem g_635 : Cond.code yJ5_newCapacity_0f7a4 cJ5_newCapacity_0f7a4 6 (some .int) ∈ gT := gT_t 1019 (by decide +kernel) rfl
theorem g_638 : Cond.methodLink RJ5 108 yJ7_copyOf_9075b ∈ gT := gT_t 1022 (by decide +kernel) rfl
theorem g_639 : Cond.static yJ7_copyOf_9075b ∈ gT := gT_t 1023 (by decide +kernel) rfl
theorem g_640 : Cond.code yJ7_copyOf_9075b cJ7_copyOf_9075b 3 (some (.array .byte)) ∈ gT := gT_t 1024 (by decide +kernel) rfl
theorem g_648 : Cond.methodLink RJ5 83 yJ5_isLatin1_aae02 ∈ gT := gT_t 1032 (by decide +kernel) rfl
theorem g_649 : Cond.instanceMethod yJ5_isLatin1_aae02 ∈ gT := gT_t 1033 (by decide +kernel) rfl
theorem g_652 : Cond.code yJ5_isLatin1_aae02 cJ5_isLatin1_aae02 1 (some .boolean) ∈ gT := gT_t 1036 (by decide +kernel) rfl
theorem hd_yJ1_canEncode_fc78d : yJ1_canEncode_fc78d.cls = RJ1 ∧ yJ1_canEncode_fc78d.cls ≠ "java/lang/invoke/MethodHandle" ∧ yJ1_canEncode_fc78d.cls ≠ "java/lang/invoke/VarHandle" ∧ (parseMethodDescriptor yJ1_canEncode_fc78d.desc).map (fun d => d.parameters.length) = some 1 := by decide +kernel
theorem hd_yJ5_ensureCapacityInternal_d00df : yJ5_ensureCapacityInternal_d00df.cls = RJ5 ∧ yJ5_ensureCapacityInternal_d00df.cls ≠ "java/lang/invoke/MethodHandle" ∧ yJ5_ensureCapacityInternal_d00df.cls ≠ "java/lang/invoke/VarHandle" ∧ (parseMethodDescriptor yJ5_ensureCapacityInternal_d00df.desc).map (fun d => d.parameters.length) = some 1 := by decide +kernel
theorem hd_yJ5_isLatin1_aae02 : yJ5_isLatin1_aae02.cls = RJ5 ∧ yJ5_isLatin1_aae02.cls ≠ "java/lang/invoke/MethodHandle" ∧ yJ5_isLatin1_aae02.cls ≠ "java/lang/invoke/VarHandle" ∧ (parseMethodDescriptor yJ5_isLatin1_aae02.desc).map (fun d => d.parameters.length) = some 0 := by decide +kernel
theorem hd_yJ5_newCapacity_0f7a4 : yJ5_newCapacity_0f7a4.cls = RJ5 ∧ yJ5_newCapacity_0f7a4.cls ≠ "java/lang/invoke/MethodHandle" ∧ yJ5_newCapacity_0f7a4.cls ≠ "java/lang/invoke/VarHandle" ∧ (parseMethodDescriptor yJ5_newCapacity_0f7a4.desc).map (fun d => d.parameters.length) = some 1 := by decide +kernel
theorem hd_yJ7_copyOf_9075b : yJ7_copyOf_9075b.cls = RJ7 ∧ yJ7_copyOf_9075b.cls ≠ "java/lang/invoke/MethodHandle" ∧ yJ7_copyOf_9075b.cls ≠ "java/lang/invoke/VarHandle" ∧ (parseMethodDescriptor yJ7_copyOf_9075b.desc).map (fun d => d.parameters.length) = some 2 := by decide +kernel
/-- what the bytes hold: a text of ASCII letters -/
def sbt (t : List Nat) (m : Nat) (f : Nat → Int32) : Prop := (m = 16 ∨ m = 34) ∧ t.length ≤ m ∧ sb_Fit f ∧ (∀ c ∈ t, c < 128) ∧ ∀ j, j < t.length → f j = nI (t.getD j 0)
theorem sbt_app {t u : List Nat} {m : Nat} {f g : Nat → Int32} (h : sbt t m f) (hm : t.length + u.length ≤ m) (hg : sb_Fit g) (hu : ∀ c ∈ u, c < 128) (h1 : ∀ j, j < t.length → g j = f j) (h2 : ∀ j, j < u.length → g (t.length + j) = nI (u.getD j 0)) : sbt (t ++ u) m g := by
  obtain ⟨a, b, c, d, e⟩ := h
  refine ⟨a, by rw [List.length_append]; exact hm, hg, fun x hx => (List.mem_append.mp hx).elim (d x) (hu x), fun j hj => ?_⟩
  rw [List.length_append] at hj
  by_cases q : j < t.length
  · rw [h1 j q, e j q, List.getD_eq_getElem?_getD, List.getD_eq_getElem?_getD, List.getElem?_append_left q]
  · have := h2 (j - t.length) (by omega)
    rw [show t.length + (j - t.length) = j by omega] at this
    rw [this, List.getD_eq_getElem?_getD, List.getD_eq_getElem?_getD, List.getElem?_append_right (by omega)]
theorem sbt_keep {t : List Nat} {m m' : Nat} {f g : Nat → Int32} (h : sbt t m f) (hm : m' = 16 ∨ m' = 34) (hm2 : m ≤ m') (hg : sb_Fit g) (h1 : ∀ j, j < m → g j = f j) : sbt t m' g := by
  obtain ⟨a, b, c, d, e⟩ := h
  exact ⟨hm, by omega, hg, d, fun j hj => by rw [h1 j (by omega)]; exact e j hj⟩
theorem sb_nar : ∀ c, c < 128 → vp_nar .byte (nI c) = nI c ∧ (nI c).toInt8.toInt32 = nI c ∧ fits .byte (.int (nI c)) = true ∧ nI c &&& 255 = nI c ∧ ((nI c).toUInt32 % 65536).toInt32 = nI c ∧ ¬ 255 < nI c := by decide +kernel
theorem hat_ens : [Cond.privateMethod yJ5_ensureCapacityInternal_d00df, Cond.sameMethod RJ5 RJ5 "ensureCapacityInternal" "(I)V"].all (fun w => decide (w ∈ lw_tbl) && (goodWord w || (w.onTables && w.faceAtom))) = true := by decide +kernel
theorem hat_cap : [Cond.privateMethod yJ5_newCapacity_0f7a4, Cond.sameMethod RJ5 RJ5 "newCapacity" "(I)I"].all (fun w => decide (w ∈ lw_tbl) && (goodWord w || (w.onTables && w.faceAtom))) = true := by decide +kernel
theorem g_651 : Cond.selects RJ4 yJ5_isLatin1_aae02 yJ5_isLatin1_aae02 ∈ gT := gT_t 1035 (by decide +kernel) rfl
section SE
variable {l : Launch} {D : va_G} {dA : Nat → ClassId} {A : Nat → Prop} {n : Nat}
theorem zw_drop {zs zs' : va_W} {K : Heap → Prop} (is : List Nat) (h1 : is.filterMap (fun i => zs[i]?) = zs') (h2 : va_nd is = true) (h3 : is.map (fun i => zs[i]?) = zs'.map some) : ∀ H, zw D A zs K H → zw D A zs' K H := fun H h => ⟨h.1.sub is h1, h.2.1.sub is h2 h3, h.2.2⟩
theorem sb_ens (hst : l.stackTraces = false) (hA : ∀ q, n ≤ q → A q) {b m : Nat} {f : Nat → Int32} {q j k : Nat} (hm : m = 16 ∨ m = 34) (hk : k ≤ 34) (hf : sb_Fit f) : Met l yJ5_ensureCapacityInternal_d00df (.code yJ5_ensureCapacityInternal_d00df cJ5_ensureCapacityInternal_d00df 3 none :: gT) ({ frames := 7, cells := 1, slots := 34, locals := 294 } : Room) (va_Pc [.ref q, .int (nI k)] (zB D dA A n (zw D A (sbz dA b m f q j) sbK))) (va_Qv (fun (u : Nat × Nat × (Nat → Int32)) => (u.2.1 = 16 ∨ u.2.1 = 34) ∧ k ≤ u.2.1 ∧ m ≤ u.2.1 ∧ sb_Fit u.2.2 ∧ ∀ i, i < m → u.2.2 i = f i) (fun u t => zw D A (sbz dA u.1 u.2.1 u.2.2 q j) sbK t.heap) A) 1 34 A :=
  z_met (by decide) hA hst (Nat.le_of_ble_eq_true rfl) rfl rfl (fun p e s m9 below meth c X hml hr _ => by
    have gV := g_603
    have gC := g_604
    refine z_aload_n X dJ5_ensureCapacityInternal_d00df_0 rfl rfl ?_
    refine w_get X 1 0 rj4_ws rfl rfl rfl gV (Or.inl rfl) rfl dJ5_ensureCapacityInternal_d00df_1 ?_
    refine w_alenB X 0 rfl rfl dJ5_ensureCapacityInternal_d00df_4 ?_
    refine z_aload_n X dJ5_ensureCapacityInternal_d00df_5 rfl rfl ?_
    refine w_get X 1 1 rj4_ws rfl rfl rfl gC (Or.inl rfl) rfl dJ5_ensureCapacityInternal_d00df_6 ?_
    refine z_ishr X dJ5_ensureCapacityInternal_d00df_9 ?_
    rw [sb_shr0]
    refine z_istore_n (lo' := [(2, .int (nI m)), (0, .ref q), (1, .int (nI k))]) X dJ5_ensureCapacityInternal_d00df_10 rfl (by rw [hml]; decide) rfl rfl ?_
    refine z_iload_n X dJ5_ensureCapacityInternal_d00df_11 rfl rfl ?_
    refine z_iload_n X dJ5_ensureCapacityInternal_d00df_12 rfl rfl ?_
    refine z_isub X dJ5_ensureCapacityInternal_d00df_13 ?_
    have e1 : (nI k - nI m).toInt = (k : Int) - m := pk_sub_toInt (by omega) (by omega)
    refine z_if_le (tgt := 38) X dJ5_ensureCapacityInternal_d00df_14 (by decide) (fun h => ?_) (fun h => ?_)
    · have hkm : k ≤ m := by rw [Int32.le_iff_toInt_le, e1, Int32.toInt_zero] at h; omega
      refine zz.widen (k := 1) (n := 34) (by omega) (by omega) ?_
      exact z_vret X hr (fun t hG hF _ => ⟨⟨(b, m, f), rfl, ⟨hm, hkm, Nat.le_refl _, hf, fun _ _ => rfl⟩, hG⟩, hF⟩) dJ5_ensureCapacityInternal_d00df_38
    · have hkm : m < k := Nat.lt_of_not_le (fun z => h (by rw [Int32.le_iff_toInt_le, e1, Int32.toInt_zero]; omega))
      obtain rfl : m = 16 := by omega
      refine z_aload_n X dJ5_ensureCapacityInternal_d00df_17 rfl rfl ?_
      refine z_aload_n X dJ5_ensureCapacityInternal_d00df_18 rfl rfl ?_
      refine w_get X 1 0 rj4_ws rfl rfl rfl gV (Or.inl rfl) rfl dJ5_ensureCapacityInternal_d00df_19 ?_
      refine z_aload_n X dJ5_ensureCapacityInternal_d00df_22 rfl rfl ?_
      refine z_iload_n X dJ5_ensureCapacityInternal_d00df_23 rfl rfl ?_
      refine z_callPi (C := RJ4) (As := [.int (nI k)]) (rest := [.ref b, .ref q]) (nA := 1) (mc := 0) (ms := 0) (rm := ({ frames := 5, cells := 0, slots := 0, locals := 210 } : Room)) (r0 := nI 34) (pu := (fun (_ : Unit) => True)) (G1 := (fun _ => zw D A (sbz dA b 16 f q j) sbK)) X (sb_cap2 X.2.2.2.2.2.2.2.2 X.2.2.2.2.2.2.1 hkm hk) g_632 g_634 (z_selP (n := 4) ⟨by decide, by decide⟩ (X.2.2.2.1 _ g_586) (z_hat hat_cap X _ (by simp)) (X.2.2.2.1 _ g_634) (z_hat hat_cap X _ (List.mem_cons_of_mem _ List.mem_cons_self))) g_25 g_635 hd_yJ5_newCapacity_0f7a4.2 ⟨rfl, rfl, Nat.le_of_ble_eq_true rfl, Nat.le_of_ble_eq_true rfl⟩ rfl (sb_recv X) rfl (Nat.le_of_ble_eq_true rfl) dJ5_ensureCapacityInternal_d00df_24 ⟨Nat.le_of_ble_eq_true rfl, Nat.le_of_ble_eq_true rfl⟩ (fun _ _ => ?_)
      refine z_aload_n X dJ5_ensureCapacityInternal_d00df_27 rfl rfl ?_
      refine w_get X 1 1 rj4_ws rfl rfl rfl gC (Or.inl rfl) rfl dJ5_ensureCapacityInternal_d00df_28 ?_
      refine z_ishl X dJ5_ensureCapacityInternal_d00df_31 ?_
      rw [sb_shl0]
      refine z_callTq (As := [.ref b, .int (nI 34)]) (rest := [.ref q]) (nA := 2) (mc := 1) (ms := 34) (rm := ({ frames := 3, cells := 1, slots := 34, locals := 126 } : Room)) (ro := fun (u : Nat) => some u) (pu := (fun _ => True)) (G1 := (fun (u : Nat) => zw D A (sbz dA b 16 f q j ++ [(u, .inl (dA 6, 34, .inl (va_cpy f (fun _ => 0) 0 0 16)))]) sbK)) X (sb_cpy2 X.2.2.2.2.2.2.2.2 X.2.2.2.2.2.2.1 hf) g_638 g_639 g_10 g_640 hd_yJ7_copyOf_9075b.2 ⟨rfl, rfl, Nat.le_of_ble_eq_true rfl, Nat.le_of_ble_eq_true rfl⟩ rfl rfl (Nat.le_of_ble_eq_true rfl) dJ5_ensureCapacityInternal_d00df_32 ⟨Nat.le_refl _, Nat.le_refl _⟩ (fun u _ => ?_)
      refine w_put kf_sbK X 1 0 (v := .ref u) (zs' := [(b, .inl (dA 6, 16, .inl f)), (q, .inr (1, [.ref u, .int 0, .int 0, .int (nI j)])), (u, .inl (dA 6, 34, .inl (va_cpy f (fun _ => 0) 0 0 16)))]) (ty := .array .byte) rj4_ws rfl rfl tyJ4_ok nmJ4 rfl rfl gV (Or.inl rfl) rfl rfl rfl rfl rfl dJ5_ensureCapacityInternal_d00df_35 ?_
      refine zz.conseq (G' := zw D A (sbz dA u 34 (va_cpy f (fun _ => 0) 0 0 16) q j) sbK) (zw_drop [2, 1] rfl rfl rfl) ?_
      exact z_vret X hr (fun t hG hF _ => ⟨⟨(u, 34, va_cpy f (fun _ => 0) 0 0 16), rfl, ⟨Or.inr rfl, hk, Nat.le_of_ble_eq_true rfl, sb_fitC hf sb_fit0, fun i hi => show va_cpy f (fun _ => 0) 0 0 16 i = f i from sb_cpy0 hi⟩, hG⟩, hF⟩) dJ5_ensureCapacityInternal_d00df_38)
theorem sb_apC5 (hst : l.stackTraces = false) (hA : ∀ q, n ≤ q → A q) {b m : Nat} {f : Nat → Int32} {q x : Nat} {t : List Nat} (ht : sbt t m f) (hl : t.length + 1 ≤ 34) (hx : x < 128) : Met l yJ5_append_3fe6f (.code yJ5_append_3fe6f cJ5_append_3fe6f 2 (some (.object "java/lang/AbstractStringBuilder")) :: gT) ({ frames := 9, cells := 1, slots := 34, locals := 378 } : Room) (va_Pc [.ref q, .int (nI x)] (zB D dA A n (zw D A (sbz dA b m f q t.length) sbK))) (va_Qq (fun r (u : Nat × Nat × (Nat → Int32)) => r = some q ∧ sbt (t ++ [x]) u.2.1 u.2.2) (fun u s9 => zw D A (sbz dA u.1 u.2.1 u.2.2 q (t.length + 1)) sbK s9.heap) A) 1 34 A :=
  z_met (by decide) hA hst (Nat.le_of_ble_eq_true rfl) rfl rfl (fun p e s m9 below meth c X hml hr _ => by
    have gV := g_603
    have gN := g_606
    obtain ⟨n1, n2, n3, n4, n5, n6⟩ := sb_nar x hx
    refine z_aload_n X dJ5_append_3fe6f_0 rfl rfl ?_
    refine z_aload_n X dJ5_append_3fe6f_1 rfl rfl ?_
    refine w_get X 1 3 rj4_ws rfl rfl rfl gN (Or.inl rfl) rfl dJ5_append_3fe6f_2 ?_
    refine z_iconst (v := 1) X dJ5_append_3fe6f_5 (by decide) ?_
    refine z_iadd X dJ5_append_3fe6f_6 ?_
    rw [nI_1]
    refine z_callPv (C := RJ4) (As := [.int (nI (t.length + 1))]) (rest := []) (nA := 1) (mc := 1) (ms := 34) (rm := ({ frames := 7, cells := 1, slots := 34, locals := 294 } : Room)) (pu := fun (u : Nat × Nat × (Nat → Int32)) => (u.2.1 = 16 ∨ u.2.1 = 34) ∧ t.length + 1 ≤ u.2.1 ∧ m ≤ u.2.1 ∧ sb_Fit u.2.2 ∧ ∀ i, i < m → u.2.2 i = f i) (G1 := fun u => zw D A (sbz dA u.1 u.2.1 u.2.2 q t.length) sbK) X (sb_ens X.2.2.2.2.2.2.2.2 X.2.2.2.2.2.2.1 ht.1 hl ht.2.2.1) g_628 g_630 (z_selP (n := 4) ⟨by decide, by decide⟩ (X.2.2.2.1 _ g_586) (z_hat hat_ens X _ (by simp)) (X.2.2.2.1 _ g_630) (z_hat hat_ens X _ (List.mem_cons_of_mem _ List.mem_cons_self))) g_25 g_631 hd_yJ5_ensureCapacityInternal_d00df.2 ⟨rfl, rfl, Nat.le_of_ble_eq_true rfl, Nat.le_of_ble_eq_true rfl⟩ rfl (sb_recv X) rfl (Nat.le_of_ble_eq_true rfl) dJ5_append_3fe6f_7 ⟨Nat.le_refl _, Nat.le_refl _⟩ (fun u hu => ?_)
    obtain ⟨b1, m1, f1⟩ := u
    obtain ⟨u1, u2, u3, u4, u5⟩ := hu
    have ht1 := sbt_keep ht u1 u3 u4 u5
    have w1 : m1 = 16 ∨ m1 = 34 := u1
    have w2 : t.length + 1 ≤ m1 := u2
    refine z_aload_n X dJ5_append_3fe6f_10 rfl rfl ?_
    refine z_callPi (C := RJ4) (As := []) (rest := []) (nA := 0) (mc := 0) (ms := 0) (rm := ({ frames := 1, cells := 0, slots := 0, locals := 42 } : Room)) (r0 := 1) (pu := (fun (_ : Unit) => True)) (G1 := (fun _ => zw D A (sbz dA b1 m1 f1 q t.length) sbK)) X (sb_isL X.2.2.2.2.2.2.2.2 X.2.2.2.2.2.2.1) g_648 g_649 (X.2.2.2.1 _ g_651) g_25 g_652 hd_yJ5_isLatin1_aae02.2 ⟨rfl, rfl, Nat.le_of_ble_eq_true rfl, Nat.le_of_ble_eq_true rfl⟩ rfl (sb_recv X) rfl (Nat.le_of_ble_eq_true rfl) dJ5_append_3fe6f_11 ⟨Nat.le_refl _, Nat.le_refl _⟩ (fun _ _ => ?_)
    refine z_if_eq (tgt := 45) X dJ5_append_3fe6f_14 (by decide) (fun q => absurd q (by decide)) (fun _ => ?_)
    refine z_iload_n X dJ5_append_3fe6f_17 rfl rfl ?_
    refine z_callTi (As := [.int (nI x)]) (rest := []) (nA := 1) (mc := 0) (ms := 0) (rm := ({ frames := 1, cells := 0, slots := 0, locals := 42 } : Room)) (r0 := 1) (pu := (fun (_ : Unit) => True)) (G1 := (fun _ => zw D A (sbz dA b1 m1 f1 q t.length) sbK)) X (sb_enc X.2.2.2.2.2.2.2.2 X.2.2.2.2.2.2.1 n6) g_1272 g_1273 g_29 g_1274 hd_yJ1_canEncode_fc78d.2 ⟨rfl, rfl, Nat.le_of_ble_eq_true rfl, Nat.le_of_ble_eq_true rfl⟩ rfl rfl (Nat.le_of_ble_eq_true rfl) dJ5_append_3fe6f_18 ⟨Nat.le_refl _, Nat.le_refl _⟩ (fun _ _ => ?_)
    refine z_if_eq (tgt := 45) X dJ5_append_3fe6f_21 (by decide) (fun q => absurd q (by decide)) (fun _ => ?_)
    refine z_aload_n X dJ5_append_3fe6f_24 rfl rfl ?_
    refine w_get X 1 0 rj4_ws rfl rfl rfl gV (Or.inl rfl) rfl dJ5_append_3fe6f_25 ?_
    refine z_aload_n X dJ5_append_3fe6f_28 rfl rfl ?_
    refine z_dup X dJ5_append_3fe6f_29 rfl ?_
    refine w_get X 1 3 rj4_ws rfl rfl rfl gN (Or.inl rfl) rfl dJ5_append_3fe6f_30 ?_
    refine z_dup_x1 X dJ5_append_3fe6f_33 rfl rfl ?_
    refine z_iconst (v := 1) X dJ5_append_3fe6f_34 (by decide) ?_
    refine z_iadd X dJ5_append_3fe6f_35 ?_
    rw [nI_1]
    refine w_put kf_sbK X 1 3 (v := .int (nI (t.length + 1))) (zs' := sbz dA b1 m1 f1 q (t.length + 1)) (ty := .int) rj4_ws rfl rfl tyJ4_ok nmJ4 rfl rfl gN (Or.inl rfl) rfl rfl rfl rfl rfl dJ5_append_3fe6f_36 ?_
    refine z_iload_n X dJ5_append_3fe6f_39 rfl rfl ?_
    refine z_i2b X dJ5_append_3fe6f_40 ?_
    rw [n2]
    refine w_bast kf_sbK X 0 (zs' := sbz dA b1 m1 (upd f1 t.length (nI x)) q (t.length + 1)) rfl (vp_in_nI (by omega) (by omega)) n1 (by rw [nI_clamp (by omega)]; rfl) dJ5_append_3fe6f_41 ?_
    refine z_goto (tgt := 75) X dJ5_append_3fe6f_42 (by decide) ?_
    refine z_aload_n X dJ5_append_3fe6f_75 rfl rfl ?_
    exact z_aret (o := some q) X hr (Or.inl ⟨_, rfl⟩) (fun s9 hG hF _ => ⟨⟨_, (b1, m1, upd f1 t.length (nI x)), rfl, ⟨rfl, sbt_app ht1 u2 (sb_fitU u4 n3) (fun c hc => by rw [List.mem_singleton.mp hc]; exact hx) (fun j hj => pk_un (by omega)) (fun j hj => by obtain rfl : j = 0 := Nat.lt_one_iff.mp hj; exact pk_us)⟩, hG⟩, hF⟩) dJ5_append_3fe6f_76)
end SE
