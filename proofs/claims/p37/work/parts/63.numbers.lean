/-! STRINGBUILDER: numbers -/
theorem g_31 : Cond.initialized RJ6 ∈ gT := gT_t 34 (by decide +kernel) rfl
theorem g_729 : Cond.methodLink RJ5 245 yJ6_stringSize_0f7a4 ∈ gT := gT_t 1090 (by decide +kernel) rfl
theorem g_730 : Cond.static yJ6_stringSize_0f7a4 ∈ gT := gT_t 1091 (by decide +kernel) rfl
theorem g_731 : Cond.code yJ6_stringSize_0f7a4 cJ6_stringSize_0f7a4 4 (some .int) ∈ gT := gT_t 1092 (by decide +kernel) rfl
theorem g_732 : Cond.methodLink RJ5 248 yJ6_getChars_ba4f3 ∈ gT := gT_t 1093 (by decide +kernel) rfl
theorem g_733 : Cond.static yJ6_getChars_ba4f3 ∈ gT := gT_t 1094 (by decide +kernel) rfl
theorem g_734 : Cond.code yJ6_getChars_ba4f3 cJ6_getChars_ba4f3 7 (some .int) ∈ gT := gT_t 1095 (by decide +kernel) rfl
theorem g_735 : Cond.fieldLink RJ6 83 "java/lang/Integer" "DigitOnes" "[B" ∈ gT := gT_t 1096 (by decide +kernel) rfl
theorem g_737 : Cond.fieldLink RJ6 87 "java/lang/Integer" "DigitTens" "[B" ∈ gT := gT_t 1098 (by decide +kernel) rfl
theorem hd_yJ6_getChars_ba4f3 : yJ6_getChars_ba4f3.cls = RJ6 ∧ yJ6_getChars_ba4f3.cls ≠ "java/lang/invoke/MethodHandle" ∧ yJ6_getChars_ba4f3.cls ≠ "java/lang/invoke/VarHandle" ∧ (parseMethodDescriptor yJ6_getChars_ba4f3.desc).map (fun d => d.parameters.length) = some 3 := by decide +kernel
theorem hd_yJ6_stringSize_0f7a4 : yJ6_stringSize_0f7a4.cls = RJ6 ∧ yJ6_stringSize_0f7a4.cls ≠ "java/lang/invoke/MethodHandle" ∧ yJ6_stringSize_0f7a4.cls ≠ "java/lang/invoke/VarHandle" ∧ (parseMethodDescriptor yJ6_stringSize_0f7a4.desc).map (fun d => d.parameters.length) = some 1 := by decide +kernel
def dgs (v : Nat) : List Nat := (List.range (sb_dg v)).map (sb_dec v)
theorem dgs_len {v : Nat} : (dgs v).length = sb_dg v := by unfold dgs; rw [List.length_map, List.length_range]
theorem dgs_asc {v : Nat} : ∀ c ∈ dgs v, c < 128 := by
  intro c hc
  obtain ⟨i, -, rfl⟩ := List.mem_map.mp hc
  unfold sb_dec
  omega
theorem dgs_get {v j : Nat} (h : j < sb_dg v) : (dgs v).getD j 0 = sb_dec v j := by
  unfold dgs
  rw [List.getD_eq_getElem?_getD, List.getElem?_map, List.getElem?_range h]
  rfl
theorem sb_dg_at {v i : Nat} (h1 : 1 ≤ i) (h2 : i ≤ 8) (h3 : i = 1 ∨ 10 ^ (i - 1) ≤ v) (h4 : v < 10 ^ i) : sb_dg v = i := by
  have : i = 1 ∨ i = 2 ∨ i = 3 ∨ i = 4 ∨ i = 5 ∨ i = 6 ∨ i = 7 ∨ i = 8 := by omega
  rcases this with rfl | rfl | rfl | rfl | rfl | rfl | rfl | rfl <;> simp at h3 h4 <;> unfold sb_dg <;> (repeat' split) <;> omega
theorem sb_mul10 : ∀ i, i < 9 → (10 : Int32) * -nI (10 ^ i) = -nI (10 ^ (i + 1)) := by decide +kernel
theorem sb_pow (i : Nat) (h : i ≤ 9) : 10 ^ i < 2 ^ 31 := by
  have : i = 0 ∨ i = 1 ∨ i = 2 ∨ i = 3 ∨ i = 4 ∨ i = 5 ∨ i = 6 ∨ i = 7 ∨ i = 8 ∨ i = 9 := by omega
  rcases this with rfl | rfl | rfl | rfl | rfl | rfl | rfl | rfl | rfl | rfl <;> decide
section SN
variable {p : Program} {l : Launch} {e : Env} {R : Room} {s : State} {m9 : MethodId} {args : Array Value} {below : List Frame} {meth : Method} {c : Code} {A : Nat → Prop} {G : Heap → Prop} {cells slots : Nat} {Q : State → Prop}
variable {own : String} {D : va_G} {dA : Nat → ClassId} {pc : Nat} {lo lo' : List (Nat × Value)} {ll : List (Nat × Int64)} {rest : List Value}
theorem zz.stk {st st' : List Value} (h : st = st') (k : zz p l e R s m9 args below meth c A G cells slots Q pc lo ll st') : zz p l e R s m9 args below meth c A G cells slots Q pc lo ll st := h ▸ k
theorem sb_sizL (X : zc p l s m9 args meth c cJ6_stringSize_0f7a4 own D dA A) (hml : c.maxLocals = 4) {v : Nat} (hv : v ≤ 50000001) (k : ∀ lo, zz p l e R s m9 args below meth c A G cells slots Q 30 lo [] [.int (nI (sb_dg v))]) : ∀ d i : Nat, i + d = 9 → 1 ≤ i → (i = 1 ∨ 10 ^ (i - 1) ≤ v) → zz p l e R s m9 args below meth c A G cells slots Q 16 [(3, .int (nI i)), (2, .int (-nI (10 ^ i))), (0, .int (-nI v)), (1, .int 0)] [] [] := by
  intro d
  induction d with
  | zero =>
    intro i h1 h2 h3
    obtain rfl : i = 9 := by omega
    exfalso
    rcases h3 with h | h
    · omega
    · have : (10 : Nat) ^ (9 - 1) = 100000000 := by decide
      omega
  | succ d ih =>
    intro i h1 h2 h3
    refine z_iload_n X dJ6_stringSize_0f7a4_16 rfl rfl ?_
    refine z_bipush (v := nI 10) X dJ6_stringSize_0f7a4_17 (by decide) ?_
    refine z_icmp_ge (tgt := 42) X dJ6_stringSize_0f7a4_19 (by decide) (fun h => absurd ((nI_leI (a := 10) (b := i) (by omega) (by omega)).mp h) (by omega)) (fun _ => ?_)
    refine z_iload_n X dJ6_stringSize_0f7a4_22 rfl rfl ?_
    refine z_iload_n X dJ6_stringSize_0f7a4_23 rfl rfl ?_
    refine z_icmp_le (tgt := 31) X dJ6_stringSize_0f7a4_24 (by decide) (fun h => ?_) (fun h => ?_)
    · have hv1 : 10 ^ i ≤ v := (sb_nle (by omega) (sb_pow i (by omega))).mp h
      refine z_bipush (v := 10) X dJ6_stringSize_0f7a4_31 (by decide) ?_
      refine z_iload_n X dJ6_stringSize_0f7a4_33 rfl rfl ?_
      refine z_imul X dJ6_stringSize_0f7a4_34 ?_
      rw [sb_mul10 i (by omega)]
      refine z_istore_n (lo' := [(2, .int (-nI (10 ^ (i + 1)))), (3, .int (nI i)), (0, .int (-nI v)), (1, .int 0)]) X dJ6_stringSize_0f7a4_35 rfl (by rw [hml]; decide) rfl rfl ?_
      refine z_iinc (v := nI (i + 1)) (lo' := [(3, .int (nI (i + 1))), (2, .int (-nI (10 ^ (i + 1)))), (0, .int (-nI v)), (1, .int 0)]) X dJ6_stringSize_0f7a4_36 rfl (nI_1 i) (by rw [hml]; decide) rfl rfl ?_
      refine z_goto (tgt := 16) X dJ6_stringSize_0f7a4_39 (by decide) ?_
      exact ih (i + 1) (by omega) (by omega) (Or.inr hv1)
    · have hv1 : v < 10 ^ i := Nat.lt_of_not_le (fun z => h ((sb_nle (by omega) (sb_pow i (by omega))).mpr z))
      refine z_iload_n X dJ6_stringSize_0f7a4_27 rfl rfl ?_
      refine z_iload_n X dJ6_stringSize_0f7a4_28 rfl rfl ?_
      refine z_iadd X dJ6_stringSize_0f7a4_29 ?_
      refine zz.stk (show _ = ([.int (nI (sb_dg v))] : List Value) by rw [Int32.add_zero, sb_dg_at h2 (by omega) h3 hv1]) ?_
      exact k _
theorem sb_gchL (X : zc p l s m9 args meth c cJ6_getChars_ba4f3 RJ6 D dA A) (hml : c.maxLocals = 7) {b m q j nn : Nat} (hm : m ≤ 34) : ∀ (fu w pp : Nat) (a : Nat → Int32), w < fu → w ≤ 50000001 → pp = nn + sb_dg w → pp ≤ m →
    (∀ a', (∀ j, j < nn ∨ pp ≤ j → a' j = a j) → (∀ i, i < sb_dg w → a' (pp - 1 - i) = nI (48 + w / 10 ^ i % 10)) → (sb_Fit a → sb_Fit a') → ∀ lo, zz p l e R s m9 args below meth c A (zw D A (sbz dA b m a' q j) sbK) cells slots Q 120 lo [] [.int (nI nn)]) →
    zz p l e R s m9 args below meth c A (zw D A (sbz dA b m a q j) sbK) cells slots Q 22 [(0, .int (-nI w)), (5, .int (nI pp)), (6, .int 0), (2, .ref b)] [] [] := by
  have gO := g_735
  have gT' := g_737
  have em : ∀ z : Nat, 0 < z → nI z + Int32.ofInt (-1) = nI (z - 1) := fun z hz => by rw [show Int32.ofInt (-1) = -1 by decide]; exact sb_m1 hz
  intro fu
  induction fu with
  | zero => intro w pp a h; omega
  | succ fu ih =>
    intro w pp a hwf hw hp hpm k
    have hd1 := (sb_dg_in w).1
    refine z_iload_n X dJ6_getChars_ba4f3_22 rfl rfl ?_
    refine z_bipush (v := -nI 100) X dJ6_getChars_ba4f3_23 (by decide) ?_
    refine z_icmp_gt (tgt := 72) X dJ6_getChars_ba4f3_25 (by decide) (fun h => ?_) (fun h => ?_)
    · have h100 : w < 100 := (sb_nlt (by decide) (by omega)).mp h
      have hb1 := sb_nar (48 + w % 10) (by omega)
      refine z_aload_n X dJ6_getChars_ba4f3_72 rfl rfl ?_
      refine z_iinc (v := nI (pp - 1)) (lo' := [(5, .int (nI (pp - 1))), (0, .int (-nI w)), (6, .int 0), (2, .ref b)]) X dJ6_getChars_ba4f3_73 rfl (em pp (by omega)) (by rw [hml]; decide) rfl rfl ?_
      refine z_iload X dJ6_getChars_ba4f3_76 rfl ?_
      refine z_onesS X gO dJ6_getChars_ba4f3_78 ?_
      refine z_iload_n X dJ6_getChars_ba4f3_81 rfl rfl ?_
      refine z_ineg X dJ6_getChars_ba4f3_82 ?_
      rw [Int32.neg_neg]
      refine z_ones X h100 dJ6_getChars_ba4f3_83 ?_
      refine w_bast kf_sbK X 0 (zs' := sbz dA b m (upd a (pp - 1) (nI (48 + w % 10))) q j) rfl (vp_in_nI (by omega) (by omega)) hb1.1 (by rw [nI_clamp (by omega)]; rfl) dJ6_getChars_ba4f3_84 ?_
      refine z_iload_n X dJ6_getChars_ba4f3_85 rfl rfl ?_
      refine z_bipush (v := -nI 9) X dJ6_getChars_ba4f3_86 (by decide) ?_
      refine z_icmp_ge (tgt := 104) X dJ6_getChars_ba4f3_88 (by decide) (fun h => ?_) (fun h => ?_)
      · have h9 : w < 10 := by have := (sb_nle (by decide) (by omega)).mp h; omega
        have hd : sb_dg w = 1 := if_pos h9
        refine z_iload X dJ6_getChars_ba4f3_104 rfl ?_
        refine z_if_eq (tgt := 118) X dJ6_getChars_ba4f3_106 (by decide) (fun _ => ?_) (fun q => absurd rfl q)
        refine z_iload X dJ6_getChars_ba4f3_118 rfl ?_
        refine zz.stk (show _ = ([.int (nI nn)] : List Value) by rw [show pp - 1 = nn by omega]) ?_
        refine k _ (fun j hj => pk_un (by omega)) (fun i hi => ?_) (fun hf => sb_fitU hf hb1.2.2.1) _
        obtain rfl : i = 0 := by omega
        rw [Nat.sub_zero, pk_us, Nat.pow_zero, Nat.div_one]
      · have h9 : ¬ w < 10 := fun z => h ((sb_nle (by decide) (by omega)).mpr (by omega))
        have hd : sb_dg w = 2 := by rw [sb_dg, if_neg h9, if_pos h100]
        have hb2 := sb_nar (48 + w / 10) (by omega)
        refine z_aload_n X dJ6_getChars_ba4f3_91 rfl rfl ?_
        refine z_iinc (v := nI (pp - 1 - 1)) (lo' := [(5, .int (nI (pp - 1 - 1))), (0, .int (-nI w)), (6, .int 0), (2, .ref b)]) X dJ6_getChars_ba4f3_92 rfl (em (pp - 1) (by omega)) (by rw [hml]; decide) rfl rfl ?_
        refine z_iload X dJ6_getChars_ba4f3_95 rfl ?_
        refine z_tensS X gT' dJ6_getChars_ba4f3_97 ?_
        refine z_iload_n X dJ6_getChars_ba4f3_100 rfl rfl ?_
        refine z_ineg X dJ6_getChars_ba4f3_101 ?_
        rw [Int32.neg_neg]
        refine z_tens X h100 dJ6_getChars_ba4f3_102 ?_
        refine w_bast kf_sbK X 0 (zs' := sbz dA b m (upd (upd a (pp - 1) (nI (48 + w % 10))) (pp - 1 - 1) (nI (48 + w / 10))) q j) rfl (vp_in_nI (by omega) (by omega)) hb2.1 (by rw [nI_clamp (by omega)]; rfl) dJ6_getChars_ba4f3_103 ?_
        refine z_iload X dJ6_getChars_ba4f3_104 rfl ?_
        refine z_if_eq (tgt := 118) X dJ6_getChars_ba4f3_106 (by decide) (fun _ => ?_) (fun q => absurd rfl q)
        refine z_iload X dJ6_getChars_ba4f3_118 rfl ?_
        refine zz.stk (show _ = ([.int (nI nn)] : List Value) by rw [show pp - 1 - 1 = nn by omega]) ?_
        refine k _ (fun j hj => by rw [pk_un (by omega), pk_un (by omega)]) (fun i hi => ?_) (fun hf => sb_fitU (sb_fitU hf hb1.2.2.1) hb2.2.2.1) _
        obtain rfl | rfl : i = 0 ∨ i = 1 := by omega
        · rw [Nat.sub_zero, pk_un (by omega), pk_us, Nat.pow_zero, Nat.div_one]
        · rw [pk_us, Nat.pow_one, show w / 10 % 10 = w / 10 by omega]
    · have h100 : ¬ w < 100 := fun z => h ((sb_nlt (by decide) (by omega)).mpr z)
      have hd := sb_dg100 (w := w) (by omega) (by omega)
      have hd2 := (sb_dg_in (w / 100)).1
      have hb1 := sb_nar (48 + w % 100 % 10) (by omega)
      have hb2 := sb_nar (48 + w % 100 / 10) (by omega)
      refine z_iload_n X dJ6_getChars_ba4f3_28 rfl rfl ?_
      refine z_bipush (v := 100) X dJ6_getChars_ba4f3_29 (by decide) ?_
      refine z_idiv X dJ6_getChars_ba4f3_31 (by decide) ?_
      rw [sb_ndiv (by omega)]
      refine z_istore_n (lo' := [(3, .int (-nI (w / 100))), (0, .int (-nI w)), (5, .int (nI pp)), (6, .int 0), (2, .ref b)]) X dJ6_getChars_ba4f3_32 rfl (by rw [hml]; decide) rfl rfl ?_
      refine z_iload_n X dJ6_getChars_ba4f3_33 rfl rfl ?_
      refine z_bipush (v := 100) X dJ6_getChars_ba4f3_34 (by decide) ?_
      refine z_imul X dJ6_getChars_ba4f3_36 ?_
      refine z_iload_n X dJ6_getChars_ba4f3_37 rfl rfl ?_
      refine z_isub X dJ6_getChars_ba4f3_38 ?_
      rw [sb_nrem (by omega)]
      refine z_istore (lo' := [(4, .int (nI (w % 100))), (3, .int (-nI (w / 100))), (0, .int (-nI w)), (5, .int (nI pp)), (6, .int 0), (2, .ref b)]) X dJ6_getChars_ba4f3_39 (by rw [hml]; decide) rfl rfl ?_
      refine z_iload_n X dJ6_getChars_ba4f3_41 rfl rfl ?_
      refine z_istore_n (lo' := [(0, .int (-nI (w / 100))), (4, .int (nI (w % 100))), (3, .int (-nI (w / 100))), (5, .int (nI pp)), (6, .int 0), (2, .ref b)]) X dJ6_getChars_ba4f3_42 rfl (by rw [hml]; decide) rfl rfl ?_
      refine z_aload_n X dJ6_getChars_ba4f3_43 rfl rfl ?_
      refine z_iinc (v := nI (pp - 1)) (lo' := [(5, .int (nI (pp - 1))), (0, .int (-nI (w / 100))), (4, .int (nI (w % 100))), (3, .int (-nI (w / 100))), (6, .int 0), (2, .ref b)]) X dJ6_getChars_ba4f3_44 rfl (em pp (by omega)) (by rw [hml]; decide) rfl rfl ?_
      refine z_iload X dJ6_getChars_ba4f3_47 rfl ?_
      refine z_onesS X gO dJ6_getChars_ba4f3_49 ?_
      refine z_iload X dJ6_getChars_ba4f3_52 rfl ?_
      refine z_ones X (Nat.mod_lt _ (by decide)) dJ6_getChars_ba4f3_54 ?_
      refine w_bast kf_sbK X 0 (zs' := sbz dA b m (upd a (pp - 1) (nI (48 + w % 100 % 10))) q j) rfl (vp_in_nI (by omega) (by omega)) hb1.1 (by rw [nI_clamp (by omega)]; rfl) dJ6_getChars_ba4f3_55 ?_
      refine z_aload_n X dJ6_getChars_ba4f3_56 rfl rfl ?_
      refine z_iinc (v := nI (pp - 1 - 1)) (lo' := [(5, .int (nI (pp - 1 - 1))), (0, .int (-nI (w / 100))), (4, .int (nI (w % 100))), (3, .int (-nI (w / 100))), (6, .int 0), (2, .ref b)]) X dJ6_getChars_ba4f3_57 rfl (em (pp - 1) (by omega)) (by rw [hml]; decide) rfl rfl ?_
      refine z_iload X dJ6_getChars_ba4f3_60 rfl ?_
      refine z_tensS X gT' dJ6_getChars_ba4f3_62 ?_
      refine z_iload X dJ6_getChars_ba4f3_65 rfl ?_
      refine z_tens X (Nat.mod_lt _ (by decide)) dJ6_getChars_ba4f3_67 ?_
      refine w_bast kf_sbK X 0 (zs' := sbz dA b m (upd (upd a (pp - 1) (nI (48 + w % 100 % 10))) (pp - 1 - 1) (nI (48 + w % 100 / 10))) q j) rfl (vp_in_nI (by omega) (by omega)) hb2.1 (by rw [nI_clamp (by omega)]; rfl) dJ6_getChars_ba4f3_68 ?_
      refine z_goto (tgt := 22) X dJ6_getChars_ba4f3_69 (by decide) ?_
      refine zz.pick [0, 5, 6, 2] rfl ?_
      refine ih (w / 100) (pp - 1 - 1) _ (by omega) (by omega) (by omega) (by omega) (fun a' h1 h2 h3 => ?_)
      refine k a' (fun j hj => by rw [h1 j (by omega), pk_un (by omega), pk_un (by omega)]) (fun i hi => ?_) (fun hf => h3 (sb_fitU (sb_fitU hf hb1.2.2.1) hb2.2.2.1))
      match i, hi with
      | 0, _ => rw [Nat.sub_zero, h1 _ (by omega), pk_un (by omega), pk_us, Nat.pow_zero, Nat.div_one, show w % 100 % 10 = w % 10 by omega]
      | 1, _ => rw [h1 _ (by omega), pk_us, Nat.pow_one, show w % 100 / 10 = w / 10 % 10 by omega]
      | z + 2, hi => rw [show pp - 1 - (z + 2) = pp - 1 - 1 - 1 - z by omega, h2 z (by omega), Nat.div_div_eq_div_mul, show 100 * 10 ^ z = 10 ^ (z + 2) by rw [show z + 2 = z + 1 + 1 from rfl, Nat.pow_succ, Nat.pow_succ]; omega]
end SN
section SO
variable {l : Launch} {D : va_G} {dA : Nat → ClassId} {A : Nat → Prop} {n : Nat}
theorem sb_siz (hst : l.stackTraces = false) (hA : ∀ q, n ≤ q → A q) {G : Heap → Prop} {v : Nat} (hv : v ≤ 50000001) : Met l yJ6_stringSize_0f7a4 (.code yJ6_stringSize_0f7a4 cJ6_stringSize_0f7a4 4 (some .int) :: gT) ({ frames := 1, cells := 0, slots := 0, locals := 42 } : Room) (va_Pc [.int (nI v)] (zB D dA A n G)) (va_Qi (fun r (_ : Unit) => r = nI (sb_dg v) ∧ True) (fun (_ : Unit) t => G t.heap) A) 0 0 A :=
  z_met (by decide) hA hst (Nat.le_of_ble_eq_true rfl) rfl rfl (fun p e s m9 below meth c X hml hr _ => by
    refine z_iconst (v := 1) X dJ6_stringSize_0f7a4_0 (by decide) ?_
    refine z_istore_n (lo' := [(1, .int 1), (0, .int (nI v))]) X dJ6_stringSize_0f7a4_1 rfl (by rw [hml]; decide) rfl rfl ?_
    refine z_iload_n X dJ6_stringSize_0f7a4_2 rfl rfl ?_
    refine z_if_lt (tgt := 11) X dJ6_stringSize_0f7a4_3 (by decide) (fun q => absurd q (nI_pos (by omega))) (fun _ => ?_)
    refine z_iconst (v := 0) X dJ6_stringSize_0f7a4_6 (by decide) ?_
    refine z_istore_n (lo' := [(1, .int 0), (0, .int (nI v))]) X dJ6_stringSize_0f7a4_7 rfl (by rw [hml]; decide) rfl rfl ?_
    refine z_iload_n X dJ6_stringSize_0f7a4_8 rfl rfl ?_
    refine z_ineg X dJ6_stringSize_0f7a4_9 ?_
    refine z_istore_n (lo' := [(0, .int (-nI v)), (1, .int 0)]) X dJ6_stringSize_0f7a4_10 rfl (by rw [hml]; decide) rfl rfl ?_
    refine z_bipush (v := -nI (10 ^ 1)) X dJ6_stringSize_0f7a4_11 (by decide) ?_
    refine z_istore_n (lo' := [(2, .int (-nI (10 ^ 1))), (0, .int (-nI v)), (1, .int 0)]) X dJ6_stringSize_0f7a4_13 rfl (by rw [hml]; decide) rfl rfl ?_
    refine z_iconst (v := nI 1) X dJ6_stringSize_0f7a4_14 (by decide) ?_
    refine z_istore_n (lo' := [(3, .int (nI 1)), (2, .int (-nI (10 ^ 1))), (0, .int (-nI v)), (1, .int 0)]) X dJ6_stringSize_0f7a4_15 rfl (by rw [hml]; decide) rfl rfl ?_
    exact sb_sizL X hml hv (fun lo => z_iret X hr rfl (fun t hG hF _ => ⟨⟨_, (), rfl, ⟨rfl, trivial⟩, hG⟩, hF⟩) dJ6_stringSize_0f7a4_30) 8 1 rfl (Nat.le_refl _) (Or.inl rfl))
theorem sb_gch (hst : l.stackTraces = false) (hA : ∀ q, n ≤ q → A q) {b m : Nat} {f : Nat → Int32} {q j nn v : Nat} (hm : m ≤ 34) (hv : v ≤ 50000001) (hp : nn + sb_dg v ≤ m) : Met l yJ6_getChars_ba4f3 (.code yJ6_getChars_ba4f3 cJ6_getChars_ba4f3 7 (some .int) :: gT) ({ frames := 1, cells := 0, slots := 0, locals := 42 } : Room) (va_Pc [.int (nI v), .int (nI (nn + sb_dg v)), .ref b] (zB D dA A n (zw D A (sbz dA b m f q j) sbK))) (va_Qi (fun r (g : Nat → Int32) => r = nI nn ∧ ((∀ i, i < nn → g i = f i) ∧ (∀ i, i < sb_dg v → g (nn + i) = nI (sb_dec v i)) ∧ (sb_Fit f → sb_Fit g))) (fun (g : Nat → Int32) t => zw D A (sbz dA b m g q j) sbK t.heap) A) 0 0 A :=
  z_met (by decide) hA hst (Nat.le_of_ble_eq_true rfl) rfl rfl (fun p e s m9 below meth c X hml hr _ => by
    refine z_iload_n X dJ6_getChars_ba4f3_0 rfl rfl ?_
    refine z_istore (lo' := [(5, .int (nI (nn + sb_dg v))), (0, .int (nI v)), (1, .int (nI (nn + sb_dg v))), (2, .ref b)]) X dJ6_getChars_ba4f3_1 (by rw [hml]; decide) rfl rfl ?_
    refine z_iload_n X dJ6_getChars_ba4f3_3 rfl rfl ?_
    refine z_if_ge (tgt := 11) X dJ6_getChars_ba4f3_4 (by decide) (fun _ => ?_) (fun q => absurd (nI_le (a := 0) (Nat.zero_le v) (by omega)) q)
    refine z_iconst (v := 0) X dJ6_getChars_ba4f3_11 (by decide) ?_
    refine z_istore (lo' := [(6, .int 0), (5, .int (nI (nn + sb_dg v))), (0, .int (nI v)), (1, .int (nI (nn + sb_dg v))), (2, .ref b)]) X dJ6_getChars_ba4f3_12 (by rw [hml]; decide) rfl rfl ?_
    refine z_iload X dJ6_getChars_ba4f3_14 rfl ?_
    refine z_if_ne (tgt := 22) X dJ6_getChars_ba4f3_16 (by decide) (fun _ => ?_) (fun q => absurd rfl q)
    refine z_iload_n X dJ6_getChars_ba4f3_19 rfl rfl ?_
    refine z_ineg X dJ6_getChars_ba4f3_20 ?_
    refine z_istore_n (lo' := [(0, .int (-nI v)), (6, .int 0), (5, .int (nI (nn + sb_dg v))), (1, .int (nI (nn + sb_dg v))), (2, .ref b)]) X dJ6_getChars_ba4f3_21 rfl (by rw [hml]; decide) rfl rfl ?_
    refine zz.pick [0, 5, 6, 2] rfl ?_
    refine sb_gchL X hml hm (v + 1) v (nn + sb_dg v) f (Nat.lt_succ_self v) hv rfl hp (fun g h1 h2 h3 lo => ?_)
    refine z_iret X hr rfl (fun t hG hF _ => ⟨⟨_, g, rfl, ⟨rfl, fun i hi => h1 i (Or.inl hi), fun i hi => ?_, h3⟩, hG⟩, hF⟩) dJ6_getChars_ba4f3_120
    have h9 := h2 (sb_dg v - 1 - i) (by omega)
    rw [show nn + sb_dg v - 1 - (sb_dg v - 1 - i) = nn + i by omega] at h9
    exact h9)
theorem sb_apI5 (hst : l.stackTraces = false) (hA : ∀ q, n ≤ q → A q) {b m : Nat} {f : Nat → Int32} {q v : Nat} {t : List Nat} (ht : sbt t m f) (hl : t.length + sb_dg v ≤ 34) (hv : v ≤ 50000001) : Met l yJ5_append_c97b9 (.code yJ5_append_c97b9 cJ5_append_c97b9 4 (some (.object "java/lang/AbstractStringBuilder")) :: gT) ({ frames := 9, cells := 1, slots := 34, locals := 378 } : Room) (va_Pc [.ref q, .int (nI v)] (zB D dA A n (zw D A (sbz dA b m f q t.length) sbK))) (va_Qq (fun r (u : Nat × Nat × (Nat → Int32)) => r = some q ∧ sbt (t ++ dgs v) u.2.1 u.2.2) (fun u s9 => zw D A (sbz dA u.1 u.2.1 u.2.2 q (t.length + sb_dg v)) sbK s9.heap) A) 1 34 A :=
  z_met (by decide) hA hst (Nat.le_of_ble_eq_true rfl) rfl rfl (fun p e s m9 below meth c X hml hr _ => by
    have gV := g_603
    have gN := g_606
    refine z_aload_n X dJ5_append_c97b9_0 rfl rfl ?_
    refine w_get X 1 3 rj4_ws rfl rfl rfl gN (Or.inl rfl) rfl dJ5_append_c97b9_1 ?_
    refine z_istore_n (lo' := [(2, .int (nI t.length)), (0, .ref q), (1, .int (nI v))]) X dJ5_append_c97b9_4 rfl (by rw [hml]; decide) rfl rfl ?_
    refine z_iload_n X dJ5_append_c97b9_5 rfl rfl ?_
    refine z_iload_n X dJ5_append_c97b9_6 rfl rfl ?_
    refine z_callTi (As := [.int (nI v)]) (rest := [.int (nI t.length)]) (nA := 1) (mc := 0) (ms := 0) (rm := ({ frames := 1, cells := 0, slots := 0, locals := 42 } : Room)) (r0 := nI (sb_dg v)) (pu := (fun (_ : Unit) => True)) (G1 := (fun _ => zw D A (sbz dA b m f q t.length) sbK)) X (sb_siz X.2.2.2.2.2.2.2.2 X.2.2.2.2.2.2.1 hv) g_729 g_730 g_31 g_731 hd_yJ6_stringSize_0f7a4.2 ⟨rfl, rfl, Nat.le_of_ble_eq_true rfl, Nat.le_of_ble_eq_true rfl⟩ rfl rfl (Nat.le_of_ble_eq_true rfl) dJ5_append_c97b9_7 ⟨Nat.le_of_ble_eq_true rfl, Nat.le_of_ble_eq_true rfl⟩ (fun _ _ => ?_)
    refine z_iadd X dJ5_append_c97b9_10 ?_
    rw [nI_add]
    refine z_istore_n (lo' := [(3, .int (nI (t.length + sb_dg v))), (2, .int (nI t.length)), (0, .ref q), (1, .int (nI v))]) X dJ5_append_c97b9_11 rfl (by rw [hml]; decide) rfl rfl ?_
    refine z_aload_n X dJ5_append_c97b9_12 rfl rfl ?_
    refine z_iload_n X dJ5_append_c97b9_13 rfl rfl ?_
    refine z_callPv (C := RJ4) (As := [.int (nI (t.length + sb_dg v))]) (rest := []) (nA := 1) (mc := 1) (ms := 34) (rm := ({ frames := 7, cells := 1, slots := 34, locals := 294 } : Room)) (pu := fun (u : Nat × Nat × (Nat → Int32)) => (u.2.1 = 16 ∨ u.2.1 = 34) ∧ t.length + sb_dg v ≤ u.2.1 ∧ m ≤ u.2.1 ∧ sb_Fit u.2.2 ∧ ∀ i, i < m → u.2.2 i = f i) (G1 := fun u => zw D A (sbz dA u.1 u.2.1 u.2.2 q t.length) sbK) X (sb_ens X.2.2.2.2.2.2.2.2 X.2.2.2.2.2.2.1 ht.1 hl ht.2.2.1) g_628 g_630 (z_selP (n := 4) ⟨by decide, by decide⟩ (X.2.2.2.1 _ g_586) (z_hat hat_ens X _ (by simp)) (X.2.2.2.1 _ g_630) (z_hat hat_ens X _ (List.mem_cons_of_mem _ List.mem_cons_self))) g_25 g_631 hd_yJ5_ensureCapacityInternal_d00df.2 ⟨rfl, rfl, Nat.le_of_ble_eq_true rfl, Nat.le_of_ble_eq_true rfl⟩ rfl (sb_recv X) rfl (Nat.le_of_ble_eq_true rfl) dJ5_append_c97b9_14 ⟨Nat.le_refl _, Nat.le_refl _⟩ (fun u hu => ?_)
    obtain ⟨b1, m1, f1⟩ := u
    obtain ⟨u1, u2, u3, u4, u5⟩ := hu
    have ht1 := sbt_keep ht u1 u3 u4 u5
    have hm1 : m1 ≤ 34 := by have u1 : m1 = 16 ∨ m1 = 34 := u1; omega
    refine z_aload_n X dJ5_append_c97b9_17 rfl rfl ?_
    refine z_callPi (C := RJ4) (As := []) (rest := []) (nA := 0) (mc := 0) (ms := 0) (rm := ({ frames := 1, cells := 0, slots := 0, locals := 42 } : Room)) (r0 := 1) (pu := (fun (_ : Unit) => True)) (G1 := (fun _ => zw D A (sbz dA b1 m1 f1 q t.length) sbK)) X (sb_isL X.2.2.2.2.2.2.2.2 X.2.2.2.2.2.2.1) g_648 g_649 (X.2.2.2.1 _ g_651) g_25 g_652 hd_yJ5_isLatin1_aae02.2 ⟨rfl, rfl, Nat.le_of_ble_eq_true rfl, Nat.le_of_ble_eq_true rfl⟩ rfl (sb_recv X) rfl (Nat.le_of_ble_eq_true rfl) dJ5_append_c97b9_18 ⟨Nat.le_refl _, Nat.le_refl _⟩ (fun _ _ => ?_)
    refine z_if_eq (tgt := 37) X dJ5_append_c97b9_21 (by decide) (fun q => absurd q (by decide)) (fun _ => ?_)
    refine z_iload_n X dJ5_append_c97b9_24 rfl rfl ?_
    refine z_iload_n X dJ5_append_c97b9_25 rfl rfl ?_
    refine z_aload_n X dJ5_append_c97b9_26 rfl rfl ?_
    refine w_get X 1 0 rj4_ws rfl rfl rfl gV (Or.inl rfl) rfl dJ5_append_c97b9_27 ?_
    refine z_callTi (As := [.int (nI v), .int (nI (t.length + sb_dg v)), .ref b1]) (rest := []) (nA := 3) (mc := 0) (ms := 0) (rm := ({ frames := 1, cells := 0, slots := 0, locals := 42 } : Room)) (r0 := nI t.length) (pu := (fun (g : Nat → Int32) => (∀ i, i < t.length → g i = f1 i) ∧ (∀ i, i < sb_dg v → g (t.length + i) = nI (sb_dec v i)) ∧ (sb_Fit f1 → sb_Fit g))) (G1 := (fun g => zw D A (sbz dA b1 m1 g q t.length) sbK)) X (sb_gch X.2.2.2.2.2.2.2.2 X.2.2.2.2.2.2.1 hm1 hv u2) g_732 g_733 g_31 g_734 hd_yJ6_getChars_ba4f3.2 ⟨rfl, rfl, Nat.le_of_ble_eq_true rfl, Nat.le_of_ble_eq_true rfl⟩ rfl rfl (Nat.le_of_ble_eq_true rfl) dJ5_append_c97b9_30 ⟨Nat.le_refl _, Nat.le_refl _⟩ (fun g hg => ?_)
    obtain ⟨g1, g2, g3⟩ := hg
    refine z_pop X dJ5_append_c97b9_33 rfl ?_
    refine z_goto (tgt := 48) X dJ5_append_c97b9_34 (by decide) ?_
    refine z_aload_n X dJ5_append_c97b9_48 rfl rfl ?_
    refine z_iload_n X dJ5_append_c97b9_49 rfl rfl ?_
    refine w_put kf_sbK X 1 3 (v := .int (nI (t.length + sb_dg v))) (zs' := sbz dA b1 m1 g q (t.length + sb_dg v)) (ty := .int) rj4_ws rfl rfl tyJ4_ok nmJ4 rfl rfl gN (Or.inl rfl) rfl rfl rfl rfl rfl dJ5_append_c97b9_50 ?_
    refine z_aload_n X dJ5_append_c97b9_53 rfl rfl ?_
    exact z_aret (o := some q) X hr (Or.inl ⟨_, rfl⟩) (fun s9 hG hF _ => ⟨⟨_, (b1, m1, g), rfl, ⟨rfl, sbt_app ht1 (by rw [dgs_len]; exact u2) (g3 u4) dgs_asc g1 (fun j hj => by rw [dgs_len] at hj; rw [dgs_get hj]; exact g2 j hj)⟩, hG⟩, hF⟩) dJ5_append_c97b9_54)
end SO
