/-! THE LAW'S STATIC METHODS: what each answers and leaves -/
def wR (V : Rho) (L : Lst) (N : Cnt) (f : Nat → Int64) (cd : Nat → Int32) (o : (Rho × Int32) ⊕ Nat) : CW × (Nat → Int64) × Int32 := match o with
  | .inl w => ((w.1, L, N), vp_updL f 0 w.2.toInt64, 0)
  | .inr e => ((V, L, N), f, cd e)
def wW (V : Rho) (L : Lst) (N : Cnt) (f : Nat → Int64) (cd : Nat → Int32) (o : (CW × Int32) ⊕ Nat) : CW × (Nat → Int64) × Int32 := match o with
  | .inl w => (w.1, vp_updL f 0 w.2.toInt64, 0)
  | .inr e => ((V, L, N), f, cd e)
def wQ (V : Rho) (L : Lst) (N : Cnt) (f : Nat → Int64) (cd : Nat → Int32) (o : Int32 ⊕ Nat) : CW × (Nat → Int64) × Int32 := match o with
  | .inl a => ((V, L, N), vp_updL f 0 a.toInt64, 0)
  | .inr e => ((V, L, N), f, cd e)
theorem g_1075 : Cond.methodLink RL 63 yX11_join ∈ gT := gT_t 1075 (by decide +kernel) rfl
theorem g_1076 : Cond.instanceMethod yX11_join ∈ gT := gT_t 1076 (by decide +kernel) rfl
theorem g_1077 : Cond.selects RX11 yX11_join yX11_join ∈ gT := gT_t 1077 (by decide +kernel) rfl
theorem g_1078 : Cond.code yX11_join cX11_join 8 (some .int) ∈ gT := gT_t 1078 (by decide +kernel) rfl
theorem g_1093 : Cond.methodLink RL 66 yX11_leave ∈ gT := gT_t 1093 (by decide +kernel) rfl
theorem g_1094 : Cond.instanceMethod yX11_leave ∈ gT := gT_t 1094 (by decide +kernel) rfl
theorem g_1095 : Cond.selects RX11 yX11_leave yX11_leave ∈ gT := gT_t 1095 (by decide +kernel) rfl
theorem g_1096 : Cond.code yX11_leave cX11_leave 3 (some .int) ∈ gT := gT_t 1096 (by decide +kernel) rfl
theorem g_1101 : Cond.methodLink RL 69 yX11_move ∈ gT := gT_t 1101 (by decide +kernel) rfl
theorem g_1102 : Cond.instanceMethod yX11_move ∈ gT := gT_t 1102 (by decide +kernel) rfl
theorem g_1103 : Cond.selects RX11 yX11_move yX11_move ∈ gT := gT_t 1103 (by decide +kernel) rfl
theorem g_1104 : Cond.code yX11_move cX11_move 6 (some .boolean) ∈ gT := gT_t 1104 (by decide +kernel) rfl
theorem g_1115 : Cond.methodLink RL 73 yX11_pass ∈ gT := gT_t 1115 (by decide +kernel) rfl
theorem g_1116 : Cond.instanceMethod yX11_pass ∈ gT := gT_t 1116 (by decide +kernel) rfl
theorem g_1117 : Cond.selects RX11 yX11_pass yX11_pass ∈ gT := gT_t 1117 (by decide +kernel) rfl
theorem g_1118 : Cond.code yX11_pass cX11_pass 4 (some .int) ∈ gT := gT_t 1118 (by decide +kernel) rfl
theorem g_1145 : Cond.methodLink RL 76 yX11_cellOf ∈ gT := gT_t 1145 (by decide +kernel) rfl
theorem g_1146 : Cond.instanceMethod yX11_cellOf ∈ gT := gT_t 1146 (by decide +kernel) rfl
theorem g_1147 : Cond.selects RX11 yX11_cellOf yX11_cellOf ∈ gT := gT_t 1147 (by decide +kernel) rfl
theorem g_1148 : Cond.code yX11_cellOf cX11_cellOf 2 (some .int) ∈ gT := gT_t 1148 (by decide +kernel) rfl
theorem g_1152 : Cond.methodLink RL 79 yX11_rateOf ∈ gT := gT_t 1152 (by decide +kernel) rfl
theorem g_1153 : Cond.instanceMethod yX11_rateOf ∈ gT := gT_t 1153 (by decide +kernel) rfl
theorem g_1154 : Cond.selects RX11 yX11_rateOf yX11_rateOf ∈ gT := gT_t 1154 (by decide +kernel) rfl
theorem g_1155 : Cond.code yX11_rateOf cX11_rateOf 2 (some .int) ∈ gT := gT_t 1155 (by decide +kernel) rfl
theorem g_1159 : Cond.methodLink RL 82 yX11_legOf ∈ gT := gT_t 1159 (by decide +kernel) rfl
theorem g_1160 : Cond.instanceMethod yX11_legOf ∈ gT := gT_t 1160 (by decide +kernel) rfl
theorem g_1161 : Cond.selects RX11 yX11_legOf yX11_legOf ∈ gT := gT_t 1161 (by decide +kernel) rfl
theorem g_1162 : Cond.code yX11_legOf cX11_legOf 3 (some .int) ∈ gT := gT_t 1162 (by decide +kernel) rfl
theorem g_1166 : Cond.methodLink RL 85 yX11_sliceOf ∈ gT := gT_t 1166 (by decide +kernel) rfl
theorem g_1167 : Cond.instanceMethod yX11_sliceOf ∈ gT := gT_t 1167 (by decide +kernel) rfl
theorem g_1168 : Cond.selects RX11 yX11_sliceOf yX11_sliceOf ∈ gT := gT_t 1168 (by decide +kernel) rfl
theorem g_1169 : Cond.code yX11_sliceOf cX11_sliceOf 3 (some .int) ∈ gT := gT_t 1169 (by decide +kernel) rfl
theorem g_1173 : Cond.methodLink RL 88 yX11_parties ∈ gT := gT_t 1173 (by decide +kernel) rfl
theorem g_1174 : Cond.instanceMethod yX11_parties ∈ gT := gT_t 1174 (by decide +kernel) rfl
theorem g_1175 : Cond.selects RX11 yX11_parties yX11_parties ∈ gT := gT_t 1175 (by decide +kernel) rfl
theorem g_1176 : Cond.code yX11_parties cX11_parties 2 (some .int) ∈ gT := gT_t 1176 (by decide +kernel) rfl
theorem g_1180 : Cond.methodLink RL 91 yX11_stateOf ∈ gT := gT_t 1180 (by decide +kernel) rfl
theorem g_1181 : Cond.instanceMethod yX11_stateOf ∈ gT := gT_t 1181 (by decide +kernel) rfl
theorem g_1182 : Cond.selects RX11 yX11_stateOf yX11_stateOf ∈ gT := gT_t 1182 (by decide +kernel) rfl
theorem g_1183 : Cond.code yX11_stateOf cX11_stateOf 2 (some .int) ∈ gT := gT_t 1183 (by decide +kernel) rfl
theorem g_1192 : Cond.methodLink RL 94 yX11_seconds ∈ gT := gT_t 1192 (by decide +kernel) rfl
theorem g_1193 : Cond.instanceMethod yX11_seconds ∈ gT := gT_t 1193 (by decide +kernel) rfl
theorem g_1194 : Cond.selects RX11 yX11_seconds yX11_seconds ∈ gT := gT_t 1194 (by decide +kernel) rfl
theorem g_1195 : Cond.code yX11_seconds cX11_seconds 2 (some .int) ∈ gT := gT_t 1195 (by decide +kernel) rfl
theorem g_1199 : Cond.methodLink RL 97 yX11_charged ∈ gT := gT_t 1199 (by decide +kernel) rfl
theorem g_1200 : Cond.instanceMethod yX11_charged ∈ gT := gT_t 1200 (by decide +kernel) rfl
theorem g_1201 : Cond.selects RX11 yX11_charged yX11_charged ∈ gT := gT_t 1201 (by decide +kernel) rfl
theorem g_1202 : Cond.code yX11_charged cX11_charged 2 (some .int) ∈ gT := gT_t 1202 (by decide +kernel) rfl
theorem g_1206 : Cond.methodLink RL 100 yX11_covered ∈ gT := gT_t 1206 (by decide +kernel) rfl
theorem g_1207 : Cond.instanceMethod yX11_covered ∈ gT := gT_t 1207 (by decide +kernel) rfl
theorem g_1208 : Cond.selects RX11 yX11_covered yX11_covered ∈ gT := gT_t 1208 (by decide +kernel) rfl
theorem g_1209 : Cond.code yX11_covered cX11_covered 2 (some .int) ∈ gT := gT_t 1209 (by decide +kernel) rfl
theorem g_1213 : Cond.methodLink RL 103 yX11_ratedByEvents ∈ gT := gT_t 1213 (by decide +kernel) rfl
theorem g_1214 : Cond.instanceMethod yX11_ratedByEvents ∈ gT := gT_t 1214 (by decide +kernel) rfl
theorem g_1215 : Cond.selects RX11 yX11_ratedByEvents yX11_ratedByEvents ∈ gT := gT_t 1215 (by decide +kernel) rfl
theorem g_1216 : Cond.code yX11_ratedByEvents cX11_ratedByEvents 7 (some .int) ∈ gT := gT_t 1216 (by decide +kernel) rfl
theorem g_1232 : Cond.methodLink RL 106 yX11_tag ∈ gT := gT_t 1232 (by decide +kernel) rfl
theorem g_1233 : Cond.instanceMethod yX11_tag ∈ gT := gT_t 1233 (by decide +kernel) rfl
theorem g_1234 : Cond.selects RX11 yX11_tag yX11_tag ∈ gT := gT_t 1234 (by decide +kernel) rfl
theorem g_1235 : Cond.code yX11_tag cX11_tag 2 (some .int) ∈ gT := gT_t 1235 (by decide +kernel) rfl
theorem g_1239 : Cond.methodLink RL 109 yX11_seal ∈ gT := gT_t 1239 (by decide +kernel) rfl
theorem g_1240 : Cond.instanceMethod yX11_seal ∈ gT := gT_t 1240 (by decide +kernel) rfl
theorem g_1241 : Cond.selects RX11 yX11_seal yX11_seal ∈ gT := gT_t 1241 (by decide +kernel) rfl
theorem g_1242 : Cond.code yX11_seal cX11_seal 2 (some .int) ∈ gT := gT_t 1242 (by decide +kernel) rfl
theorem g_1251 : Cond.methodLink RL 112 yX11_stamp ∈ gT := gT_t 1251 (by decide +kernel) rfl
theorem g_1252 : Cond.instanceMethod yX11_stamp ∈ gT := gT_t 1252 (by decide +kernel) rfl
theorem g_1253 : Cond.selects RX11 yX11_stamp yX11_stamp ∈ gT := gT_t 1253 (by decide +kernel) rfl
theorem g_1254 : Cond.code yX11_stamp cX11_stamp 6 (some .int) ∈ gT := gT_t 1254 (by decide +kernel) rfl
theorem g_315 : Cond.classLink RL 13 (exn 1) ∈ gT := gT_t 315 (by decide +kernel) rfl
theorem g_316 : Cond.classLink RL 15 (exn 2) ∈ gT := gT_t 316 (by decide +kernel) rfl
theorem g_317 : Cond.classLink RL 17 (exn 3) ∈ gT := gT_t 317 (by decide +kernel) rfl
theorem g_318 : Cond.methodLink RL 7 yX11_setZone ∈ gT := gT_t 318 (by decide +kernel) rfl
theorem g_319 : Cond.instanceMethod yX11_setZone ∈ gT := gT_t 319 (by decide +kernel) rfl
theorem g_320 : Cond.selects RX11 yX11_setZone yX11_setZone ∈ gT := gT_t 320 (by decide +kernel) rfl
theorem g_321 : Cond.code yX11_setZone cX11_setZone 5 (some .int) ∈ gT := gT_t 321 (by decide +kernel) rfl
theorem g_436 : Cond.methodLink RL 19 yX11_setChannels ∈ gT := gT_t 436 (by decide +kernel) rfl
theorem g_437 : Cond.instanceMethod yX11_setChannels ∈ gT := gT_t 437 (by decide +kernel) rfl
theorem g_438 : Cond.selects RX11 yX11_setChannels yX11_setChannels ∈ gT := gT_t 438 (by decide +kernel) rfl
theorem g_439 : Cond.code yX11_setChannels cX11_setChannels 5 (some .int) ∈ gT := gT_t 439 (by decide +kernel) rfl
theorem g_448 : Cond.methodLink RL 23 yX11_setRate ∈ gT := gT_t 448 (by decide +kernel) rfl
theorem g_449 : Cond.instanceMethod yX11_setRate ∈ gT := gT_t 449 (by decide +kernel) rfl
theorem g_450 : Cond.selects RX11 yX11_setRate yX11_setRate ∈ gT := gT_t 450 (by decide +kernel) rfl
theorem g_451 : Cond.code yX11_setRate cX11_setRate 6 (some .int) ∈ gT := gT_t 451 (by decide +kernel) rfl
theorem g_465 : Cond.methodLink RL 27 yX11_setSlice ∈ gT := gT_t 465 (by decide +kernel) rfl
theorem g_466 : Cond.instanceMethod yX11_setSlice ∈ gT := gT_t 466 (by decide +kernel) rfl
theorem g_467 : Cond.selects RX11 yX11_setSlice yX11_setSlice ∈ gT := gT_t 467 (by decide +kernel) rfl
theorem g_468 : Cond.code yX11_setSlice cX11_setSlice 3 (some .int) ∈ gT := gT_t 468 (by decide +kernel) rfl
theorem g_473 : Cond.methodLink RL 31 yX11_setCap ∈ gT := gT_t 473 (by decide +kernel) rfl
theorem g_474 : Cond.instanceMethod yX11_setCap ∈ gT := gT_t 474 (by decide +kernel) rfl
theorem g_475 : Cond.selects RX11 yX11_setCap yX11_setCap ∈ gT := gT_t 475 (by decide +kernel) rfl
theorem g_476 : Cond.code yX11_setCap cX11_setCap 5 (some .int) ∈ gT := gT_t 476 (by decide +kernel) rfl
theorem g_487 : Cond.methodLink RL 34 yX11_setWallet ∈ gT := gT_t 487 (by decide +kernel) rfl
theorem g_488 : Cond.instanceMethod yX11_setWallet ∈ gT := gT_t 488 (by decide +kernel) rfl
theorem g_489 : Cond.selects RX11 yX11_setWallet yX11_setWallet ∈ gT := gT_t 489 (by decide +kernel) rfl
theorem g_490 : Cond.code yX11_setWallet cX11_setWallet 6 (some .int) ∈ gT := gT_t 490 (by decide +kernel) rfl
theorem g_500 : Cond.methodLink RL 37 yX11_top ∈ gT := gT_t 500 (by decide +kernel) rfl
theorem g_501 : Cond.instanceMethod yX11_top ∈ gT := gT_t 501 (by decide +kernel) rfl
theorem g_502 : Cond.selects RX11 yX11_top yX11_top ∈ gT := gT_t 502 (by decide +kernel) rfl
theorem g_503 : Cond.code yX11_top cX11_top 4 (some .int) ∈ gT := gT_t 503 (by decide +kernel) rfl
theorem g_508 : Cond.methodLink RL 40 yX11_give ∈ gT := gT_t 508 (by decide +kernel) rfl
theorem g_509 : Cond.instanceMethod yX11_give ∈ gT := gT_t 509 (by decide +kernel) rfl
theorem g_510 : Cond.selects RX11 yX11_give yX11_give ∈ gT := gT_t 510 (by decide +kernel) rfl
theorem g_511 : Cond.code yX11_give cX11_give 6 (some .int) ∈ gT := gT_t 511 (by decide +kernel) rfl
theorem g_517 : Cond.methodLink RL 43 yX11_buy ∈ gT := gT_t 517 (by decide +kernel) rfl
theorem g_518 : Cond.instanceMethod yX11_buy ∈ gT := gT_t 518 (by decide +kernel) rfl
theorem g_519 : Cond.selects RX11 yX11_buy yX11_buy ∈ gT := gT_t 519 (by decide +kernel) rfl
theorem g_520 : Cond.code yX11_buy cX11_buy 10 (some .int) ∈ gT := gT_t 520 (by decide +kernel) rfl
theorem g_822 : Cond.methodLink RL 47 yX11_free ∈ gT := gT_t 822 (by decide +kernel) rfl
theorem g_823 : Cond.instanceMethod yX11_free ∈ gT := gT_t 823 (by decide +kernel) rfl
theorem g_824 : Cond.selects RX11 yX11_free yX11_free ∈ gT := gT_t 824 (by decide +kernel) rfl
theorem g_825 : Cond.code yX11_free cX11_free 2 (some .int) ∈ gT := gT_t 825 (by decide +kernel) rfl
theorem g_829 : Cond.methodLink RL 50 yX11_aside ∈ gT := gT_t 829 (by decide +kernel) rfl
theorem g_830 : Cond.instanceMethod yX11_aside ∈ gT := gT_t 830 (by decide +kernel) rfl
theorem g_831 : Cond.selects RX11 yX11_aside yX11_aside ∈ gT := gT_t 831 (by decide +kernel) rfl
theorem g_832 : Cond.code yX11_aside cX11_aside 8 (some .int) ∈ gT := gT_t 832 (by decide +kernel) rfl
theorem g_840 : Cond.methodLink RL 53 yX11_spent ∈ gT := gT_t 840 (by decide +kernel) rfl
theorem g_841 : Cond.instanceMethod yX11_spent ∈ gT := gT_t 841 (by decide +kernel) rfl
theorem g_842 : Cond.selects RX11 yX11_spent yX11_spent ∈ gT := gT_t 842 (by decide +kernel) rfl
theorem g_843 : Cond.code yX11_spent cX11_spent 2 (some .int) ∈ gT := gT_t 843 (by decide +kernel) rfl
theorem g_847 : Cond.methodLink RL 56 yX11_left ∈ gT := gT_t 847 (by decide +kernel) rfl
theorem g_848 : Cond.instanceMethod yX11_left ∈ gT := gT_t 848 (by decide +kernel) rfl
theorem g_849 : Cond.selects RX11 yX11_left yX11_left ∈ gT := gT_t 849 (by decide +kernel) rfl
theorem g_850 : Cond.code yX11_left cX11_left 3 (some .int) ∈ gT := gT_t 850 (by decide +kernel) rfl
theorem g_860 : Cond.methodLink RL 59 yX11_begin ∈ gT := gT_t 860 (by decide +kernel) rfl
theorem g_861 : Cond.instanceMethod yX11_begin ∈ gT := gT_t 861 (by decide +kernel) rfl
theorem g_862 : Cond.selects RX11 yX11_begin yX11_begin ∈ gT := gT_t 862 (by decide +kernel) rfl
theorem g_863 : Cond.code yX11_begin cX11_begin 10 (some .int) ∈ gT := gT_t 863 (by decide +kernel) rfl
theorem hd_yX11_setZone : yX11_setZone.cls = RX11 ∧ yX11_setZone.cls ≠ "java/lang/invoke/MethodHandle" ∧ yX11_setZone.cls ≠ "java/lang/invoke/VarHandle" ∧ (parseMethodDescriptor yX11_setZone.desc).map (fun d => d.parameters.length) = some 2 := by decide +kernel
theorem hd_yX11_setChannels : yX11_setChannels.cls = RX11 ∧ yX11_setChannels.cls ≠ "java/lang/invoke/MethodHandle" ∧ yX11_setChannels.cls ≠ "java/lang/invoke/VarHandle" ∧ (parseMethodDescriptor yX11_setChannels.desc).map (fun d => d.parameters.length) = some 3 := by decide +kernel
theorem hd_yX11_setRate : yX11_setRate.cls = RX11 ∧ yX11_setRate.cls ≠ "java/lang/invoke/MethodHandle" ∧ yX11_setRate.cls ≠ "java/lang/invoke/VarHandle" ∧ (parseMethodDescriptor yX11_setRate.desc).map (fun d => d.parameters.length) = some 3 := by decide +kernel
theorem hd_yX11_setSlice : yX11_setSlice.cls = RX11 ∧ yX11_setSlice.cls ≠ "java/lang/invoke/MethodHandle" ∧ yX11_setSlice.cls ≠ "java/lang/invoke/VarHandle" ∧ (parseMethodDescriptor yX11_setSlice.desc).map (fun d => d.parameters.length) = some 1 := by decide +kernel
theorem hd_yX11_setCap : yX11_setCap.cls = RX11 ∧ yX11_setCap.cls ≠ "java/lang/invoke/MethodHandle" ∧ yX11_setCap.cls ≠ "java/lang/invoke/VarHandle" ∧ (parseMethodDescriptor yX11_setCap.desc).map (fun d => d.parameters.length) = some 2 := by decide +kernel
theorem hd_yX11_setWallet : yX11_setWallet.cls = RX11 ∧ yX11_setWallet.cls ≠ "java/lang/invoke/MethodHandle" ∧ yX11_setWallet.cls ≠ "java/lang/invoke/VarHandle" ∧ (parseMethodDescriptor yX11_setWallet.desc).map (fun d => d.parameters.length) = some 2 := by decide +kernel
theorem hd_yX11_top : yX11_top.cls = RX11 ∧ yX11_top.cls ≠ "java/lang/invoke/MethodHandle" ∧ yX11_top.cls ≠ "java/lang/invoke/VarHandle" ∧ (parseMethodDescriptor yX11_top.desc).map (fun d => d.parameters.length) = some 2 := by decide +kernel
theorem hd_yX11_give : yX11_give.cls = RX11 ∧ yX11_give.cls ≠ "java/lang/invoke/MethodHandle" ∧ yX11_give.cls ≠ "java/lang/invoke/VarHandle" ∧ (parseMethodDescriptor yX11_give.desc).map (fun d => d.parameters.length) = some 3 := by decide +kernel
theorem hd_yX11_buy : yX11_buy.cls = RX11 ∧ yX11_buy.cls ≠ "java/lang/invoke/MethodHandle" ∧ yX11_buy.cls ≠ "java/lang/invoke/VarHandle" ∧ (parseMethodDescriptor yX11_buy.desc).map (fun d => d.parameters.length) = some 6 := by decide +kernel
theorem hd_yX11_free : yX11_free.cls = RX11 ∧ yX11_free.cls ≠ "java/lang/invoke/MethodHandle" ∧ yX11_free.cls ≠ "java/lang/invoke/VarHandle" ∧ (parseMethodDescriptor yX11_free.desc).map (fun d => d.parameters.length) = some 1 := by decide +kernel
theorem hd_yX11_aside : yX11_aside.cls = RX11 ∧ yX11_aside.cls ≠ "java/lang/invoke/MethodHandle" ∧ yX11_aside.cls ≠ "java/lang/invoke/VarHandle" ∧ (parseMethodDescriptor yX11_aside.desc).map (fun d => d.parameters.length) = some 1 := by decide +kernel
theorem hd_yX11_spent : yX11_spent.cls = RX11 ∧ yX11_spent.cls ≠ "java/lang/invoke/MethodHandle" ∧ yX11_spent.cls ≠ "java/lang/invoke/VarHandle" ∧ (parseMethodDescriptor yX11_spent.desc).map (fun d => d.parameters.length) = some 1 := by decide +kernel
theorem hd_yX11_left : yX11_left.cls = RX11 ∧ yX11_left.cls ≠ "java/lang/invoke/MethodHandle" ∧ yX11_left.cls ≠ "java/lang/invoke/VarHandle" ∧ (parseMethodDescriptor yX11_left.desc).map (fun d => d.parameters.length) = some 1 := by decide +kernel
theorem hd_yX11_begin : yX11_begin.cls = RX11 ∧ yX11_begin.cls ≠ "java/lang/invoke/MethodHandle" ∧ yX11_begin.cls ≠ "java/lang/invoke/VarHandle" ∧ (parseMethodDescriptor yX11_begin.desc).map (fun d => d.parameters.length) = some 3 := by decide +kernel
theorem hd_yX11_join : yX11_join.cls = RX11 ∧ yX11_join.cls ≠ "java/lang/invoke/MethodHandle" ∧ yX11_join.cls ≠ "java/lang/invoke/VarHandle" ∧ (parseMethodDescriptor yX11_join.desc).map (fun d => d.parameters.length) = some 3 := by decide +kernel
theorem hd_yX11_leave : yX11_leave.cls = RX11 ∧ yX11_leave.cls ≠ "java/lang/invoke/MethodHandle" ∧ yX11_leave.cls ≠ "java/lang/invoke/VarHandle" ∧ (parseMethodDescriptor yX11_leave.desc).map (fun d => d.parameters.length) = some 1 := by decide +kernel
theorem hd_yX11_move : yX11_move.cls = RX11 ∧ yX11_move.cls ≠ "java/lang/invoke/MethodHandle" ∧ yX11_move.cls ≠ "java/lang/invoke/VarHandle" ∧ (parseMethodDescriptor yX11_move.desc).map (fun d => d.parameters.length) = some 2 := by decide +kernel
theorem hd_yX11_pass : yX11_pass.cls = RX11 ∧ yX11_pass.cls ≠ "java/lang/invoke/MethodHandle" ∧ yX11_pass.cls ≠ "java/lang/invoke/VarHandle" ∧ (parseMethodDescriptor yX11_pass.desc).map (fun d => d.parameters.length) = some 1 := by decide +kernel
theorem hd_yX11_cellOf : yX11_cellOf.cls = RX11 ∧ yX11_cellOf.cls ≠ "java/lang/invoke/MethodHandle" ∧ yX11_cellOf.cls ≠ "java/lang/invoke/VarHandle" ∧ (parseMethodDescriptor yX11_cellOf.desc).map (fun d => d.parameters.length) = some 1 := by decide +kernel
theorem hd_yX11_rateOf : yX11_rateOf.cls = RX11 ∧ yX11_rateOf.cls ≠ "java/lang/invoke/MethodHandle" ∧ yX11_rateOf.cls ≠ "java/lang/invoke/VarHandle" ∧ (parseMethodDescriptor yX11_rateOf.desc).map (fun d => d.parameters.length) = some 1 := by decide +kernel
theorem hd_yX11_legOf : yX11_legOf.cls = RX11 ∧ yX11_legOf.cls ≠ "java/lang/invoke/MethodHandle" ∧ yX11_legOf.cls ≠ "java/lang/invoke/VarHandle" ∧ (parseMethodDescriptor yX11_legOf.desc).map (fun d => d.parameters.length) = some 1 := by decide +kernel
theorem hd_yX11_sliceOf : yX11_sliceOf.cls = RX11 ∧ yX11_sliceOf.cls ≠ "java/lang/invoke/MethodHandle" ∧ yX11_sliceOf.cls ≠ "java/lang/invoke/VarHandle" ∧ (parseMethodDescriptor yX11_sliceOf.desc).map (fun d => d.parameters.length) = some 1 := by decide +kernel
theorem hd_yX11_parties : yX11_parties.cls = RX11 ∧ yX11_parties.cls ≠ "java/lang/invoke/MethodHandle" ∧ yX11_parties.cls ≠ "java/lang/invoke/VarHandle" ∧ (parseMethodDescriptor yX11_parties.desc).map (fun d => d.parameters.length) = some 1 := by decide +kernel
theorem hd_yX11_stateOf : yX11_stateOf.cls = RX11 ∧ yX11_stateOf.cls ≠ "java/lang/invoke/MethodHandle" ∧ yX11_stateOf.cls ≠ "java/lang/invoke/VarHandle" ∧ (parseMethodDescriptor yX11_stateOf.desc).map (fun d => d.parameters.length) = some 1 := by decide +kernel
theorem hd_yX11_seconds : yX11_seconds.cls = RX11 ∧ yX11_seconds.cls ≠ "java/lang/invoke/MethodHandle" ∧ yX11_seconds.cls ≠ "java/lang/invoke/VarHandle" ∧ (parseMethodDescriptor yX11_seconds.desc).map (fun d => d.parameters.length) = some 1 := by decide +kernel
theorem hd_yX11_charged : yX11_charged.cls = RX11 ∧ yX11_charged.cls ≠ "java/lang/invoke/MethodHandle" ∧ yX11_charged.cls ≠ "java/lang/invoke/VarHandle" ∧ (parseMethodDescriptor yX11_charged.desc).map (fun d => d.parameters.length) = some 1 := by decide +kernel
theorem hd_yX11_covered : yX11_covered.cls = RX11 ∧ yX11_covered.cls ≠ "java/lang/invoke/MethodHandle" ∧ yX11_covered.cls ≠ "java/lang/invoke/VarHandle" ∧ (parseMethodDescriptor yX11_covered.desc).map (fun d => d.parameters.length) = some 1 := by decide +kernel
theorem hd_yX11_ratedByEvents : yX11_ratedByEvents.cls = RX11 ∧ yX11_ratedByEvents.cls ≠ "java/lang/invoke/MethodHandle" ∧ yX11_ratedByEvents.cls ≠ "java/lang/invoke/VarHandle" ∧ (parseMethodDescriptor yX11_ratedByEvents.desc).map (fun d => d.parameters.length) = some 1 := by decide +kernel
theorem hd_yX11_tag : yX11_tag.cls = RX11 ∧ yX11_tag.cls ≠ "java/lang/invoke/MethodHandle" ∧ yX11_tag.cls ≠ "java/lang/invoke/VarHandle" ∧ (parseMethodDescriptor yX11_tag.desc).map (fun d => d.parameters.length) = some 1 := by decide +kernel
theorem hd_yX11_seal : yX11_seal.cls = RX11 ∧ yX11_seal.cls ≠ "java/lang/invoke/MethodHandle" ∧ yX11_seal.cls ≠ "java/lang/invoke/VarHandle" ∧ (parseMethodDescriptor yX11_seal.desc).map (fun d => d.parameters.length) = some 1 := by decide +kernel
theorem hd_yX11_stamp : yX11_stamp.cls = RX11 ∧ yX11_stamp.cls ≠ "java/lang/invoke/MethodHandle" ∧ yX11_stamp.cls ≠ "java/lang/invoke/VarHandle" ∧ (parseMethodDescriptor yX11_stamp.desc).map (fun d => d.parameters.length) = some 1 := by decide +kernel
-- setZone
set_option maxRecDepth 100000 in
set_option maxHeartbeats 4000000 in
theorem cw_setZone (l : Launch) {D : va_G} {dA : Nat → ClassId} {A : Nat → Prop} {n : Nat} (hst : l.stackTraces = false) (hA : ∀ q, n ≤ q → A q) {V : Rho} {L : Lst} {N : Cnt} {ad : Adr} {xs : va_W} {XC : String → State → State → Prop} (h11 : 0 < N 11) {q : Nat} {f : Nat → Int64} {a1 : Int32} {a2 : Int32} {o : (Rho × Int32) ⊕ Nat} (hcd : ∀ e, o = .inr e → ¬ cd3 e = 0) (h : fc_setZone V L N a1 a2 = some o) : vx_Met l yL_setZone (.codeWith yL_setZone cL_setZone 5 (some .int) (hdT [(1, 13, 13, 10), (2, 17, 15, 10), (3, 21, 17, 10)]) :: gT) ({ frames := 200, cells := 2, slots := 12, locals := 2000 } : Room) (va_Pc [.ref (ad 11 0), .int a1, .int a2, .ref q] (zBN D dA A n (cx D dA A V L N ad ((q, .inl (dA 7, 1, .inr (.inl f))) :: xs)))) (va_Qi (fun r (u : CW × (Nat → Int64) × Adr) => wR V L N f cd3 o = (u.1, u.2.1, r) ∧ axt N ad u.2.2 ∧ ∀ k, N k ≤ u.1.2.2 k) (fun u t => cx D dA A u.1.1 u.1.2.1 u.1.2.2 u.2.2 ((q, .inl (dA 7, 1, .inr (.inl u.2.1))) :: xs) t.heap) A) XC (2) (12) A := by
  refine z_metH (by decide) hA hst (Nat.le_of_ble_eq_true rfl) rfl rfl (fun p e s m below meth c X hNc hml hr hh => ?_)
  refine z_aload_n X dL_setZone_0 rfl rfl ?_
  refine z_iconst (v := 0) X dL_setZone_1 (by decide) ?_
  refine z_aload_n X dL_setZone_2 rfl rfl ?_
  refine z_iload_n X dL_setZone_3 rfl rfl ?_
  refine z_iload_n X dL_setZone_4 rfl rfl ?_
  refine z_xVc (As := [.int a1, .int a2]) (rest := [.int 0, .ref q]) (nA := 2) (mc := 2) (ms := 12) (rm := ({ frames := 180, cells := 2, slots := 12, locals := 1800 } : Room)) (S := Rho × Int32) (r0 := fun w9 => w9.2) (px := fun u => o = .inr u) (pu := fun w9 => o = .inl w9 ∧ True) (GX := cx D dA A V L N ad ((q, .inl (dA 7, 1, .inr (.inl f))) :: xs)) (G1 := fun w9 => cx D dA A w9.1 L N ad ((q, .inl (dA 7, 1, .inr (.inl f))) :: xs)) X hNc [(1, 13, 13, 10), (2, 17, 15, 10), (3, 21, 17, 10)] hh (by decide) (by
    intro z hz
    simp only [List.mem_cons, List.not_mem_nil, or_false] at hz
    rcases hz with rfl | rfl | rfl
    · exact g_315
    · exact g_316
    · exact g_317) (cc_setZone l X.2.2.2.2.2.2.2.2 X.2.2.2.2.2.2.1 h11 h) g_318 g_319 g_320 g_1 g_321 hd_yX11_setZone ⟨rfl, rfl, Nat.le_of_ble_eq_true rfl, Nat.le_of_ble_eq_true rfl⟩ rfl (fun _ hG => cx_recv X (k := 11) rfl rfl h11 hG) rfl (Nat.le_of_ble_eq_true rfl) dL_setZone_5 ⟨by show _ ≤ 2; omega, by show _ ≤ 12; omega⟩ (fun u hu => ?_) (fun w9 hw => ?_)
  · have hc := hcd u hu
    have hu3 : u = 1 ∨ u = 2 ∨ u = 3 := Decidable.byContradiction (fun z => hc (by unfold cd3; (try simp only [not_or] at z); simp [z]))
    rcases hu3 with rfl | rfl | rfl
    · refine ⟨[], 13, 13, 10, [(2, 17, 15, 10), (3, 21, 17, 10)], rfl, by decide, fun q9 => ?_⟩
      refine z_astore X dL_setZone_13 (by rw [hml]; decide) rfl rfl ?_
      refine z_iconst (v := 1) X dL_setZone_15 (by decide) ?_
      refine zz.widen (k := 2) (n := 12) (by omega) (by omega) ?_
      exact z_iret X hr rfl (fun t hG hF _ => ⟨⟨1, ((V, L, N), f, ad), rfl, ⟨by rw [hu]; rfl, axt.rf N ad, fun _ => Nat.le_refl _⟩, hG⟩, hF⟩) dL_setZone_16
    · refine ⟨[(1, 13, 13, 10)], 17, 15, 10, [(3, 21, 17, 10)], rfl, by decide, fun q9 => ?_⟩
      refine z_astore X dL_setZone_17 (by rw [hml]; decide) rfl rfl ?_
      refine z_iconst (v := 2) X dL_setZone_19 (by decide) ?_
      refine zz.widen (k := 2) (n := 12) (by omega) (by omega) ?_
      exact z_iret X hr rfl (fun t hG hF _ => ⟨⟨2, ((V, L, N), f, ad), rfl, ⟨by rw [hu]; rfl, axt.rf N ad, fun _ => Nat.le_refl _⟩, hG⟩, hF⟩) dL_setZone_20
    · refine ⟨[(1, 13, 13, 10), (2, 17, 15, 10)], 21, 17, 10, [], rfl, by decide, fun q9 => ?_⟩
      refine z_astore X dL_setZone_21 (by rw [hml]; decide) rfl rfl ?_
      refine z_iconst (v := 3) X dL_setZone_23 (by decide) ?_
      refine zz.widen (k := 2) (n := 12) (by omega) (by omega) ?_
      exact z_iret X hr rfl (fun t hG hF _ => ⟨⟨3, ((V, L, N), f, ad), rfl, ⟨by rw [hu]; rfl, axt.rf N ad, fun _ => Nat.le_refl _⟩, hG⟩, hF⟩) dL_setZone_24
  · refine z_i2l X dL_setZone_8 ?_
    refine c_lastX X 0 (xs' := (q, .inl (dA 7, 1, .inr (.inl (vp_updL f 0 (w9.2).toInt64)))) :: xs) rfl (fun z => z.elim (fun y => absurd y (by decide)) (fun y => absurd y (by decide))) rfl dL_setZone_9 ?_
    refine z_goto (tgt := 25) X dL_setZone_10 (by decide) ?_
    refine z_iconst (v := 0) X dL_setZone_25 (by decide) ?_
    refine zz.widen (k := 2) (n := 12) (by omega) (by omega) ?_
    exact z_iret X hr rfl (fun t hG hF _ => ⟨⟨0, ((w9.1, L, N), vp_updL f 0 w9.2.toInt64, ad), rfl, ⟨by rw [hw.1]; rfl, axt.rf N ad, fun _ => Nat.le_refl _⟩, hG⟩, hF⟩) dL_setZone_26
-- setChannels
set_option maxRecDepth 100000 in
set_option maxHeartbeats 4000000 in
theorem cw_setChannels (l : Launch) {D : va_G} {dA : Nat → ClassId} {A : Nat → Prop} {n : Nat} (hst : l.stackTraces = false) (hA : ∀ q, n ≤ q → A q) {V : Rho} {L : Lst} {N : Cnt} {ad : Adr} {xs : va_W} {XC : String → State → State → Prop} (h11 : 0 < N 11) {q : Nat} {f : Nat → Int64} {a1 : Int32} {a2 : Int32} {a3 : Int32} {o : (Rho × Int32) ⊕ Nat} (hcd : ∀ e, o = .inr e → ¬ cd12 e = 0) (h : fc_setChannels V L N a1 a2 a3 = some o) : vx_Met l yL_setChannels (.codeWith yL_setChannels cL_setChannels 6 (some .int) (hdT [(1, 15, 13, 12), (2, 19, 15, 12)]) :: gT) ({ frames := 60, cells := 2, slots := 12, locals := 600 } : Room) (va_Pc [.ref (ad 11 0), .int a1, .int a2, .int a3, .ref q] (zBN D dA A n (cx D dA A V L N ad ((q, .inl (dA 7, 1, .inr (.inl f))) :: xs)))) (va_Qi (fun r (u : CW × (Nat → Int64) × Adr) => wR V L N f cd12 o = (u.1, u.2.1, r) ∧ axt N ad u.2.2 ∧ ∀ k, N k ≤ u.1.2.2 k) (fun u t => cx D dA A u.1.1 u.1.2.1 u.1.2.2 u.2.2 ((q, .inl (dA 7, 1, .inr (.inl u.2.1))) :: xs) t.heap) A) XC (2) (12) A := by
  refine z_metH (by decide) hA hst (Nat.le_of_ble_eq_true rfl) rfl rfl (fun p e s m below meth c X hNc hml hr hh => ?_)
  refine z_aload X dL_setChannels_0 rfl ?_
  refine z_iconst (v := 0) X dL_setChannels_2 (by decide) ?_
  refine z_aload_n X dL_setChannels_3 rfl rfl ?_
  refine z_iload_n X dL_setChannels_4 rfl rfl ?_
  refine z_iload_n X dL_setChannels_5 rfl rfl ?_
  refine z_iload_n X dL_setChannels_6 rfl rfl ?_
  refine z_xVc (As := [.int a1, .int a2, .int a3]) (rest := [.int 0, .ref q]) (nA := 3) (mc := 2) (ms := 12) (rm := ({ frames := 40, cells := 2, slots := 12, locals := 400 } : Room)) (S := Rho × Int32) (r0 := fun w9 => w9.2) (px := fun u => o = .inr u) (pu := fun w9 => o = .inl w9 ∧ True) (GX := cx D dA A V L N ad ((q, .inl (dA 7, 1, .inr (.inl f))) :: xs)) (G1 := fun w9 => cx D dA A w9.1 L N ad ((q, .inl (dA 7, 1, .inr (.inl f))) :: xs)) X hNc [(1, 15, 13, 12), (2, 19, 15, 12)] hh (by decide) (by
    intro z hz
    simp only [List.mem_cons, List.not_mem_nil, or_false] at hz
    rcases hz with rfl | rfl
    · exact g_315
    · exact g_316) (cc_setChannels l X.2.2.2.2.2.2.2.2 X.2.2.2.2.2.2.1 h11 h) g_436 g_437 g_438 g_1 g_439 hd_yX11_setChannels ⟨rfl, rfl, Nat.le_of_ble_eq_true rfl, Nat.le_of_ble_eq_true rfl⟩ rfl (fun _ hG => cx_recv X (k := 11) rfl rfl h11 hG) rfl (Nat.le_of_ble_eq_true rfl) dL_setChannels_7 ⟨by show _ ≤ 2; omega, by show _ ≤ 12; omega⟩ (fun u hu => ?_) (fun w9 hw => ?_)
  · have hc := hcd u hu
    have hu3 : u = 1 ∨ u = 2 := Decidable.byContradiction (fun z => hc (by unfold cd12; (try simp only [not_or] at z); simp [z]))
    rcases hu3 with rfl | rfl
    · refine ⟨[], 15, 13, 12, [(2, 19, 15, 12)], rfl, by decide, fun q9 => ?_⟩
      refine z_astore X dL_setChannels_15 (by rw [hml]; decide) rfl rfl ?_
      refine z_iconst (v := 1) X dL_setChannels_17 (by decide) ?_
      refine zz.widen (k := 2) (n := 12) (by omega) (by omega) ?_
      exact z_iret X hr rfl (fun t hG hF _ => ⟨⟨1, ((V, L, N), f, ad), rfl, ⟨by rw [hu]; rfl, axt.rf N ad, fun _ => Nat.le_refl _⟩, hG⟩, hF⟩) dL_setChannels_18
    · refine ⟨[(1, 15, 13, 12)], 19, 15, 12, [], rfl, by decide, fun q9 => ?_⟩
      refine z_astore X dL_setChannels_19 (by rw [hml]; decide) rfl rfl ?_
      refine z_iconst (v := 2) X dL_setChannels_21 (by decide) ?_
      refine zz.widen (k := 2) (n := 12) (by omega) (by omega) ?_
      exact z_iret X hr rfl (fun t hG hF _ => ⟨⟨2, ((V, L, N), f, ad), rfl, ⟨by rw [hu]; rfl, axt.rf N ad, fun _ => Nat.le_refl _⟩, hG⟩, hF⟩) dL_setChannels_22
  · refine z_i2l X dL_setChannels_10 ?_
    refine c_lastX X 0 (xs' := (q, .inl (dA 7, 1, .inr (.inl (vp_updL f 0 (w9.2).toInt64)))) :: xs) rfl (fun z => z.elim (fun y => absurd y (by decide)) (fun y => absurd y (by decide))) rfl dL_setChannels_11 ?_
    refine z_goto (tgt := 23) X dL_setChannels_12 (by decide) ?_
    refine z_iconst (v := 0) X dL_setChannels_23 (by decide) ?_
    refine zz.widen (k := 2) (n := 12) (by omega) (by omega) ?_
    exact z_iret X hr rfl (fun t hG hF _ => ⟨⟨0, ((w9.1, L, N), vp_updL f 0 w9.2.toInt64, ad), rfl, ⟨by rw [hw.1]; rfl, axt.rf N ad, fun _ => Nat.le_refl _⟩, hG⟩, hF⟩) dL_setChannels_24
-- setRate
set_option maxRecDepth 100000 in
set_option maxHeartbeats 4000000 in
theorem cw_setRate (l : Launch) {D : va_G} {dA : Nat → ClassId} {A : Nat → Prop} {n : Nat} (hst : l.stackTraces = false) (hA : ∀ q, n ≤ q → A q) {V : Rho} {L : Lst} {N : Cnt} {ad : Adr} {xs : va_W} {XC : String → State → State → Prop} (h11 : 0 < N 11) {q : Nat} {f : Nat → Int64} {a1 : Int32} {a2 : Int32} {a3 : Int32} {o : (CW × Int32) ⊕ Nat} (hcd : ∀ e, o = .inr e → ¬ cd2 e = 0) (h : fc_setRate V L N a1 a2 a3 = some o) : vx_Met l yL_setRate (.codeWith yL_setRate cL_setRate 6 (some .int) (hdT [(2, 15, 15, 12)]) :: gT) ({ frames := 220, cells := 2, slots := 912, locals := 2200 } : Room) (va_Pc [.ref (ad 11 0), .int a1, .int a2, .int a3, .ref q] (zBN D dA A n (cx D dA A V L N ad ((q, .inl (dA 7, 1, .inr (.inl f))) :: xs)))) (va_Qi (fun r (u : CW × (Nat → Int64) × Adr) => wW V L N f cd2 o = (u.1, u.2.1, r) ∧ axt N ad u.2.2 ∧ ∀ k, N k ≤ u.1.2.2 k) (fun u t => cx D dA A u.1.1 u.1.2.1 u.1.2.2 u.2.2 ((q, .inl (dA 7, 1, .inr (.inl u.2.1))) :: xs) t.heap) A) XC (2) (912) A := by
  refine z_metH (by decide) hA hst (Nat.le_of_ble_eq_true rfl) rfl rfl (fun p e s m below meth c X hNc hml hr hh => ?_)
  refine z_aload X dL_setRate_0 rfl ?_
  refine z_iconst (v := 0) X dL_setRate_2 (by decide) ?_
  refine z_aload_n X dL_setRate_3 rfl rfl ?_
  refine z_iload_n X dL_setRate_4 rfl rfl ?_
  refine z_iload_n X dL_setRate_5 rfl rfl ?_
  refine z_iload_n X dL_setRate_6 rfl rfl ?_
  refine z_xVc (As := [.int a1, .int a2, .int a3]) (rest := [.int 0, .ref q]) (nA := 3) (mc := 2) (ms := 912) (rm := ({ frames := 200, cells := 2, slots := 912, locals := 2000 } : Room)) (S := (CW × Int32) × Adr) (r0 := fun w9 => w9.1.2) (px := fun u => o = .inr u) (pu := fun w9 => o = .inl w9.1 ∧ axt N ad w9.2 ∧ (∀ k, N k ≤ w9.1.1.2.2 k)) (GX := cx D dA A V L N ad ((q, .inl (dA 7, 1, .inr (.inl f))) :: xs)) (G1 := fun w9 => cx D dA A w9.1.1.1 w9.1.1.2.1 w9.1.1.2.2 w9.2 ((q, .inl (dA 7, 1, .inr (.inl f))) :: xs)) X hNc [(2, 15, 15, 12)] hh (by decide) (by
    intro z hz
    simp only [List.mem_cons, List.not_mem_nil, or_false] at hz
    subst hz; exact g_316) (cc_setRate l X.2.2.2.2.2.2.2.2 X.2.2.2.2.2.2.1 h11 h) g_448 g_449 g_450 g_1 g_451 hd_yX11_setRate ⟨rfl, rfl, Nat.le_of_ble_eq_true rfl, Nat.le_of_ble_eq_true rfl⟩ rfl (fun _ hG => cx_recv X (k := 11) rfl rfl h11 hG) rfl (Nat.le_of_ble_eq_true rfl) dL_setRate_7 ⟨by show _ ≤ 2; omega, by show _ ≤ 912; omega⟩ (fun u hu => ?_) (fun w9 hw => ?_)
  · have hc := hcd u hu
    have hu3 : u = 2 := Decidable.byContradiction (fun z => hc (by unfold cd2; (try simp only [not_or] at z); simp [z]))
    subst hu3
    refine ⟨[], 15, 15, 12, [], rfl, by decide, fun q9 => ?_⟩
    refine z_astore X dL_setRate_15 (by rw [hml]; decide) rfl rfl ?_
    refine z_iconst (v := 1) X dL_setRate_17 (by decide) ?_
    refine zz.widen (k := 2) (n := 912) (by omega) (by omega) ?_
    exact z_iret X hr rfl (fun t hG hF _ => ⟨⟨1, ((V, L, N), f, ad), rfl, ⟨by rw [hu]; rfl, axt.rf N ad, fun _ => Nat.le_refl _⟩, hG⟩, hF⟩) dL_setRate_18
  · refine z_i2l X dL_setRate_10 ?_
    refine c_lastX X 0 (xs' := (q, .inl (dA 7, 1, .inr (.inl (vp_updL f 0 (w9.1.2).toInt64)))) :: xs) rfl (fun z => z.elim (fun y => absurd y (by decide)) (fun y => absurd y (by decide))) rfl dL_setRate_11 ?_
    refine z_goto (tgt := 19) X dL_setRate_12 (by decide) ?_
    refine z_iconst (v := 0) X dL_setRate_19 (by decide) ?_
    refine zz.widen (k := 2) (n := 912) (by omega) (by omega) ?_
    exact z_iret X hr rfl (fun t hG hF _ => ⟨⟨0, (w9.1.1, vp_updL f 0 w9.1.2.toInt64, w9.2), rfl, ⟨by rw [hw.1]; rfl, hw.2.1, hw.2.2⟩, hG⟩, hF⟩) dL_setRate_20
-- setSlice
set_option maxRecDepth 100000 in
set_option maxHeartbeats 4000000 in
theorem cw_setSlice (l : Launch) {D : va_G} {dA : Nat → ClassId} {A : Nat → Prop} {n : Nat} (hst : l.stackTraces = false) (hA : ∀ q, n ≤ q → A q) {V : Rho} {L : Lst} {N : Cnt} {ad : Adr} {xs : va_W} {XC : String → State → State → Prop} (h11 : 0 < N 11) {q : Nat} {f : Nat → Int64} {a1 : Int32} {o : (Rho × Int32) ⊕ Nat} (hcd : ∀ e, o = .inr e → ¬ cd2 e = 0) (h : fc_setSlice V L N a1 = some o) : vx_Met l yL_setSlice (.codeWith yL_setSlice cL_setSlice 4 (some .int) (hdT [(2, 12, 15, 9)]) :: gT) ({ frames := 60, cells := 1, slots := 6, locals := 600 } : Room) (va_Pc [.ref (ad 11 0), .int a1, .ref q] (zBN D dA A n (cx D dA A V L N ad ((q, .inl (dA 7, 1, .inr (.inl f))) :: xs)))) (va_Qi (fun r (u : CW × (Nat → Int64) × Adr) => wR V L N f cd2 o = (u.1, u.2.1, r) ∧ axt N ad u.2.2 ∧ ∀ k, N k ≤ u.1.2.2 k) (fun u t => cx D dA A u.1.1 u.1.2.1 u.1.2.2 u.2.2 ((q, .inl (dA 7, 1, .inr (.inl u.2.1))) :: xs) t.heap) A) XC (1) (6) A := by
  refine z_metH (by decide) hA hst (Nat.le_of_ble_eq_true rfl) rfl rfl (fun p e s m below meth c X hNc hml hr hh => ?_)
  refine z_aload_n X dL_setSlice_0 rfl rfl ?_
  refine z_iconst (v := 0) X dL_setSlice_1 (by decide) ?_
  refine z_aload_n X dL_setSlice_2 rfl rfl ?_
  refine z_iload_n X dL_setSlice_3 rfl rfl ?_
  refine z_xVc (As := [.int a1]) (rest := [.int 0, .ref q]) (nA := 1) (mc := 1) (ms := 6) (rm := ({ frames := 40, cells := 1, slots := 6, locals := 400 } : Room)) (S := Rho × Int32) (r0 := fun w9 => w9.2) (px := fun u => o = .inr u) (pu := fun w9 => o = .inl w9 ∧ True) (GX := cx D dA A V L N ad ((q, .inl (dA 7, 1, .inr (.inl f))) :: xs)) (G1 := fun w9 => cx D dA A w9.1 L N ad ((q, .inl (dA 7, 1, .inr (.inl f))) :: xs)) X hNc [(2, 12, 15, 9)] hh (by decide) (by
    intro z hz
    simp only [List.mem_cons, List.not_mem_nil, or_false] at hz
    subst hz; exact g_316) (cc_setSlice l X.2.2.2.2.2.2.2.2 X.2.2.2.2.2.2.1 h11 h) g_465 g_466 g_467 g_1 g_468 hd_yX11_setSlice ⟨rfl, rfl, Nat.le_of_ble_eq_true rfl, Nat.le_of_ble_eq_true rfl⟩ rfl (fun _ hG => cx_recv X (k := 11) rfl rfl h11 hG) rfl (Nat.le_of_ble_eq_true rfl) dL_setSlice_4 ⟨by show _ ≤ 1; omega, by show _ ≤ 6; omega⟩ (fun u hu => ?_) (fun w9 hw => ?_)
  · have hc := hcd u hu
    have hu3 : u = 2 := Decidable.byContradiction (fun z => hc (by unfold cd2; (try simp only [not_or] at z); simp [z]))
    subst hu3
    refine ⟨[], 12, 15, 9, [], rfl, by decide, fun q9 => ?_⟩
    refine z_astore_n X dL_setSlice_12 rfl (by rw [hml]; decide) rfl rfl ?_
    refine z_iconst (v := 1) X dL_setSlice_13 (by decide) ?_
    refine zz.widen (k := 1) (n := 6) (by omega) (by omega) ?_
    exact z_iret X hr rfl (fun t hG hF _ => ⟨⟨1, ((V, L, N), f, ad), rfl, ⟨by rw [hu]; rfl, axt.rf N ad, fun _ => Nat.le_refl _⟩, hG⟩, hF⟩) dL_setSlice_14
  · refine z_i2l X dL_setSlice_7 ?_
    refine c_lastX X 0 (xs' := (q, .inl (dA 7, 1, .inr (.inl (vp_updL f 0 (w9.2).toInt64)))) :: xs) rfl (fun z => z.elim (fun y => absurd y (by decide)) (fun y => absurd y (by decide))) rfl dL_setSlice_8 ?_
    refine z_goto (tgt := 15) X dL_setSlice_9 (by decide) ?_
    refine z_iconst (v := 0) X dL_setSlice_15 (by decide) ?_
    refine zz.widen (k := 1) (n := 6) (by omega) (by omega) ?_
    exact z_iret X hr rfl (fun t hG hF _ => ⟨⟨0, ((w9.1, L, N), vp_updL f 0 w9.2.toInt64, ad), rfl, ⟨by rw [hw.1]; rfl, axt.rf N ad, fun _ => Nat.le_refl _⟩, hG⟩, hF⟩) dL_setSlice_16
-- setCap
set_option maxRecDepth 100000 in
set_option maxHeartbeats 4000000 in
theorem cw_setCap (l : Launch) {D : va_G} {dA : Nat → ClassId} {A : Nat → Prop} {n : Nat} (hst : l.stackTraces = false) (hA : ∀ q, n ≤ q → A q) {V : Rho} {L : Lst} {N : Cnt} {ad : Adr} {xs : va_W} {XC : String → State → State → Prop} (h11 : 0 < N 11) {q : Nat} {f : Nat → Int64} {a1 : Int32} {a2 : Int32} {o : (Rho × Int32) ⊕ Nat} (hcd : ∀ e, o = .inr e → ¬ cd12 e = 0) (h : fc_setCap V L N a1 a2 = some o) : vx_Met l yL_setCap (.codeWith yL_setCap cL_setCap 5 (some .int) (hdT [(1, 13, 13, 10), (2, 17, 15, 10)]) :: gT) ({ frames := 60, cells := 2, slots := 12, locals := 600 } : Room) (va_Pc [.ref (ad 11 0), .int a1, .int a2, .ref q] (zBN D dA A n (cx D dA A V L N ad ((q, .inl (dA 7, 1, .inr (.inl f))) :: xs)))) (va_Qi (fun r (u : CW × (Nat → Int64) × Adr) => wR V L N f cd12 o = (u.1, u.2.1, r) ∧ axt N ad u.2.2 ∧ ∀ k, N k ≤ u.1.2.2 k) (fun u t => cx D dA A u.1.1 u.1.2.1 u.1.2.2 u.2.2 ((q, .inl (dA 7, 1, .inr (.inl u.2.1))) :: xs) t.heap) A) XC (2) (12) A := by
  refine z_metH (by decide) hA hst (Nat.le_of_ble_eq_true rfl) rfl rfl (fun p e s m below meth c X hNc hml hr hh => ?_)
  refine z_aload_n X dL_setCap_0 rfl rfl ?_
  refine z_iconst (v := 0) X dL_setCap_1 (by decide) ?_
  refine z_aload_n X dL_setCap_2 rfl rfl ?_
  refine z_iload_n X dL_setCap_3 rfl rfl ?_
  refine z_iload_n X dL_setCap_4 rfl rfl ?_
  refine z_xVc (As := [.int a1, .int a2]) (rest := [.int 0, .ref q]) (nA := 2) (mc := 2) (ms := 12) (rm := ({ frames := 40, cells := 2, slots := 12, locals := 400 } : Room)) (S := Rho × Int32) (r0 := fun w9 => w9.2) (px := fun u => o = .inr u) (pu := fun w9 => o = .inl w9 ∧ True) (GX := cx D dA A V L N ad ((q, .inl (dA 7, 1, .inr (.inl f))) :: xs)) (G1 := fun w9 => cx D dA A w9.1 L N ad ((q, .inl (dA 7, 1, .inr (.inl f))) :: xs)) X hNc [(1, 13, 13, 10), (2, 17, 15, 10)] hh (by decide) (by
    intro z hz
    simp only [List.mem_cons, List.not_mem_nil, or_false] at hz
    rcases hz with rfl | rfl
    · exact g_315
    · exact g_316) (cc_setCap l X.2.2.2.2.2.2.2.2 X.2.2.2.2.2.2.1 h11 h) g_473 g_474 g_475 g_1 g_476 hd_yX11_setCap ⟨rfl, rfl, Nat.le_of_ble_eq_true rfl, Nat.le_of_ble_eq_true rfl⟩ rfl (fun _ hG => cx_recv X (k := 11) rfl rfl h11 hG) rfl (Nat.le_of_ble_eq_true rfl) dL_setCap_5 ⟨by show _ ≤ 2; omega, by show _ ≤ 12; omega⟩ (fun u hu => ?_) (fun w9 hw => ?_)
  · have hc := hcd u hu
    have hu3 : u = 1 ∨ u = 2 := Decidable.byContradiction (fun z => hc (by unfold cd12; (try simp only [not_or] at z); simp [z]))
    rcases hu3 with rfl | rfl
    · refine ⟨[], 13, 13, 10, [(2, 17, 15, 10)], rfl, by decide, fun q9 => ?_⟩
      refine z_astore X dL_setCap_13 (by rw [hml]; decide) rfl rfl ?_
      refine z_iconst (v := 1) X dL_setCap_15 (by decide) ?_
      refine zz.widen (k := 2) (n := 12) (by omega) (by omega) ?_
      exact z_iret X hr rfl (fun t hG hF _ => ⟨⟨1, ((V, L, N), f, ad), rfl, ⟨by rw [hu]; rfl, axt.rf N ad, fun _ => Nat.le_refl _⟩, hG⟩, hF⟩) dL_setCap_16
    · refine ⟨[(1, 13, 13, 10)], 17, 15, 10, [], rfl, by decide, fun q9 => ?_⟩
      refine z_astore X dL_setCap_17 (by rw [hml]; decide) rfl rfl ?_
      refine z_iconst (v := 2) X dL_setCap_19 (by decide) ?_
      refine zz.widen (k := 2) (n := 12) (by omega) (by omega) ?_
      exact z_iret X hr rfl (fun t hG hF _ => ⟨⟨2, ((V, L, N), f, ad), rfl, ⟨by rw [hu]; rfl, axt.rf N ad, fun _ => Nat.le_refl _⟩, hG⟩, hF⟩) dL_setCap_20
  · refine z_i2l X dL_setCap_8 ?_
    refine c_lastX X 0 (xs' := (q, .inl (dA 7, 1, .inr (.inl (vp_updL f 0 (w9.2).toInt64)))) :: xs) rfl (fun z => z.elim (fun y => absurd y (by decide)) (fun y => absurd y (by decide))) rfl dL_setCap_9 ?_
    refine z_goto (tgt := 21) X dL_setCap_10 (by decide) ?_
    refine z_iconst (v := 0) X dL_setCap_21 (by decide) ?_
    refine zz.widen (k := 2) (n := 12) (by omega) (by omega) ?_
    exact z_iret X hr rfl (fun t hG hF _ => ⟨⟨0, ((w9.1, L, N), vp_updL f 0 w9.2.toInt64, ad), rfl, ⟨by rw [hw.1]; rfl, axt.rf N ad, fun _ => Nat.le_refl _⟩, hG⟩, hF⟩) dL_setCap_22
-- setWallet
set_option maxRecDepth 100000 in
set_option maxHeartbeats 4000000 in
theorem cw_setWallet (l : Launch) {D : va_G} {dA : Nat → ClassId} {A : Nat → Prop} {n : Nat} (hst : l.stackTraces = false) (hA : ∀ q, n ≤ q → A q) {V : Rho} {L : Lst} {N : Cnt} {ad : Adr} {xs : va_W} {XC : String → State → State → Prop} (h11 : 0 < N 11) {q : Nat} {f : Nat → Int64} {a1 : Int32} {a2 : Int32} {o : (Rho × Int32) ⊕ Nat} (hcd : ∀ e, o = .inr e → ¬ cd13 e = 0) (h : fc_setWallet V L N a1 a2 = some o) : vx_Met l yL_setWallet (.codeWith yL_setWallet cL_setWallet 5 (some .int) (hdT [(1, 13, 13, 10), (3, 17, 17, 10)]) :: gT) ({ frames := 60, cells := 3, slots := 18, locals := 600 } : Room) (va_Pc [.ref (ad 11 0), .int a1, .int a2, .ref q] (zBN D dA A n (cx D dA A V L N ad ((q, .inl (dA 7, 1, .inr (.inl f))) :: xs)))) (va_Qi (fun r (u : CW × (Nat → Int64) × Adr) => wR V L N f cd13 o = (u.1, u.2.1, r) ∧ axt N ad u.2.2 ∧ ∀ k, N k ≤ u.1.2.2 k) (fun u t => cx D dA A u.1.1 u.1.2.1 u.1.2.2 u.2.2 ((q, .inl (dA 7, 1, .inr (.inl u.2.1))) :: xs) t.heap) A) XC (3) (18) A := by
  refine z_metH (by decide) hA hst (Nat.le_of_ble_eq_true rfl) rfl rfl (fun p e s m below meth c X hNc hml hr hh => ?_)
  refine z_aload_n X dL_setWallet_0 rfl rfl ?_
  refine z_iconst (v := 0) X dL_setWallet_1 (by decide) ?_
  refine z_aload_n X dL_setWallet_2 rfl rfl ?_
  refine z_iload_n X dL_setWallet_3 rfl rfl ?_
  refine z_iload_n X dL_setWallet_4 rfl rfl ?_
  refine z_xVc (As := [.int a1, .int a2]) (rest := [.int 0, .ref q]) (nA := 2) (mc := 3) (ms := 18) (rm := ({ frames := 40, cells := 3, slots := 18, locals := 400 } : Room)) (S := Rho × Int32) (r0 := fun w9 => w9.2) (px := fun u => o = .inr u) (pu := fun w9 => o = .inl w9 ∧ True) (GX := cx D dA A V L N ad ((q, .inl (dA 7, 1, .inr (.inl f))) :: xs)) (G1 := fun w9 => cx D dA A w9.1 L N ad ((q, .inl (dA 7, 1, .inr (.inl f))) :: xs)) X hNc [(1, 13, 13, 10), (3, 17, 17, 10)] hh (by decide) (by
    intro z hz
    simp only [List.mem_cons, List.not_mem_nil, or_false] at hz
    rcases hz with rfl | rfl
    · exact g_315
    · exact g_317) (cc_setWallet l X.2.2.2.2.2.2.2.2 X.2.2.2.2.2.2.1 h11 h) g_487 g_488 g_489 g_1 g_490 hd_yX11_setWallet ⟨rfl, rfl, Nat.le_of_ble_eq_true rfl, Nat.le_of_ble_eq_true rfl⟩ rfl (fun _ hG => cx_recv X (k := 11) rfl rfl h11 hG) rfl (Nat.le_of_ble_eq_true rfl) dL_setWallet_5 ⟨by show _ ≤ 3; omega, by show _ ≤ 18; omega⟩ (fun u hu => ?_) (fun w9 hw => ?_)
  · have hc := hcd u hu
    have hu3 : u = 1 ∨ u = 3 := Decidable.byContradiction (fun z => hc (by unfold cd13; (try simp only [not_or] at z); simp [z]))
    rcases hu3 with rfl | rfl
    · refine ⟨[], 13, 13, 10, [(3, 17, 17, 10)], rfl, by decide, fun q9 => ?_⟩
      refine z_astore X dL_setWallet_13 (by rw [hml]; decide) rfl rfl ?_
      refine z_iconst (v := 1) X dL_setWallet_15 (by decide) ?_
      refine zz.widen (k := 3) (n := 18) (by omega) (by omega) ?_
      exact z_iret X hr rfl (fun t hG hF _ => ⟨⟨1, ((V, L, N), f, ad), rfl, ⟨by rw [hu]; rfl, axt.rf N ad, fun _ => Nat.le_refl _⟩, hG⟩, hF⟩) dL_setWallet_16
    · refine ⟨[(1, 13, 13, 10)], 17, 17, 10, [], rfl, by decide, fun q9 => ?_⟩
      refine z_astore X dL_setWallet_17 (by rw [hml]; decide) rfl rfl ?_
      refine z_iconst (v := 2) X dL_setWallet_19 (by decide) ?_
      refine zz.widen (k := 3) (n := 18) (by omega) (by omega) ?_
      exact z_iret X hr rfl (fun t hG hF _ => ⟨⟨2, ((V, L, N), f, ad), rfl, ⟨by rw [hu]; rfl, axt.rf N ad, fun _ => Nat.le_refl _⟩, hG⟩, hF⟩) dL_setWallet_20
  · refine z_i2l X dL_setWallet_8 ?_
    refine c_lastX X 0 (xs' := (q, .inl (dA 7, 1, .inr (.inl (vp_updL f 0 (w9.2).toInt64)))) :: xs) rfl (fun z => z.elim (fun y => absurd y (by decide)) (fun y => absurd y (by decide))) rfl dL_setWallet_9 ?_
    refine z_goto (tgt := 21) X dL_setWallet_10 (by decide) ?_
    refine z_iconst (v := 0) X dL_setWallet_21 (by decide) ?_
    refine zz.widen (k := 3) (n := 18) (by omega) (by omega) ?_
    exact z_iret X hr rfl (fun t hG hF _ => ⟨⟨0, ((w9.1, L, N), vp_updL f 0 w9.2.toInt64, ad), rfl, ⟨by rw [hw.1]; rfl, axt.rf N ad, fun _ => Nat.le_refl _⟩, hG⟩, hF⟩) dL_setWallet_22
-- top
set_option maxRecDepth 100000 in
set_option maxHeartbeats 4000000 in
theorem cw_top (l : Launch) {D : va_G} {dA : Nat → ClassId} {A : Nat → Prop} {n : Nat} (hst : l.stackTraces = false) (hA : ∀ q, n ≤ q → A q) {V : Rho} {L : Lst} {N : Cnt} {ad : Adr} {xs : va_W} {XC : String → State → State → Prop} (h11 : 0 < N 11) {q : Nat} {f : Nat → Int64} {a1 : Int32} {a2 : Int32} {o : (Rho × Int32) ⊕ Nat} (hcd : ∀ e, o = .inr e → ¬ cd12 e = 0) (h : fc_top V L N a1 a2 = some o) : vx_Met l yL_top (.codeWith yL_top cL_top 5 (some .int) (hdT [(1, 13, 13, 10), (2, 17, 15, 10)]) :: gT) ({ frames := 60, cells := 2, slots := 12, locals := 600 } : Room) (va_Pc [.ref (ad 11 0), .int a1, .int a2, .ref q] (zBN D dA A n (cx D dA A V L N ad ((q, .inl (dA 7, 1, .inr (.inl f))) :: xs)))) (va_Qi (fun r (u : CW × (Nat → Int64) × Adr) => wR V L N f cd12 o = (u.1, u.2.1, r) ∧ axt N ad u.2.2 ∧ ∀ k, N k ≤ u.1.2.2 k) (fun u t => cx D dA A u.1.1 u.1.2.1 u.1.2.2 u.2.2 ((q, .inl (dA 7, 1, .inr (.inl u.2.1))) :: xs) t.heap) A) XC (2) (12) A := by
  refine z_metH (by decide) hA hst (Nat.le_of_ble_eq_true rfl) rfl rfl (fun p e s m below meth c X hNc hml hr hh => ?_)
  refine z_aload_n X dL_top_0 rfl rfl ?_
  refine z_iconst (v := 0) X dL_top_1 (by decide) ?_
  refine z_aload_n X dL_top_2 rfl rfl ?_
  refine z_iload_n X dL_top_3 rfl rfl ?_
  refine z_iload_n X dL_top_4 rfl rfl ?_
  refine z_xVc (As := [.int a1, .int a2]) (rest := [.int 0, .ref q]) (nA := 2) (mc := 2) (ms := 12) (rm := ({ frames := 40, cells := 2, slots := 12, locals := 400 } : Room)) (S := Rho × Int32) (r0 := fun w9 => w9.2) (px := fun u => o = .inr u) (pu := fun w9 => o = .inl w9 ∧ True) (GX := cx D dA A V L N ad ((q, .inl (dA 7, 1, .inr (.inl f))) :: xs)) (G1 := fun w9 => cx D dA A w9.1 L N ad ((q, .inl (dA 7, 1, .inr (.inl f))) :: xs)) X hNc [(1, 13, 13, 10), (2, 17, 15, 10)] hh (by decide) (by
    intro z hz
    simp only [List.mem_cons, List.not_mem_nil, or_false] at hz
    rcases hz with rfl | rfl
    · exact g_315
    · exact g_316) (cc_top l X.2.2.2.2.2.2.2.2 X.2.2.2.2.2.2.1 h11 h) g_500 g_501 g_502 g_1 g_503 hd_yX11_top ⟨rfl, rfl, Nat.le_of_ble_eq_true rfl, Nat.le_of_ble_eq_true rfl⟩ rfl (fun _ hG => cx_recv X (k := 11) rfl rfl h11 hG) rfl (Nat.le_of_ble_eq_true rfl) dL_top_5 ⟨by show _ ≤ 2; omega, by show _ ≤ 12; omega⟩ (fun u hu => ?_) (fun w9 hw => ?_)
  · have hc := hcd u hu
    have hu3 : u = 1 ∨ u = 2 := Decidable.byContradiction (fun z => hc (by unfold cd12; (try simp only [not_or] at z); simp [z]))
    rcases hu3 with rfl | rfl
    · refine ⟨[], 13, 13, 10, [(2, 17, 15, 10)], rfl, by decide, fun q9 => ?_⟩
      refine z_astore X dL_top_13 (by rw [hml]; decide) rfl rfl ?_
      refine z_iconst (v := 1) X dL_top_15 (by decide) ?_
      refine zz.widen (k := 2) (n := 12) (by omega) (by omega) ?_
      exact z_iret X hr rfl (fun t hG hF _ => ⟨⟨1, ((V, L, N), f, ad), rfl, ⟨by rw [hu]; rfl, axt.rf N ad, fun _ => Nat.le_refl _⟩, hG⟩, hF⟩) dL_top_16
    · refine ⟨[(1, 13, 13, 10)], 17, 15, 10, [], rfl, by decide, fun q9 => ?_⟩
      refine z_astore X dL_top_17 (by rw [hml]; decide) rfl rfl ?_
      refine z_iconst (v := 2) X dL_top_19 (by decide) ?_
      refine zz.widen (k := 2) (n := 12) (by omega) (by omega) ?_
      exact z_iret X hr rfl (fun t hG hF _ => ⟨⟨2, ((V, L, N), f, ad), rfl, ⟨by rw [hu]; rfl, axt.rf N ad, fun _ => Nat.le_refl _⟩, hG⟩, hF⟩) dL_top_20
  · refine z_i2l X dL_top_8 ?_
    refine c_lastX X 0 (xs' := (q, .inl (dA 7, 1, .inr (.inl (vp_updL f 0 (w9.2).toInt64)))) :: xs) rfl (fun z => z.elim (fun y => absurd y (by decide)) (fun y => absurd y (by decide))) rfl dL_top_9 ?_
    refine z_goto (tgt := 21) X dL_top_10 (by decide) ?_
    refine z_iconst (v := 0) X dL_top_21 (by decide) ?_
    refine zz.widen (k := 2) (n := 12) (by omega) (by omega) ?_
    exact z_iret X hr rfl (fun t hG hF _ => ⟨⟨0, ((w9.1, L, N), vp_updL f 0 w9.2.toInt64, ad), rfl, ⟨by rw [hw.1]; rfl, axt.rf N ad, fun _ => Nat.le_refl _⟩, hG⟩, hF⟩) dL_top_22
-- give
set_option maxRecDepth 100000 in
set_option maxHeartbeats 4000000 in
theorem cw_give (l : Launch) {D : va_G} {dA : Nat → ClassId} {A : Nat → Prop} {n : Nat} (hst : l.stackTraces = false) (hA : ∀ q, n ≤ q → A q) {V : Rho} {L : Lst} {N : Cnt} {ad : Adr} {xs : va_W} {XC : String → State → State → Prop} (h11 : 0 < N 11) {q : Nat} {f : Nat → Int64} {a1 : Int32} {a2 : Int32} {a3 : Int32} {o : (Rho × Int32) ⊕ Nat} (hcd : ∀ e, o = .inr e → ¬ cd3 e = 0) (h : fc_give V L N a1 a2 a3 = some o) : vx_Met l yL_give (.codeWith yL_give cL_give 6 (some .int) (hdT [(1, 15, 13, 12), (2, 19, 15, 12), (3, 23, 17, 12)]) :: gT) ({ frames := 60, cells := 3, slots := 18, locals := 600 } : Room) (va_Pc [.ref (ad 11 0), .int a1, .int a2, .int a3, .ref q] (zBN D dA A n (cx D dA A V L N ad ((q, .inl (dA 7, 1, .inr (.inl f))) :: xs)))) (va_Qi (fun r (u : CW × (Nat → Int64) × Adr) => wR V L N f cd3 o = (u.1, u.2.1, r) ∧ axt N ad u.2.2 ∧ ∀ k, N k ≤ u.1.2.2 k) (fun u t => cx D dA A u.1.1 u.1.2.1 u.1.2.2 u.2.2 ((q, .inl (dA 7, 1, .inr (.inl u.2.1))) :: xs) t.heap) A) XC (3) (18) A := by
  refine z_metH (by decide) hA hst (Nat.le_of_ble_eq_true rfl) rfl rfl (fun p e s m below meth c X hNc hml hr hh => ?_)
  refine z_aload X dL_give_0 rfl ?_
  refine z_iconst (v := 0) X dL_give_2 (by decide) ?_
  refine z_aload_n X dL_give_3 rfl rfl ?_
  refine z_iload_n X dL_give_4 rfl rfl ?_
  refine z_iload_n X dL_give_5 rfl rfl ?_
  refine z_iload_n X dL_give_6 rfl rfl ?_
  refine z_xVc (As := [.int a1, .int a2, .int a3]) (rest := [.int 0, .ref q]) (nA := 3) (mc := 3) (ms := 18) (rm := ({ frames := 40, cells := 3, slots := 18, locals := 400 } : Room)) (S := Rho × Int32) (r0 := fun w9 => w9.2) (px := fun u => o = .inr u) (pu := fun w9 => o = .inl w9 ∧ True) (GX := cx D dA A V L N ad ((q, .inl (dA 7, 1, .inr (.inl f))) :: xs)) (G1 := fun w9 => cx D dA A w9.1 L N ad ((q, .inl (dA 7, 1, .inr (.inl f))) :: xs)) X hNc [(1, 15, 13, 12), (2, 19, 15, 12), (3, 23, 17, 12)] hh (by decide) (by
    intro z hz
    simp only [List.mem_cons, List.not_mem_nil, or_false] at hz
    rcases hz with rfl | rfl | rfl
    · exact g_315
    · exact g_316
    · exact g_317) (cc_give l X.2.2.2.2.2.2.2.2 X.2.2.2.2.2.2.1 h11 h) g_508 g_509 g_510 g_1 g_511 hd_yX11_give ⟨rfl, rfl, Nat.le_of_ble_eq_true rfl, Nat.le_of_ble_eq_true rfl⟩ rfl (fun _ hG => cx_recv X (k := 11) rfl rfl h11 hG) rfl (Nat.le_of_ble_eq_true rfl) dL_give_7 ⟨by show _ ≤ 3; omega, by show _ ≤ 18; omega⟩ (fun u hu => ?_) (fun w9 hw => ?_)
  · have hc := hcd u hu
    have hu3 : u = 1 ∨ u = 2 ∨ u = 3 := Decidable.byContradiction (fun z => hc (by unfold cd3; (try simp only [not_or] at z); simp [z]))
    rcases hu3 with rfl | rfl | rfl
    · refine ⟨[], 15, 13, 12, [(2, 19, 15, 12), (3, 23, 17, 12)], rfl, by decide, fun q9 => ?_⟩
      refine z_astore X dL_give_15 (by rw [hml]; decide) rfl rfl ?_
      refine z_iconst (v := 1) X dL_give_17 (by decide) ?_
      refine zz.widen (k := 3) (n := 18) (by omega) (by omega) ?_
      exact z_iret X hr rfl (fun t hG hF _ => ⟨⟨1, ((V, L, N), f, ad), rfl, ⟨by rw [hu]; rfl, axt.rf N ad, fun _ => Nat.le_refl _⟩, hG⟩, hF⟩) dL_give_18
    · refine ⟨[(1, 15, 13, 12)], 19, 15, 12, [(3, 23, 17, 12)], rfl, by decide, fun q9 => ?_⟩
      refine z_astore X dL_give_19 (by rw [hml]; decide) rfl rfl ?_
      refine z_iconst (v := 2) X dL_give_21 (by decide) ?_
      refine zz.widen (k := 3) (n := 18) (by omega) (by omega) ?_
      exact z_iret X hr rfl (fun t hG hF _ => ⟨⟨2, ((V, L, N), f, ad), rfl, ⟨by rw [hu]; rfl, axt.rf N ad, fun _ => Nat.le_refl _⟩, hG⟩, hF⟩) dL_give_22
    · refine ⟨[(1, 15, 13, 12), (2, 19, 15, 12)], 23, 17, 12, [], rfl, by decide, fun q9 => ?_⟩
      refine z_astore X dL_give_23 (by rw [hml]; decide) rfl rfl ?_
      refine z_iconst (v := 3) X dL_give_25 (by decide) ?_
      refine zz.widen (k := 3) (n := 18) (by omega) (by omega) ?_
      exact z_iret X hr rfl (fun t hG hF _ => ⟨⟨3, ((V, L, N), f, ad), rfl, ⟨by rw [hu]; rfl, axt.rf N ad, fun _ => Nat.le_refl _⟩, hG⟩, hF⟩) dL_give_26
  · refine z_i2l X dL_give_10 ?_
    refine c_lastX X 0 (xs' := (q, .inl (dA 7, 1, .inr (.inl (vp_updL f 0 (w9.2).toInt64)))) :: xs) rfl (fun z => z.elim (fun y => absurd y (by decide)) (fun y => absurd y (by decide))) rfl dL_give_11 ?_
    refine z_goto (tgt := 27) X dL_give_12 (by decide) ?_
    refine z_iconst (v := 0) X dL_give_27 (by decide) ?_
    refine zz.widen (k := 3) (n := 18) (by omega) (by omega) ?_
    exact z_iret X hr rfl (fun t hG hF _ => ⟨⟨0, ((w9.1, L, N), vp_updL f 0 w9.2.toInt64, ad), rfl, ⟨by rw [hw.1]; rfl, axt.rf N ad, fun _ => Nat.le_refl _⟩, hG⟩, hF⟩) dL_give_28
-- buy
set_option maxRecDepth 100000 in
set_option maxHeartbeats 4000000 in
theorem cw_buy (l : Launch) {D : va_G} {dA : Nat → ClassId} {A : Nat → Prop} {n : Nat} (hst : l.stackTraces = false) (hA : ∀ q, n ≤ q → A q) {V : Rho} {L : Lst} {N : Cnt} {ad : Adr} {xs : va_W} {XC : String → State → State → Prop} (h11 : 0 < N 11) {q : Nat} {f : Nat → Int64} {a1 : Int32} {a2 : Int32} {a3 : Int32} {a4 : Int32} {a5 : Int32} {a6 : Int32} {o : (CW × Int32) ⊕ Nat} (hcd : ∀ e, o = .inr e → ¬ cd3 e = 0) (h : fc_buy V L N a1 a2 a3 a4 a5 a6 = some o) : vx_Met l yL_buy (.codeWith yL_buy cL_buy 9 (some .int) (hdT [(1, 21, 13, 18), (2, 25, 15, 18), (3, 29, 17, 18)]) :: gT) ({ frames := 220, cells := 4, slots := 3030, locals := 2200 } : Room) (va_Pc [.ref (ad 11 0), .int a1, .int a2, .int a3, .int a4, .int a5, .int a6, .ref q] (zBN D dA A n (cx D dA A V L N ad ((q, .inl (dA 7, 1, .inr (.inl f))) :: xs)))) (va_Qi (fun r (u : CW × (Nat → Int64) × Adr) => wW V L N f cd3 o = (u.1, u.2.1, r) ∧ axt N ad u.2.2 ∧ ∀ k, N k ≤ u.1.2.2 k) (fun u t => cx D dA A u.1.1 u.1.2.1 u.1.2.2 u.2.2 ((q, .inl (dA 7, 1, .inr (.inl u.2.1))) :: xs) t.heap) A) XC (4) (3030) A := by
  refine z_metH (by decide) hA hst (Nat.le_of_ble_eq_true rfl) rfl rfl (fun p e s m below meth c X hNc hml hr hh => ?_)
  refine z_aload X dL_buy_0 rfl ?_
  refine z_iconst (v := 0) X dL_buy_2 (by decide) ?_
  refine z_aload_n X dL_buy_3 rfl rfl ?_
  refine z_iload_n X dL_buy_4 rfl rfl ?_
  refine z_iload_n X dL_buy_5 rfl rfl ?_
  refine z_iload_n X dL_buy_6 rfl rfl ?_
  refine z_iload X dL_buy_7 rfl ?_
  refine z_iload X dL_buy_9 rfl ?_
  refine z_iload X dL_buy_11 rfl ?_
  refine z_xVc (As := [.int a1, .int a2, .int a3, .int a4, .int a5, .int a6]) (rest := [.int 0, .ref q]) (nA := 6) (mc := 4) (ms := 3030) (rm := ({ frames := 200, cells := 4, slots := 3030, locals := 2000 } : Room)) (S := (CW × Int32) × Adr) (r0 := fun w9 => w9.1.2) (px := fun u => o = .inr u) (pu := fun w9 => o = .inl w9.1 ∧ axt N ad w9.2 ∧ (∀ k, N k ≤ w9.1.1.2.2 k)) (GX := cx D dA A V L N ad ((q, .inl (dA 7, 1, .inr (.inl f))) :: xs)) (G1 := fun w9 => cx D dA A w9.1.1.1 w9.1.1.2.1 w9.1.1.2.2 w9.2 ((q, .inl (dA 7, 1, .inr (.inl f))) :: xs)) X hNc [(1, 21, 13, 18), (2, 25, 15, 18), (3, 29, 17, 18)] hh (by decide) (by
    intro z hz
    simp only [List.mem_cons, List.not_mem_nil, or_false] at hz
    rcases hz with rfl | rfl | rfl
    · exact g_315
    · exact g_316
    · exact g_317) (cc_buy l X.2.2.2.2.2.2.2.2 X.2.2.2.2.2.2.1 h11 h) g_517 g_518 g_519 g_1 g_520 hd_yX11_buy ⟨rfl, rfl, Nat.le_of_ble_eq_true rfl, Nat.le_of_ble_eq_true rfl⟩ rfl (fun _ hG => cx_recv X (k := 11) rfl rfl h11 hG) rfl (Nat.le_of_ble_eq_true rfl) dL_buy_13 ⟨by show _ ≤ 4; omega, by show _ ≤ 3030; omega⟩ (fun u hu => ?_) (fun w9 hw => ?_)
  · have hc := hcd u hu
    have hu3 : u = 1 ∨ u = 2 ∨ u = 3 := Decidable.byContradiction (fun z => hc (by unfold cd3; (try simp only [not_or] at z); simp [z]))
    rcases hu3 with rfl | rfl | rfl
    · refine ⟨[], 21, 13, 18, [(2, 25, 15, 18), (3, 29, 17, 18)], rfl, by decide, fun q9 => ?_⟩
      refine z_astore X dL_buy_21 (by rw [hml]; decide) rfl rfl ?_
      refine z_iconst (v := 1) X dL_buy_23 (by decide) ?_
      refine zz.widen (k := 4) (n := 3030) (by omega) (by omega) ?_
      exact z_iret X hr rfl (fun t hG hF _ => ⟨⟨1, ((V, L, N), f, ad), rfl, ⟨by rw [hu]; rfl, axt.rf N ad, fun _ => Nat.le_refl _⟩, hG⟩, hF⟩) dL_buy_24
    · refine ⟨[(1, 21, 13, 18)], 25, 15, 18, [(3, 29, 17, 18)], rfl, by decide, fun q9 => ?_⟩
      refine z_astore X dL_buy_25 (by rw [hml]; decide) rfl rfl ?_
      refine z_iconst (v := 2) X dL_buy_27 (by decide) ?_
      refine zz.widen (k := 4) (n := 3030) (by omega) (by omega) ?_
      exact z_iret X hr rfl (fun t hG hF _ => ⟨⟨2, ((V, L, N), f, ad), rfl, ⟨by rw [hu]; rfl, axt.rf N ad, fun _ => Nat.le_refl _⟩, hG⟩, hF⟩) dL_buy_28
    · refine ⟨[(1, 21, 13, 18), (2, 25, 15, 18)], 29, 17, 18, [], rfl, by decide, fun q9 => ?_⟩
      refine z_astore X dL_buy_29 (by rw [hml]; decide) rfl rfl ?_
      refine z_iconst (v := 3) X dL_buy_31 (by decide) ?_
      refine zz.widen (k := 4) (n := 3030) (by omega) (by omega) ?_
      exact z_iret X hr rfl (fun t hG hF _ => ⟨⟨3, ((V, L, N), f, ad), rfl, ⟨by rw [hu]; rfl, axt.rf N ad, fun _ => Nat.le_refl _⟩, hG⟩, hF⟩) dL_buy_32
  · refine z_i2l X dL_buy_16 ?_
    refine c_lastX X 0 (xs' := (q, .inl (dA 7, 1, .inr (.inl (vp_updL f 0 (w9.1.2).toInt64)))) :: xs) rfl (fun z => z.elim (fun y => absurd y (by decide)) (fun y => absurd y (by decide))) rfl dL_buy_17 ?_
    refine z_goto (tgt := 33) X dL_buy_18 (by decide) ?_
    refine z_iconst (v := 0) X dL_buy_33 (by decide) ?_
    refine zz.widen (k := 4) (n := 3030) (by omega) (by omega) ?_
    exact z_iret X hr rfl (fun t hG hF _ => ⟨⟨0, (w9.1.1, vp_updL f 0 w9.1.2.toInt64, w9.2), rfl, ⟨by rw [hw.1]; rfl, hw.2.1, hw.2.2⟩, hG⟩, hF⟩) dL_buy_34
-- free
set_option maxRecDepth 100000 in
set_option maxHeartbeats 4000000 in
theorem cw_free (l : Launch) {D : va_G} {dA : Nat → ClassId} {A : Nat → Prop} {n : Nat} (hst : l.stackTraces = false) (hA : ∀ q, n ≤ q → A q) {V : Rho} {L : Lst} {N : Cnt} {ad : Adr} {xs : va_W} {XC : String → State → State → Prop} (h11 : 0 < N 11) {q : Nat} {f : Nat → Int64} {a1 : Int32} {o : (Int32) ⊕ Nat} (hcd : ∀ e, o = .inr e → ¬ cd1 e = 0) (h : fc_free V L N a1 = some o) : vx_Met l yL_free (.codeWith yL_free cL_free 4 (some .int) (hdT [(1, 12, 13, 9)]) :: gT) ({ frames := 60, cells := 1, slots := 6, locals := 600 } : Room) (va_Pc [.ref (ad 11 0), .int a1, .ref q] (zBN D dA A n (cx D dA A V L N ad ((q, .inl (dA 7, 1, .inr (.inl f))) :: xs)))) (va_Qi (fun r (u : CW × (Nat → Int64) × Adr) => wQ V L N f cd1 o = (u.1, u.2.1, r) ∧ axt N ad u.2.2 ∧ ∀ k, N k ≤ u.1.2.2 k) (fun u t => cx D dA A u.1.1 u.1.2.1 u.1.2.2 u.2.2 ((q, .inl (dA 7, 1, .inr (.inl u.2.1))) :: xs) t.heap) A) XC (1) (6) A := by
  refine z_metH (by decide) hA hst (Nat.le_of_ble_eq_true rfl) rfl rfl (fun p e s m below meth c X hNc hml hr hh => ?_)
  refine z_aload_n X dL_free_0 rfl rfl ?_
  refine z_iconst (v := 0) X dL_free_1 (by decide) ?_
  refine z_aload_n X dL_free_2 rfl rfl ?_
  refine z_iload_n X dL_free_3 rfl rfl ?_
  refine z_xVc (As := [.int a1]) (rest := [.int 0, .ref q]) (nA := 1) (mc := 1) (ms := 6) (rm := ({ frames := 40, cells := 1, slots := 6, locals := 400 } : Room)) (S := Int32) (r0 := fun w9 => w9) (px := fun u => o = .inr u) (pu := fun w9 => o = .inl w9 ∧ True) (GX := cx D dA A V L N ad ((q, .inl (dA 7, 1, .inr (.inl f))) :: xs)) (G1 := fun w9 => cx D dA A V L N ad ((q, .inl (dA 7, 1, .inr (.inl f))) :: xs)) X hNc [(1, 12, 13, 9)] hh (by decide) (by
    intro z hz
    simp only [List.mem_cons, List.not_mem_nil, or_false] at hz
    subst hz; exact g_315) (cc_free l X.2.2.2.2.2.2.2.2 X.2.2.2.2.2.2.1 h11 h) g_822 g_823 g_824 g_1 g_825 hd_yX11_free ⟨rfl, rfl, Nat.le_of_ble_eq_true rfl, Nat.le_of_ble_eq_true rfl⟩ rfl (fun _ hG => cx_recv X (k := 11) rfl rfl h11 hG) rfl (Nat.le_of_ble_eq_true rfl) dL_free_4 ⟨by show _ ≤ 1; omega, by show _ ≤ 6; omega⟩ (fun u hu => ?_) (fun w9 hw => ?_)
  · have hc := hcd u hu
    have hu3 : u = 1 := Decidable.byContradiction (fun z => hc (by unfold cd1; (try simp only [not_or] at z); simp [z]))
    subst hu3
    refine ⟨[], 12, 13, 9, [], rfl, by decide, fun q9 => ?_⟩
    refine z_astore_n X dL_free_12 rfl (by rw [hml]; decide) rfl rfl ?_
    refine z_iconst (v := 1) X dL_free_13 (by decide) ?_
    refine zz.widen (k := 1) (n := 6) (by omega) (by omega) ?_
    exact z_iret X hr rfl (fun t hG hF _ => ⟨⟨1, ((V, L, N), f, ad), rfl, ⟨by rw [hu]; rfl, axt.rf N ad, fun _ => Nat.le_refl _⟩, hG⟩, hF⟩) dL_free_14
  · refine z_i2l X dL_free_7 ?_
    refine c_lastX X 0 (xs' := (q, .inl (dA 7, 1, .inr (.inl (vp_updL f 0 (w9).toInt64)))) :: xs) rfl (fun z => z.elim (fun y => absurd y (by decide)) (fun y => absurd y (by decide))) rfl dL_free_8 ?_
    refine z_goto (tgt := 15) X dL_free_9 (by decide) ?_
    refine z_iconst (v := 0) X dL_free_15 (by decide) ?_
    refine zz.widen (k := 1) (n := 6) (by omega) (by omega) ?_
    exact z_iret X hr rfl (fun t hG hF _ => ⟨⟨0, ((V, L, N), vp_updL f 0 (Int32.toInt64 w9), ad), rfl, ⟨by rw [hw.1]; rfl, axt.rf N ad, fun _ => Nat.le_refl _⟩, hG⟩, hF⟩) dL_free_16
-- aside
set_option maxRecDepth 100000 in
set_option maxHeartbeats 4000000 in
theorem cw_aside (l : Launch) {D : va_G} {dA : Nat → ClassId} {A : Nat → Prop} {n : Nat} (hst : l.stackTraces = false) (hA : ∀ q, n ≤ q → A q) {V : Rho} {L : Lst} {N : Cnt} {ad : Adr} {xs : va_W} {XC : String → State → State → Prop} (h11 : 0 < N 11) {q : Nat} {f : Nat → Int64} {a1 : Int32} {o : (Int32) ⊕ Nat} (hcd : ∀ e, o = .inr e → ¬ cd1 e = 0) (h : fc_aside V L N a1 = some o) : vx_Met l yL_aside (.codeWith yL_aside cL_aside 4 (some .int) (hdT [(1, 12, 13, 9)]) :: gT) ({ frames := 60, cells := 1, slots := 6, locals := 600 } : Room) (va_Pc [.ref (ad 11 0), .int a1, .ref q] (zBN D dA A n (cx D dA A V L N ad ((q, .inl (dA 7, 1, .inr (.inl f))) :: xs)))) (va_Qi (fun r (u : CW × (Nat → Int64) × Adr) => wQ V L N f cd1 o = (u.1, u.2.1, r) ∧ axt N ad u.2.2 ∧ ∀ k, N k ≤ u.1.2.2 k) (fun u t => cx D dA A u.1.1 u.1.2.1 u.1.2.2 u.2.2 ((q, .inl (dA 7, 1, .inr (.inl u.2.1))) :: xs) t.heap) A) XC (1) (6) A := by
  refine z_metH (by decide) hA hst (Nat.le_of_ble_eq_true rfl) rfl rfl (fun p e s m below meth c X hNc hml hr hh => ?_)
  refine z_aload_n X dL_aside_0 rfl rfl ?_
  refine z_iconst (v := 0) X dL_aside_1 (by decide) ?_
  refine z_aload_n X dL_aside_2 rfl rfl ?_
  refine z_iload_n X dL_aside_3 rfl rfl ?_
  refine z_xVc (As := [.int a1]) (rest := [.int 0, .ref q]) (nA := 1) (mc := 1) (ms := 6) (rm := ({ frames := 40, cells := 1, slots := 6, locals := 400 } : Room)) (S := Int32) (r0 := fun w9 => w9) (px := fun u => o = .inr u) (pu := fun w9 => o = .inl w9 ∧ True) (GX := cx D dA A V L N ad ((q, .inl (dA 7, 1, .inr (.inl f))) :: xs)) (G1 := fun w9 => cx D dA A V L N ad ((q, .inl (dA 7, 1, .inr (.inl f))) :: xs)) X hNc [(1, 12, 13, 9)] hh (by decide) (by
    intro z hz
    simp only [List.mem_cons, List.not_mem_nil, or_false] at hz
    subst hz; exact g_315) (cc_aside l X.2.2.2.2.2.2.2.2 X.2.2.2.2.2.2.1 h11 h) g_829 g_830 g_831 g_1 g_832 hd_yX11_aside ⟨rfl, rfl, Nat.le_of_ble_eq_true rfl, Nat.le_of_ble_eq_true rfl⟩ rfl (fun _ hG => cx_recv X (k := 11) rfl rfl h11 hG) rfl (Nat.le_of_ble_eq_true rfl) dL_aside_4 ⟨by show _ ≤ 1; omega, by show _ ≤ 6; omega⟩ (fun u hu => ?_) (fun w9 hw => ?_)
  · have hc := hcd u hu
    have hu3 : u = 1 := Decidable.byContradiction (fun z => hc (by unfold cd1; (try simp only [not_or] at z); simp [z]))
    subst hu3
    refine ⟨[], 12, 13, 9, [], rfl, by decide, fun q9 => ?_⟩
    refine z_astore_n X dL_aside_12 rfl (by rw [hml]; decide) rfl rfl ?_
    refine z_iconst (v := 1) X dL_aside_13 (by decide) ?_
    refine zz.widen (k := 1) (n := 6) (by omega) (by omega) ?_
    exact z_iret X hr rfl (fun t hG hF _ => ⟨⟨1, ((V, L, N), f, ad), rfl, ⟨by rw [hu]; rfl, axt.rf N ad, fun _ => Nat.le_refl _⟩, hG⟩, hF⟩) dL_aside_14
  · refine z_i2l X dL_aside_7 ?_
    refine c_lastX X 0 (xs' := (q, .inl (dA 7, 1, .inr (.inl (vp_updL f 0 (w9).toInt64)))) :: xs) rfl (fun z => z.elim (fun y => absurd y (by decide)) (fun y => absurd y (by decide))) rfl dL_aside_8 ?_
    refine z_goto (tgt := 15) X dL_aside_9 (by decide) ?_
    refine z_iconst (v := 0) X dL_aside_15 (by decide) ?_
    refine zz.widen (k := 1) (n := 6) (by omega) (by omega) ?_
    exact z_iret X hr rfl (fun t hG hF _ => ⟨⟨0, ((V, L, N), vp_updL f 0 (Int32.toInt64 w9), ad), rfl, ⟨by rw [hw.1]; rfl, axt.rf N ad, fun _ => Nat.le_refl _⟩, hG⟩, hF⟩) dL_aside_16
-- spent
set_option maxRecDepth 100000 in
set_option maxHeartbeats 4000000 in
theorem cw_spent (l : Launch) {D : va_G} {dA : Nat → ClassId} {A : Nat → Prop} {n : Nat} (hst : l.stackTraces = false) (hA : ∀ q, n ≤ q → A q) {V : Rho} {L : Lst} {N : Cnt} {ad : Adr} {xs : va_W} {XC : String → State → State → Prop} (h11 : 0 < N 11) {q : Nat} {f : Nat → Int64} {a1 : Int32} {o : (Int32) ⊕ Nat} (hcd : ∀ e, o = .inr e → ¬ cd1 e = 0) (h : fc_spent V L N a1 = some o) : vx_Met l yL_spent (.codeWith yL_spent cL_spent 4 (some .int) (hdT [(1, 12, 13, 9)]) :: gT) ({ frames := 60, cells := 1, slots := 6, locals := 600 } : Room) (va_Pc [.ref (ad 11 0), .int a1, .ref q] (zBN D dA A n (cx D dA A V L N ad ((q, .inl (dA 7, 1, .inr (.inl f))) :: xs)))) (va_Qi (fun r (u : CW × (Nat → Int64) × Adr) => wQ V L N f cd1 o = (u.1, u.2.1, r) ∧ axt N ad u.2.2 ∧ ∀ k, N k ≤ u.1.2.2 k) (fun u t => cx D dA A u.1.1 u.1.2.1 u.1.2.2 u.2.2 ((q, .inl (dA 7, 1, .inr (.inl u.2.1))) :: xs) t.heap) A) XC (1) (6) A := by
  refine z_metH (by decide) hA hst (Nat.le_of_ble_eq_true rfl) rfl rfl (fun p e s m below meth c X hNc hml hr hh => ?_)
  refine z_aload_n X dL_spent_0 rfl rfl ?_
  refine z_iconst (v := 0) X dL_spent_1 (by decide) ?_
  refine z_aload_n X dL_spent_2 rfl rfl ?_
  refine z_iload_n X dL_spent_3 rfl rfl ?_
  refine z_xVc (As := [.int a1]) (rest := [.int 0, .ref q]) (nA := 1) (mc := 1) (ms := 6) (rm := ({ frames := 40, cells := 1, slots := 6, locals := 400 } : Room)) (S := Int32) (r0 := fun w9 => w9) (px := fun u => o = .inr u) (pu := fun w9 => o = .inl w9 ∧ True) (GX := cx D dA A V L N ad ((q, .inl (dA 7, 1, .inr (.inl f))) :: xs)) (G1 := fun w9 => cx D dA A V L N ad ((q, .inl (dA 7, 1, .inr (.inl f))) :: xs)) X hNc [(1, 12, 13, 9)] hh (by decide) (by
    intro z hz
    simp only [List.mem_cons, List.not_mem_nil, or_false] at hz
    subst hz; exact g_315) (cc_spent l X.2.2.2.2.2.2.2.2 X.2.2.2.2.2.2.1 h11 h) g_840 g_841 g_842 g_1 g_843 hd_yX11_spent ⟨rfl, rfl, Nat.le_of_ble_eq_true rfl, Nat.le_of_ble_eq_true rfl⟩ rfl (fun _ hG => cx_recv X (k := 11) rfl rfl h11 hG) rfl (Nat.le_of_ble_eq_true rfl) dL_spent_4 ⟨by show _ ≤ 1; omega, by show _ ≤ 6; omega⟩ (fun u hu => ?_) (fun w9 hw => ?_)
  · have hc := hcd u hu
    have hu3 : u = 1 := Decidable.byContradiction (fun z => hc (by unfold cd1; (try simp only [not_or] at z); simp [z]))
    subst hu3
    refine ⟨[], 12, 13, 9, [], rfl, by decide, fun q9 => ?_⟩
    refine z_astore_n X dL_spent_12 rfl (by rw [hml]; decide) rfl rfl ?_
    refine z_iconst (v := 1) X dL_spent_13 (by decide) ?_
    refine zz.widen (k := 1) (n := 6) (by omega) (by omega) ?_
    exact z_iret X hr rfl (fun t hG hF _ => ⟨⟨1, ((V, L, N), f, ad), rfl, ⟨by rw [hu]; rfl, axt.rf N ad, fun _ => Nat.le_refl _⟩, hG⟩, hF⟩) dL_spent_14
  · refine z_i2l X dL_spent_7 ?_
    refine c_lastX X 0 (xs' := (q, .inl (dA 7, 1, .inr (.inl (vp_updL f 0 (w9).toInt64)))) :: xs) rfl (fun z => z.elim (fun y => absurd y (by decide)) (fun y => absurd y (by decide))) rfl dL_spent_8 ?_
    refine z_goto (tgt := 15) X dL_spent_9 (by decide) ?_
    refine z_iconst (v := 0) X dL_spent_15 (by decide) ?_
    refine zz.widen (k := 1) (n := 6) (by omega) (by omega) ?_
    exact z_iret X hr rfl (fun t hG hF _ => ⟨⟨0, ((V, L, N), vp_updL f 0 (Int32.toInt64 w9), ad), rfl, ⟨by rw [hw.1]; rfl, axt.rf N ad, fun _ => Nat.le_refl _⟩, hG⟩, hF⟩) dL_spent_16
-- left
set_option maxRecDepth 100000 in
set_option maxHeartbeats 4000000 in
theorem cw_left (l : Launch) {D : va_G} {dA : Nat → ClassId} {A : Nat → Prop} {n : Nat} (hst : l.stackTraces = false) (hA : ∀ q, n ≤ q → A q) {V : Rho} {L : Lst} {N : Cnt} {ad : Adr} {xs : va_W} {XC : String → State → State → Prop} (h11 : 0 < N 11) {q : Nat} {f : Nat → Int64} {a1 : Int32} {o : (Int32) ⊕ Nat} (hcd : ∀ e, o = .inr e → ¬ cd1 e = 0) (h : fc_left V L N a1 = some o) : vx_Met l yL_left (.codeWith yL_left cL_left 4 (some .int) (hdT [(1, 12, 13, 9)]) :: gT) ({ frames := 200, cells := 1, slots := 6, locals := 2000 } : Room) (va_Pc [.ref (ad 11 0), .int a1, .ref q] (zBN D dA A n (cx D dA A V L N ad ((q, .inl (dA 7, 1, .inr (.inl f))) :: xs)))) (va_Qi (fun r (u : CW × (Nat → Int64) × Adr) => wQ V L N f cd1 o = (u.1, u.2.1, r) ∧ axt N ad u.2.2 ∧ ∀ k, N k ≤ u.1.2.2 k) (fun u t => cx D dA A u.1.1 u.1.2.1 u.1.2.2 u.2.2 ((q, .inl (dA 7, 1, .inr (.inl u.2.1))) :: xs) t.heap) A) XC (1) (6) A := by
  refine z_metH (by decide) hA hst (Nat.le_of_ble_eq_true rfl) rfl rfl (fun p e s m below meth c X hNc hml hr hh => ?_)
  refine z_aload_n X dL_left_0 rfl rfl ?_
  refine z_iconst (v := 0) X dL_left_1 (by decide) ?_
  refine z_aload_n X dL_left_2 rfl rfl ?_
  refine z_iload_n X dL_left_3 rfl rfl ?_
  refine z_xVc (As := [.int a1]) (rest := [.int 0, .ref q]) (nA := 1) (mc := 1) (ms := 6) (rm := ({ frames := 180, cells := 1, slots := 6, locals := 1800 } : Room)) (S := Int32) (r0 := fun w9 => w9) (px := fun u => o = .inr u) (pu := fun w9 => o = .inl w9 ∧ True) (GX := cx D dA A V L N ad ((q, .inl (dA 7, 1, .inr (.inl f))) :: xs)) (G1 := fun w9 => cx D dA A V L N ad ((q, .inl (dA 7, 1, .inr (.inl f))) :: xs)) X hNc [(1, 12, 13, 9)] hh (by decide) (by
    intro z hz
    simp only [List.mem_cons, List.not_mem_nil, or_false] at hz
    subst hz; exact g_315) (cc_left l X.2.2.2.2.2.2.2.2 X.2.2.2.2.2.2.1 h11 h) g_847 g_848 g_849 g_1 g_850 hd_yX11_left ⟨rfl, rfl, Nat.le_of_ble_eq_true rfl, Nat.le_of_ble_eq_true rfl⟩ rfl (fun _ hG => cx_recv X (k := 11) rfl rfl h11 hG) rfl (Nat.le_of_ble_eq_true rfl) dL_left_4 ⟨by show _ ≤ 1; omega, by show _ ≤ 6; omega⟩ (fun u hu => ?_) (fun w9 hw => ?_)
  · have hc := hcd u hu
    have hu3 : u = 1 := Decidable.byContradiction (fun z => hc (by unfold cd1; (try simp only [not_or] at z); simp [z]))
    subst hu3
    refine ⟨[], 12, 13, 9, [], rfl, by decide, fun q9 => ?_⟩
    refine z_astore_n X dL_left_12 rfl (by rw [hml]; decide) rfl rfl ?_
    refine z_iconst (v := 1) X dL_left_13 (by decide) ?_
    refine zz.widen (k := 1) (n := 6) (by omega) (by omega) ?_
    exact z_iret X hr rfl (fun t hG hF _ => ⟨⟨1, ((V, L, N), f, ad), rfl, ⟨by rw [hu]; rfl, axt.rf N ad, fun _ => Nat.le_refl _⟩, hG⟩, hF⟩) dL_left_14
  · refine z_i2l X dL_left_7 ?_
    refine c_lastX X 0 (xs' := (q, .inl (dA 7, 1, .inr (.inl (vp_updL f 0 (w9).toInt64)))) :: xs) rfl (fun z => z.elim (fun y => absurd y (by decide)) (fun y => absurd y (by decide))) rfl dL_left_8 ?_
    refine z_goto (tgt := 15) X dL_left_9 (by decide) ?_
    refine z_iconst (v := 0) X dL_left_15 (by decide) ?_
    refine zz.widen (k := 1) (n := 6) (by omega) (by omega) ?_
    exact z_iret X hr rfl (fun t hG hF _ => ⟨⟨0, ((V, L, N), vp_updL f 0 (Int32.toInt64 w9), ad), rfl, ⟨by rw [hw.1]; rfl, axt.rf N ad, fun _ => Nat.le_refl _⟩, hG⟩, hF⟩) dL_left_16
-- begin
set_option maxRecDepth 100000 in
set_option maxHeartbeats 4000000 in
theorem cw_begin (l : Launch) {D : va_G} {dA : Nat → ClassId} {A : Nat → Prop} {n : Nat} (hst : l.stackTraces = false) (hA : ∀ q, n ≤ q → A q) {V : Rho} {L : Lst} {N : Cnt} {ad : Adr} {xs : va_W} {XC : String → State → State → Prop} (h11 : 0 < N 11) {q : Nat} {f : Nat → Int64} {a1 : Int32} {a2 : Int32} {a3 : Int32} {o : (CW × Int32) ⊕ Nat} (hcd : ∀ e, o = .inr e → ¬ cd3 e = 0) (h : fc_begin V L N a1 a2 a3 = some o) : vx_Met l yL_begin (.codeWith yL_begin cL_begin 6 (some .int) (hdT [(1, 15, 13, 12), (2, 19, 15, 12), (3, 23, 17, 12)]) :: gT) ({ frames := 280, cells := 27, slots := 13082, locals := 2800 } : Room) (va_Pc [.ref (ad 11 0), .int a1, .int a2, .int a3, .ref q] (zBN D dA A n (cx D dA A V L N ad ((q, .inl (dA 7, 1, .inr (.inl f))) :: xs)))) (va_Qi (fun r (u : CW × (Nat → Int64) × Adr) => wW V L N f cd3 o = (u.1, u.2.1, r) ∧ axt N ad u.2.2 ∧ ∀ k, N k ≤ u.1.2.2 k) (fun u t => cx D dA A u.1.1 u.1.2.1 u.1.2.2 u.2.2 ((q, .inl (dA 7, 1, .inr (.inl u.2.1))) :: xs) t.heap) A) XC (27) (13082) A := by
  refine z_metH (by decide) hA hst (Nat.le_of_ble_eq_true rfl) rfl rfl (fun p e s m below meth c X hNc hml hr hh => ?_)
  refine z_aload X dL_begin_0 rfl ?_
  refine z_iconst (v := 0) X dL_begin_2 (by decide) ?_
  refine z_aload_n X dL_begin_3 rfl rfl ?_
  refine z_iload_n X dL_begin_4 rfl rfl ?_
  refine z_iload_n X dL_begin_5 rfl rfl ?_
  refine z_iload_n X dL_begin_6 rfl rfl ?_
  refine z_xVc (As := [.int a1, .int a2, .int a3]) (rest := [.int 0, .ref q]) (nA := 3) (mc := 27) (ms := 13082) (rm := ({ frames := 260, cells := 27, slots := 13082, locals := 2600 } : Room)) (S := (CW × Int32) × Adr) (r0 := fun w9 => w9.1.2) (px := fun u => o = .inr u) (pu := fun w9 => o = .inl w9.1 ∧ axt N ad w9.2 ∧ (∀ k, N k ≤ w9.1.1.2.2 k)) (GX := cx D dA A V L N ad ((q, .inl (dA 7, 1, .inr (.inl f))) :: xs)) (G1 := fun w9 => cx D dA A w9.1.1.1 w9.1.1.2.1 w9.1.1.2.2 w9.2 ((q, .inl (dA 7, 1, .inr (.inl f))) :: xs)) X hNc [(1, 15, 13, 12), (2, 19, 15, 12), (3, 23, 17, 12)] hh (by decide) (by
    intro z hz
    simp only [List.mem_cons, List.not_mem_nil, or_false] at hz
    rcases hz with rfl | rfl | rfl
    · exact g_315
    · exact g_316
    · exact g_317) (cc_begin l X.2.2.2.2.2.2.2.2 X.2.2.2.2.2.2.1 h11 h) g_860 g_861 g_862 g_1 g_863 hd_yX11_begin ⟨rfl, rfl, Nat.le_of_ble_eq_true rfl, Nat.le_of_ble_eq_true rfl⟩ rfl (fun _ hG => cx_recv X (k := 11) rfl rfl h11 hG) rfl (Nat.le_of_ble_eq_true rfl) dL_begin_7 ⟨by show _ ≤ 27; omega, by show _ ≤ 13082; omega⟩ (fun u hu => ?_) (fun w9 hw => ?_)
  · have hc := hcd u hu
    have hu3 : u = 1 ∨ u = 2 ∨ u = 3 := Decidable.byContradiction (fun z => hc (by unfold cd3; (try simp only [not_or] at z); simp [z]))
    rcases hu3 with rfl | rfl | rfl
    · refine ⟨[], 15, 13, 12, [(2, 19, 15, 12), (3, 23, 17, 12)], rfl, by decide, fun q9 => ?_⟩
      refine z_astore X dL_begin_15 (by rw [hml]; decide) rfl rfl ?_
      refine z_iconst (v := 1) X dL_begin_17 (by decide) ?_
      refine zz.widen (k := 27) (n := 13082) (by omega) (by omega) ?_
      exact z_iret X hr rfl (fun t hG hF _ => ⟨⟨1, ((V, L, N), f, ad), rfl, ⟨by rw [hu]; rfl, axt.rf N ad, fun _ => Nat.le_refl _⟩, hG⟩, hF⟩) dL_begin_18
    · refine ⟨[(1, 15, 13, 12)], 19, 15, 12, [(3, 23, 17, 12)], rfl, by decide, fun q9 => ?_⟩
      refine z_astore X dL_begin_19 (by rw [hml]; decide) rfl rfl ?_
      refine z_iconst (v := 2) X dL_begin_21 (by decide) ?_
      refine zz.widen (k := 27) (n := 13082) (by omega) (by omega) ?_
      exact z_iret X hr rfl (fun t hG hF _ => ⟨⟨2, ((V, L, N), f, ad), rfl, ⟨by rw [hu]; rfl, axt.rf N ad, fun _ => Nat.le_refl _⟩, hG⟩, hF⟩) dL_begin_22
    · refine ⟨[(1, 15, 13, 12), (2, 19, 15, 12)], 23, 17, 12, [], rfl, by decide, fun q9 => ?_⟩
      refine z_astore X dL_begin_23 (by rw [hml]; decide) rfl rfl ?_
      refine z_iconst (v := 3) X dL_begin_25 (by decide) ?_
      refine zz.widen (k := 27) (n := 13082) (by omega) (by omega) ?_
      exact z_iret X hr rfl (fun t hG hF _ => ⟨⟨3, ((V, L, N), f, ad), rfl, ⟨by rw [hu]; rfl, axt.rf N ad, fun _ => Nat.le_refl _⟩, hG⟩, hF⟩) dL_begin_26
  · refine z_i2l X dL_begin_10 ?_
    refine c_lastX X 0 (xs' := (q, .inl (dA 7, 1, .inr (.inl (vp_updL f 0 (w9.1.2).toInt64)))) :: xs) rfl (fun z => z.elim (fun y => absurd y (by decide)) (fun y => absurd y (by decide))) rfl dL_begin_11 ?_
    refine z_goto (tgt := 27) X dL_begin_12 (by decide) ?_
    refine z_iconst (v := 0) X dL_begin_27 (by decide) ?_
    refine zz.widen (k := 27) (n := 13082) (by omega) (by omega) ?_
    exact z_iret X hr rfl (fun t hG hF _ => ⟨⟨0, (w9.1.1, vp_updL f 0 w9.1.2.toInt64, w9.2), rfl, ⟨by rw [hw.1]; rfl, hw.2.1, hw.2.2⟩, hG⟩, hF⟩) dL_begin_28
-- join
set_option maxRecDepth 100000 in
set_option maxHeartbeats 4000000 in
theorem cw_join (l : Launch) {D : va_G} {dA : Nat → ClassId} {A : Nat → Prop} {n : Nat} (hst : l.stackTraces = false) (hA : ∀ q, n ≤ q → A q) {V : Rho} {L : Lst} {N : Cnt} {ad : Adr} {xs : va_W} {XC : String → State → State → Prop} (h11 : 0 < N 11) {q : Nat} {f : Nat → Int64} {a1 : Int32} {a2 : Int32} {a3 : Int32} {o : (CW × Int32) ⊕ Nat} (hcd : ∀ e, o = .inr e → ¬ cd13 e = 0) (h : fc_join V L N a1 a2 a3 = some o) : vx_Met l yL_join (.codeWith yL_join cL_join 6 (some .int) (hdT [(1, 15, 13, 12), (3, 19, 17, 12)]) :: gT) ({ frames := 280, cells := 13, slots := 5789, locals := 2800 } : Room) (va_Pc [.ref (ad 11 0), .int a1, .int a2, .int a3, .ref q] (zBN D dA A n (cx D dA A V L N ad ((q, .inl (dA 7, 1, .inr (.inl f))) :: xs)))) (va_Qi (fun r (u : CW × (Nat → Int64) × Adr) => wW V L N f cd13 o = (u.1, u.2.1, r) ∧ axt N ad u.2.2 ∧ ∀ k, N k ≤ u.1.2.2 k) (fun u t => cx D dA A u.1.1 u.1.2.1 u.1.2.2 u.2.2 ((q, .inl (dA 7, 1, .inr (.inl u.2.1))) :: xs) t.heap) A) XC (13) (5789) A := by
  refine z_metH (by decide) hA hst (Nat.le_of_ble_eq_true rfl) rfl rfl (fun p e s m below meth c X hNc hml hr hh => ?_)
  refine z_aload X dL_join_0 rfl ?_
  refine z_iconst (v := 0) X dL_join_2 (by decide) ?_
  refine z_aload_n X dL_join_3 rfl rfl ?_
  refine z_iload_n X dL_join_4 rfl rfl ?_
  refine z_iload_n X dL_join_5 rfl rfl ?_
  refine z_iload_n X dL_join_6 rfl rfl ?_
  refine z_xVc (As := [.int a1, .int a2, .int a3]) (rest := [.int 0, .ref q]) (nA := 3) (mc := 13) (ms := 5789) (rm := ({ frames := 260, cells := 13, slots := 5789, locals := 2600 } : Room)) (S := (CW × Int32) × Adr) (r0 := fun w9 => w9.1.2) (px := fun u => o = .inr u) (pu := fun w9 => o = .inl w9.1 ∧ axt N ad w9.2 ∧ (∀ k, N k ≤ w9.1.1.2.2 k)) (GX := cx D dA A V L N ad ((q, .inl (dA 7, 1, .inr (.inl f))) :: xs)) (G1 := fun w9 => cx D dA A w9.1.1.1 w9.1.1.2.1 w9.1.1.2.2 w9.2 ((q, .inl (dA 7, 1, .inr (.inl f))) :: xs)) X hNc [(1, 15, 13, 12), (3, 19, 17, 12)] hh (by decide) (by
    intro z hz
    simp only [List.mem_cons, List.not_mem_nil, or_false] at hz
    rcases hz with rfl | rfl
    · exact g_315
    · exact g_317) (cc_join l X.2.2.2.2.2.2.2.2 X.2.2.2.2.2.2.1 h11 h) g_1075 g_1076 g_1077 g_1 g_1078 hd_yX11_join ⟨rfl, rfl, Nat.le_of_ble_eq_true rfl, Nat.le_of_ble_eq_true rfl⟩ rfl (fun _ hG => cx_recv X (k := 11) rfl rfl h11 hG) rfl (Nat.le_of_ble_eq_true rfl) dL_join_7 ⟨by show _ ≤ 13; omega, by show _ ≤ 5789; omega⟩ (fun u hu => ?_) (fun w9 hw => ?_)
  · have hc := hcd u hu
    have hu3 : u = 1 ∨ u = 3 := Decidable.byContradiction (fun z => hc (by unfold cd13; (try simp only [not_or] at z); simp [z]))
    rcases hu3 with rfl | rfl
    · refine ⟨[], 15, 13, 12, [(3, 19, 17, 12)], rfl, by decide, fun q9 => ?_⟩
      refine z_astore X dL_join_15 (by rw [hml]; decide) rfl rfl ?_
      refine z_iconst (v := 1) X dL_join_17 (by decide) ?_
      refine zz.widen (k := 13) (n := 5789) (by omega) (by omega) ?_
      exact z_iret X hr rfl (fun t hG hF _ => ⟨⟨1, ((V, L, N), f, ad), rfl, ⟨by rw [hu]; rfl, axt.rf N ad, fun _ => Nat.le_refl _⟩, hG⟩, hF⟩) dL_join_18
    · refine ⟨[(1, 15, 13, 12)], 19, 17, 12, [], rfl, by decide, fun q9 => ?_⟩
      refine z_astore X dL_join_19 (by rw [hml]; decide) rfl rfl ?_
      refine z_iconst (v := 2) X dL_join_21 (by decide) ?_
      refine zz.widen (k := 13) (n := 5789) (by omega) (by omega) ?_
      exact z_iret X hr rfl (fun t hG hF _ => ⟨⟨2, ((V, L, N), f, ad), rfl, ⟨by rw [hu]; rfl, axt.rf N ad, fun _ => Nat.le_refl _⟩, hG⟩, hF⟩) dL_join_22
  · refine z_i2l X dL_join_10 ?_
    refine c_lastX X 0 (xs' := (q, .inl (dA 7, 1, .inr (.inl (vp_updL f 0 (w9.1.2).toInt64)))) :: xs) rfl (fun z => z.elim (fun y => absurd y (by decide)) (fun y => absurd y (by decide))) rfl dL_join_11 ?_
    refine z_goto (tgt := 23) X dL_join_12 (by decide) ?_
    refine z_iconst (v := 0) X dL_join_23 (by decide) ?_
    refine zz.widen (k := 13) (n := 5789) (by omega) (by omega) ?_
    exact z_iret X hr rfl (fun t hG hF _ => ⟨⟨0, (w9.1.1, vp_updL f 0 w9.1.2.toInt64, w9.2), rfl, ⟨by rw [hw.1]; rfl, hw.2.1, hw.2.2⟩, hG⟩, hF⟩) dL_join_24
-- leave
set_option maxRecDepth 100000 in
set_option maxHeartbeats 4000000 in
theorem cw_leave (l : Launch) {D : va_G} {dA : Nat → ClassId} {A : Nat → Prop} {n : Nat} (hst : l.stackTraces = false) (hA : ∀ q, n ≤ q → A q) {V : Rho} {L : Lst} {N : Cnt} {ad : Adr} {xs : va_W} {XC : String → State → State → Prop} (h11 : 0 < N 11) {q : Nat} {f : Nat → Int64} {a1 : Int32} {o : (CW × Int32) ⊕ Nat} (hcd : ∀ e, o = .inr e → ¬ cd13 e = 0) (h : fc_leave V L N a1 = some o) : vx_Met l yL_leave (.codeWith yL_leave cL_leave 4 (some .int) (hdT [(1, 12, 13, 9), (3, 15, 17, 9)]) :: gT) ({ frames := 260, cells := 5, slots := 1832, locals := 2600 } : Room) (va_Pc [.ref (ad 11 0), .int a1, .ref q] (zBN D dA A n (cx D dA A V L N ad ((q, .inl (dA 7, 1, .inr (.inl f))) :: xs)))) (va_Qi (fun r (u : CW × (Nat → Int64) × Adr) => wW V L N f cd13 o = (u.1, u.2.1, r) ∧ axt N ad u.2.2 ∧ ∀ k, N k ≤ u.1.2.2 k) (fun u t => cx D dA A u.1.1 u.1.2.1 u.1.2.2 u.2.2 ((q, .inl (dA 7, 1, .inr (.inl u.2.1))) :: xs) t.heap) A) XC (5) (1832) A := by
  refine z_metH (by decide) hA hst (Nat.le_of_ble_eq_true rfl) rfl rfl (fun p e s m below meth c X hNc hml hr hh => ?_)
  refine z_aload_n X dL_leave_0 rfl rfl ?_
  refine z_iconst (v := 0) X dL_leave_1 (by decide) ?_
  refine z_aload_n X dL_leave_2 rfl rfl ?_
  refine z_iload_n X dL_leave_3 rfl rfl ?_
  refine z_xVc (As := [.int a1]) (rest := [.int 0, .ref q]) (nA := 1) (mc := 5) (ms := 1832) (rm := ({ frames := 240, cells := 5, slots := 1832, locals := 2400 } : Room)) (S := (CW × Int32) × Adr) (r0 := fun w9 => w9.1.2) (px := fun u => o = .inr u) (pu := fun w9 => o = .inl w9.1 ∧ axt N ad w9.2 ∧ (∀ k, N k ≤ w9.1.1.2.2 k)) (GX := cx D dA A V L N ad ((q, .inl (dA 7, 1, .inr (.inl f))) :: xs)) (G1 := fun w9 => cx D dA A w9.1.1.1 w9.1.1.2.1 w9.1.1.2.2 w9.2 ((q, .inl (dA 7, 1, .inr (.inl f))) :: xs)) X hNc [(1, 12, 13, 9), (3, 15, 17, 9)] hh (by decide) (by
    intro z hz
    simp only [List.mem_cons, List.not_mem_nil, or_false] at hz
    rcases hz with rfl | rfl
    · exact g_315
    · exact g_317) (cc_leave l X.2.2.2.2.2.2.2.2 X.2.2.2.2.2.2.1 h11 h) g_1093 g_1094 g_1095 g_1 g_1096 hd_yX11_leave ⟨rfl, rfl, Nat.le_of_ble_eq_true rfl, Nat.le_of_ble_eq_true rfl⟩ rfl (fun _ hG => cx_recv X (k := 11) rfl rfl h11 hG) rfl (Nat.le_of_ble_eq_true rfl) dL_leave_4 ⟨by show _ ≤ 5; omega, by show _ ≤ 1832; omega⟩ (fun u hu => ?_) (fun w9 hw => ?_)
  · have hc := hcd u hu
    have hu3 : u = 1 ∨ u = 3 := Decidable.byContradiction (fun z => hc (by unfold cd13; (try simp only [not_or] at z); simp [z]))
    rcases hu3 with rfl | rfl
    · refine ⟨[], 12, 13, 9, [(3, 15, 17, 9)], rfl, by decide, fun q9 => ?_⟩
      refine z_astore_n X dL_leave_12 rfl (by rw [hml]; decide) rfl rfl ?_
      refine z_iconst (v := 1) X dL_leave_13 (by decide) ?_
      refine zz.widen (k := 5) (n := 1832) (by omega) (by omega) ?_
      exact z_iret X hr rfl (fun t hG hF _ => ⟨⟨1, ((V, L, N), f, ad), rfl, ⟨by rw [hu]; rfl, axt.rf N ad, fun _ => Nat.le_refl _⟩, hG⟩, hF⟩) dL_leave_14
    · refine ⟨[(1, 12, 13, 9)], 15, 17, 9, [], rfl, by decide, fun q9 => ?_⟩
      refine z_astore_n X dL_leave_15 rfl (by rw [hml]; decide) rfl rfl ?_
      refine z_iconst (v := 2) X dL_leave_16 (by decide) ?_
      refine zz.widen (k := 5) (n := 1832) (by omega) (by omega) ?_
      exact z_iret X hr rfl (fun t hG hF _ => ⟨⟨2, ((V, L, N), f, ad), rfl, ⟨by rw [hu]; rfl, axt.rf N ad, fun _ => Nat.le_refl _⟩, hG⟩, hF⟩) dL_leave_17
  · refine z_i2l X dL_leave_7 ?_
    refine c_lastX X 0 (xs' := (q, .inl (dA 7, 1, .inr (.inl (vp_updL f 0 (w9.1.2).toInt64)))) :: xs) rfl (fun z => z.elim (fun y => absurd y (by decide)) (fun y => absurd y (by decide))) rfl dL_leave_8 ?_
    refine z_goto (tgt := 18) X dL_leave_9 (by decide) ?_
    refine z_iconst (v := 0) X dL_leave_18 (by decide) ?_
    refine zz.widen (k := 5) (n := 1832) (by omega) (by omega) ?_
    exact z_iret X hr rfl (fun t hG hF _ => ⟨⟨0, (w9.1.1, vp_updL f 0 w9.1.2.toInt64, w9.2), rfl, ⟨by rw [hw.1]; rfl, hw.2.1, hw.2.2⟩, hG⟩, hF⟩) dL_leave_19
-- move
set_option maxRecDepth 100000 in
set_option maxHeartbeats 4000000 in
theorem cw_move (l : Launch) {D : va_G} {dA : Nat → ClassId} {A : Nat → Prop} {n : Nat} (hst : l.stackTraces = false) (hA : ∀ q, n ≤ q → A q) {V : Rho} {L : Lst} {N : Cnt} {ad : Adr} {xs : va_W} {XC : String → State → State → Prop} (h11 : 0 < N 11) {q : Nat} {f : Nat → Int64} {a1 : Int32} {a2 : Int32} {o : (CW × Int32) ⊕ Nat} (hb : ∀ u, o = .inl u → u.2 = 0 ∨ u.2 = 1) (hcd : ∀ e, o = .inr e → ¬ cd1 e = 0) (h : fc_move V L N a1 a2 = some o) : vx_Met l yL_move (.codeWith yL_move cL_move 5 (some .int) (hdT [(1, 20, 13, 17)]) :: gT) ({ frames := 260, cells := 6, slots := 1838, locals := 2600 } : Room) (va_Pc [.ref (ad 11 0), .int a1, .int a2, .ref q] (zBN D dA A n (cx D dA A V L N ad ((q, .inl (dA 7, 1, .inr (.inl f))) :: xs)))) (va_Qi (fun r (u : CW × (Nat → Int64) × Adr) => wW V L N f cd1 o = (u.1, u.2.1, r) ∧ axt N ad u.2.2 ∧ ∀ k, N k ≤ u.1.2.2 k) (fun u t => cx D dA A u.1.1 u.1.2.1 u.1.2.2 u.2.2 ((q, .inl (dA 7, 1, .inr (.inl u.2.1))) :: xs) t.heap) A) XC (6) (1838) A := by
  refine z_metH (by decide) hA hst (Nat.le_of_ble_eq_true rfl) rfl rfl (fun p e s m below meth c X hNc hml hr hh => ?_)
  refine z_aload_n X dL_move_0 rfl rfl ?_
  refine z_iconst (v := 0) X dL_move_1 (by decide) ?_
  refine z_aload_n X dL_move_2 rfl rfl ?_
  refine z_iload_n X dL_move_3 rfl rfl ?_
  refine z_iload_n X dL_move_4 rfl rfl ?_
  refine z_xVc (As := [.int a1, .int a2]) (rest := [.int 0, .ref q]) (nA := 2) (mc := 6) (ms := 1838) (rm := ({ frames := 240, cells := 6, slots := 1838, locals := 2400 } : Room)) (S := (CW × Int32) × Adr) (r0 := fun w9 => w9.1.2) (px := fun u => o = .inr u) (pu := fun w9 => o = .inl w9.1 ∧ axt N ad w9.2 ∧ (∀ k, N k ≤ w9.1.1.2.2 k)) (GX := cx D dA A V L N ad ((q, .inl (dA 7, 1, .inr (.inl f))) :: xs)) (G1 := fun w9 => cx D dA A w9.1.1.1 w9.1.1.2.1 w9.1.1.2.2 w9.2 ((q, .inl (dA 7, 1, .inr (.inl f))) :: xs)) X hNc [(1, 20, 13, 17)] hh (by decide) (by
    intro z hz
    simp only [List.mem_cons, List.not_mem_nil, or_false] at hz
    subst hz; exact g_315) (cc_move l X.2.2.2.2.2.2.2.2 X.2.2.2.2.2.2.1 h11 h) g_1101 g_1102 g_1103 g_1 g_1104 hd_yX11_move ⟨rfl, rfl, Nat.le_of_ble_eq_true rfl, Nat.le_of_ble_eq_true rfl⟩ rfl (fun _ hG => cx_recv X (k := 11) rfl rfl h11 hG) rfl (Nat.le_of_ble_eq_true rfl) dL_move_5 ⟨by show _ ≤ 6; omega, by show _ ≤ 1838; omega⟩ (fun u hu => ?_) (fun w9 hw => ?_)
  · have hc := hcd u hu
    have hu3 : u = 1 := Decidable.byContradiction (fun z => hc (by unfold cd1; (try simp only [not_or] at z); simp [z]))
    subst hu3
    refine ⟨[], 20, 13, 17, [], rfl, by decide, fun q9 => ?_⟩
    refine z_astore X dL_move_20 (by rw [hml]; decide) rfl rfl ?_
    refine z_iconst (v := 1) X dL_move_22 (by decide) ?_
    refine zz.widen (k := 6) (n := 1838) (by omega) (by omega) ?_
    exact z_iret X hr rfl (fun t hG hF _ => ⟨⟨1, ((V, L, N), f, ad), rfl, ⟨by rw [hu]; rfl, axt.rf N ad, fun _ => Nat.le_refl _⟩, hG⟩, hF⟩) dL_move_23
  · refine z_if_eq (tgt := 15) X dL_move_8 (by decide) (fun z => ?_) (fun z => ?_)
    · refine z_lconst (v := (w9.1.2).toInt64) X dL_move_15 (by rw [show w9.1.2 = 0 from z]; decide) ?_
      refine c_lastX X 0 (xs' := (q, .inl (dA 7, 1, .inr (.inl (vp_updL f 0 (w9.1.2).toInt64)))) :: xs) rfl (fun z => z.elim (fun y => absurd y (by decide)) (fun y => absurd y (by decide))) rfl dL_move_16 ?_
      refine z_goto (tgt := 24) X dL_move_17 (by decide) ?_
      refine z_iconst (v := 0) X dL_move_24 (by decide) ?_
      refine zz.widen (k := 6) (n := 1838) (by omega) (by omega) ?_
      exact z_iret X hr rfl (fun t hG hF _ => ⟨⟨0, (w9.1.1, vp_updL f 0 w9.1.2.toInt64, w9.2), rfl, ⟨by rw [hw.1]; rfl, hw.2.1, hw.2.2⟩, hG⟩, hF⟩) dL_move_25
    · refine z_lconst (v := (w9.1.2).toInt64) X dL_move_11 (by rw [(hb _ hw.1).resolve_left z]; decide) ?_
      refine z_goto (tgt := 16) X dL_move_12 (by decide) ?_
      refine c_lastX X 0 (xs' := (q, .inl (dA 7, 1, .inr (.inl (vp_updL f 0 (w9.1.2).toInt64)))) :: xs) rfl (fun z => z.elim (fun y => absurd y (by decide)) (fun y => absurd y (by decide))) rfl dL_move_16 ?_
      refine z_goto (tgt := 24) X dL_move_17 (by decide) ?_
      refine z_iconst (v := 0) X dL_move_24 (by decide) ?_
      refine zz.widen (k := 6) (n := 1838) (by omega) (by omega) ?_
      exact z_iret X hr rfl (fun t hG hF _ => ⟨⟨0, (w9.1.1, vp_updL f 0 w9.1.2.toInt64, w9.2), rfl, ⟨by rw [hw.1]; rfl, hw.2.1, hw.2.2⟩, hG⟩, hF⟩) dL_move_25
-- pass
set_option maxRecDepth 100000 in
set_option maxHeartbeats 4000000 in
theorem cw_pass (l : Launch) {D : va_G} {dA : Nat → ClassId} {A : Nat → Prop} {n : Nat} (hst : l.stackTraces = false) (hA : ∀ q, n ≤ q → A q) {V : Rho} {L : Lst} {N : Cnt} {ad : Adr} {xs : va_W} {XC : String → State → State → Prop} (h11 : 0 < N 11) {q : Nat} {f : Nat → Int64} {a1 : Int32} {o : (CW × Int32) ⊕ Nat} {d : Nat} (hd : ∀ u, o = .inl u → u.2 = nI d) (hd9 : d ≤ 9000000) (hcd : ∀ e, o = .inr e → ¬ cd23 e = 0) (h : fc_pass V L N a1 = some o) : vx_Met l yL_pass (.codeWith yL_pass cL_pass 4 (some .int) (hdT [(2, 12, 15, 9), (3, 15, 17, 9)]) :: gT) ({ frames := 300, cells := 4 * d + 1, slots := 1826 * d + 6, locals := 3000 } : Room) (va_Pc [.ref (ad 11 0), .int a1, .ref q] (zBN D dA A n (cx D dA A V L N ad ((q, .inl (dA 7, 1, .inr (.inl f))) :: xs)))) (va_Qi (fun r (u : CW × (Nat → Int64) × Adr) => wW V L N f cd23 o = (u.1, u.2.1, r) ∧ axt N ad u.2.2 ∧ ∀ k, N k ≤ u.1.2.2 k) (fun u t => cx D dA A u.1.1 u.1.2.1 u.1.2.2 u.2.2 ((q, .inl (dA 7, 1, .inr (.inl u.2.1))) :: xs) t.heap) A) XC (4 * d + 1) (1826 * d + 6) A := by
  refine z_metH (by decide) hA hst (Nat.le_of_ble_eq_true rfl) rfl rfl (fun p e s m below meth c X hNc hml hr hh => ?_)
  refine z_aload_n X dL_pass_0 rfl rfl ?_
  refine z_iconst (v := 0) X dL_pass_1 (by decide) ?_
  refine z_aload_n X dL_pass_2 rfl rfl ?_
  refine z_iload_n X dL_pass_3 rfl rfl ?_
  refine z_xVc (As := [.int a1]) (rest := [.int 0, .ref q]) (nA := 1) (mc := 4 * d + 1) (ms := 1826 * d + 6) (rm := ({ frames := 280, cells := 4 * d + 1, slots := 1826 * d + 6, locals := 2800 } : Room)) (S := (CW × Int32) × Adr) (r0 := fun w9 => w9.1.2) (px := fun u => o = .inr u) (pu := fun w9 => o = .inl w9.1 ∧ axt N ad w9.2 ∧ (∀ k, N k ≤ w9.1.1.2.2 k)) (GX := cx D dA A V L N ad ((q, .inl (dA 7, 1, .inr (.inl f))) :: xs)) (G1 := fun w9 => cx D dA A w9.1.1.1 w9.1.1.2.1 w9.1.1.2.2 w9.2 ((q, .inl (dA 7, 1, .inr (.inl f))) :: xs)) X hNc [(2, 12, 15, 9), (3, 15, 17, 9)] hh (by decide) (by
    intro z hz
    simp only [List.mem_cons, List.not_mem_nil, or_false] at hz
    rcases hz with rfl | rfl
    · exact g_316
    · exact g_317) (cc_pass l X.2.2.2.2.2.2.2.2 X.2.2.2.2.2.2.1 h11 hd hd9 h) g_1115 g_1116 g_1117 g_1 g_1118 hd_yX11_pass ⟨rfl, rfl, Nat.le_of_ble_eq_true rfl, Nat.le_of_ble_eq_true rfl⟩ rfl (fun _ hG => cx_recv X (k := 11) rfl rfl h11 hG) rfl (Nat.le_of_ble_eq_true rfl) dL_pass_4 ⟨by show _ ≤ 4 * d + 1; omega, by show _ ≤ 1826 * d + 6; omega⟩ (fun u hu => ?_) (fun w9 hw => ?_)
  · have hc := hcd u hu
    have hu3 : u = 2 ∨ u = 3 := Decidable.byContradiction (fun z => hc (by unfold cd23; (try simp only [not_or] at z); simp [z]))
    rcases hu3 with rfl | rfl
    · refine ⟨[], 12, 15, 9, [(3, 15, 17, 9)], rfl, by decide, fun q9 => ?_⟩
      refine z_astore_n X dL_pass_12 rfl (by rw [hml]; decide) rfl rfl ?_
      refine z_iconst (v := 1) X dL_pass_13 (by decide) ?_
      refine zz.widen (k := 4 * d + 1) (n := 1826 * d + 6) (by omega) (by omega) ?_
      exact z_iret X hr rfl (fun t hG hF _ => ⟨⟨1, ((V, L, N), f, ad), rfl, ⟨by rw [hu]; rfl, axt.rf N ad, fun _ => Nat.le_refl _⟩, hG⟩, hF⟩) dL_pass_14
    · refine ⟨[(2, 12, 15, 9)], 15, 17, 9, [], rfl, by decide, fun q9 => ?_⟩
      refine z_astore_n X dL_pass_15 rfl (by rw [hml]; decide) rfl rfl ?_
      refine z_iconst (v := 2) X dL_pass_16 (by decide) ?_
      refine zz.widen (k := 4 * d + 1) (n := 1826 * d + 6) (by omega) (by omega) ?_
      exact z_iret X hr rfl (fun t hG hF _ => ⟨⟨2, ((V, L, N), f, ad), rfl, ⟨by rw [hu]; rfl, axt.rf N ad, fun _ => Nat.le_refl _⟩, hG⟩, hF⟩) dL_pass_17
  · refine z_i2l X dL_pass_7 ?_
    refine c_lastX X 0 (xs' := (q, .inl (dA 7, 1, .inr (.inl (vp_updL f 0 (w9.1.2).toInt64)))) :: xs) rfl (fun z => z.elim (fun y => absurd y (by decide)) (fun y => absurd y (by decide))) rfl dL_pass_8 ?_
    refine z_goto (tgt := 18) X dL_pass_9 (by decide) ?_
    refine z_iconst (v := 0) X dL_pass_18 (by decide) ?_
    refine zz.widen (k := 4 * d + 1) (n := 1826 * d + 6) (by omega) (by omega) ?_
    exact z_iret X hr rfl (fun t hG hF _ => ⟨⟨0, (w9.1.1, vp_updL f 0 w9.1.2.toInt64, w9.2), rfl, ⟨by rw [hw.1]; rfl, hw.2.1, hw.2.2⟩, hG⟩, hF⟩) dL_pass_19
-- cellOf
set_option maxRecDepth 100000 in
set_option maxHeartbeats 4000000 in
theorem cw_cellOf (l : Launch) {D : va_G} {dA : Nat → ClassId} {A : Nat → Prop} {n : Nat} (hst : l.stackTraces = false) (hA : ∀ q, n ≤ q → A q) {V : Rho} {L : Lst} {N : Cnt} {ad : Adr} {xs : va_W} {XC : String → State → State → Prop} (h11 : 0 < N 11) {q : Nat} {f : Nat → Int64} {a1 : Int32} {o : (Int32) ⊕ Nat} (hcd : ∀ e, o = .inr e → ¬ cd1 e = 0) (h : fc_cellOf V L N a1 = some o) : vx_Met l yL_cellOf (.codeWith yL_cellOf cL_cellOf 4 (some .int) (hdT [(1, 12, 13, 9)]) :: gT) ({ frames := 60, cells := 1, slots := 6, locals := 600 } : Room) (va_Pc [.ref (ad 11 0), .int a1, .ref q] (zBN D dA A n (cx D dA A V L N ad ((q, .inl (dA 7, 1, .inr (.inl f))) :: xs)))) (va_Qi (fun r (u : CW × (Nat → Int64) × Adr) => wQ V L N f cd1 o = (u.1, u.2.1, r) ∧ axt N ad u.2.2 ∧ ∀ k, N k ≤ u.1.2.2 k) (fun u t => cx D dA A u.1.1 u.1.2.1 u.1.2.2 u.2.2 ((q, .inl (dA 7, 1, .inr (.inl u.2.1))) :: xs) t.heap) A) XC (1) (6) A := by
  refine z_metH (by decide) hA hst (Nat.le_of_ble_eq_true rfl) rfl rfl (fun p e s m below meth c X hNc hml hr hh => ?_)
  refine z_aload_n X dL_cellOf_0 rfl rfl ?_
  refine z_iconst (v := 0) X dL_cellOf_1 (by decide) ?_
  refine z_aload_n X dL_cellOf_2 rfl rfl ?_
  refine z_iload_n X dL_cellOf_3 rfl rfl ?_
  refine z_xVc (As := [.int a1]) (rest := [.int 0, .ref q]) (nA := 1) (mc := 1) (ms := 6) (rm := ({ frames := 40, cells := 1, slots := 6, locals := 400 } : Room)) (S := Int32) (r0 := fun w9 => w9) (px := fun u => o = .inr u) (pu := fun w9 => o = .inl w9 ∧ True) (GX := cx D dA A V L N ad ((q, .inl (dA 7, 1, .inr (.inl f))) :: xs)) (G1 := fun w9 => cx D dA A V L N ad ((q, .inl (dA 7, 1, .inr (.inl f))) :: xs)) X hNc [(1, 12, 13, 9)] hh (by decide) (by
    intro z hz
    simp only [List.mem_cons, List.not_mem_nil, or_false] at hz
    subst hz; exact g_315) (cc_cellOf l X.2.2.2.2.2.2.2.2 X.2.2.2.2.2.2.1 h11 h) g_1145 g_1146 g_1147 g_1 g_1148 hd_yX11_cellOf ⟨rfl, rfl, Nat.le_of_ble_eq_true rfl, Nat.le_of_ble_eq_true rfl⟩ rfl (fun _ hG => cx_recv X (k := 11) rfl rfl h11 hG) rfl (Nat.le_of_ble_eq_true rfl) dL_cellOf_4 ⟨by show _ ≤ 1; omega, by show _ ≤ 6; omega⟩ (fun u hu => ?_) (fun w9 hw => ?_)
  · have hc := hcd u hu
    have hu3 : u = 1 := Decidable.byContradiction (fun z => hc (by unfold cd1; (try simp only [not_or] at z); simp [z]))
    subst hu3
    refine ⟨[], 12, 13, 9, [], rfl, by decide, fun q9 => ?_⟩
    refine z_astore_n X dL_cellOf_12 rfl (by rw [hml]; decide) rfl rfl ?_
    refine z_iconst (v := 1) X dL_cellOf_13 (by decide) ?_
    refine zz.widen (k := 1) (n := 6) (by omega) (by omega) ?_
    exact z_iret X hr rfl (fun t hG hF _ => ⟨⟨1, ((V, L, N), f, ad), rfl, ⟨by rw [hu]; rfl, axt.rf N ad, fun _ => Nat.le_refl _⟩, hG⟩, hF⟩) dL_cellOf_14
  · refine z_i2l X dL_cellOf_7 ?_
    refine c_lastX X 0 (xs' := (q, .inl (dA 7, 1, .inr (.inl (vp_updL f 0 (w9).toInt64)))) :: xs) rfl (fun z => z.elim (fun y => absurd y (by decide)) (fun y => absurd y (by decide))) rfl dL_cellOf_8 ?_
    refine z_goto (tgt := 15) X dL_cellOf_9 (by decide) ?_
    refine z_iconst (v := 0) X dL_cellOf_15 (by decide) ?_
    refine zz.widen (k := 1) (n := 6) (by omega) (by omega) ?_
    exact z_iret X hr rfl (fun t hG hF _ => ⟨⟨0, ((V, L, N), vp_updL f 0 (Int32.toInt64 w9), ad), rfl, ⟨by rw [hw.1]; rfl, axt.rf N ad, fun _ => Nat.le_refl _⟩, hG⟩, hF⟩) dL_cellOf_16
-- rateOf
set_option maxRecDepth 100000 in
set_option maxHeartbeats 4000000 in
theorem cw_rateOf (l : Launch) {D : va_G} {dA : Nat → ClassId} {A : Nat → Prop} {n : Nat} (hst : l.stackTraces = false) (hA : ∀ q, n ≤ q → A q) {V : Rho} {L : Lst} {N : Cnt} {ad : Adr} {xs : va_W} {XC : String → State → State → Prop} (h11 : 0 < N 11) {q : Nat} {f : Nat → Int64} {a1 : Int32} {o : (Int32) ⊕ Nat} (hcd : ∀ e, o = .inr e → ¬ cd1 e = 0) (h : fc_rateOf V L N a1 = some o) : vx_Met l yL_rateOf (.codeWith yL_rateOf cL_rateOf 4 (some .int) (hdT [(1, 12, 13, 9)]) :: gT) ({ frames := 80, cells := 1, slots := 6, locals := 800 } : Room) (va_Pc [.ref (ad 11 0), .int a1, .ref q] (zBN D dA A n (cx D dA A V L N ad ((q, .inl (dA 7, 1, .inr (.inl f))) :: xs)))) (va_Qi (fun r (u : CW × (Nat → Int64) × Adr) => wQ V L N f cd1 o = (u.1, u.2.1, r) ∧ axt N ad u.2.2 ∧ ∀ k, N k ≤ u.1.2.2 k) (fun u t => cx D dA A u.1.1 u.1.2.1 u.1.2.2 u.2.2 ((q, .inl (dA 7, 1, .inr (.inl u.2.1))) :: xs) t.heap) A) XC (1) (6) A := by
  refine z_metH (by decide) hA hst (Nat.le_of_ble_eq_true rfl) rfl rfl (fun p e s m below meth c X hNc hml hr hh => ?_)
  refine z_aload_n X dL_rateOf_0 rfl rfl ?_
  refine z_iconst (v := 0) X dL_rateOf_1 (by decide) ?_
  refine z_aload_n X dL_rateOf_2 rfl rfl ?_
  refine z_iload_n X dL_rateOf_3 rfl rfl ?_
  refine z_xVc (As := [.int a1]) (rest := [.int 0, .ref q]) (nA := 1) (mc := 1) (ms := 6) (rm := ({ frames := 60, cells := 1, slots := 6, locals := 600 } : Room)) (S := Int32) (r0 := fun w9 => w9) (px := fun u => o = .inr u) (pu := fun w9 => o = .inl w9 ∧ True) (GX := cx D dA A V L N ad ((q, .inl (dA 7, 1, .inr (.inl f))) :: xs)) (G1 := fun w9 => cx D dA A V L N ad ((q, .inl (dA 7, 1, .inr (.inl f))) :: xs)) X hNc [(1, 12, 13, 9)] hh (by decide) (by
    intro z hz
    simp only [List.mem_cons, List.not_mem_nil, or_false] at hz
    subst hz; exact g_315) (cc_rateOf l X.2.2.2.2.2.2.2.2 X.2.2.2.2.2.2.1 h11 h) g_1152 g_1153 g_1154 g_1 g_1155 hd_yX11_rateOf ⟨rfl, rfl, Nat.le_of_ble_eq_true rfl, Nat.le_of_ble_eq_true rfl⟩ rfl (fun _ hG => cx_recv X (k := 11) rfl rfl h11 hG) rfl (Nat.le_of_ble_eq_true rfl) dL_rateOf_4 ⟨by show _ ≤ 1; omega, by show _ ≤ 6; omega⟩ (fun u hu => ?_) (fun w9 hw => ?_)
  · have hc := hcd u hu
    have hu3 : u = 1 := Decidable.byContradiction (fun z => hc (by unfold cd1; (try simp only [not_or] at z); simp [z]))
    subst hu3
    refine ⟨[], 12, 13, 9, [], rfl, by decide, fun q9 => ?_⟩
    refine z_astore_n X dL_rateOf_12 rfl (by rw [hml]; decide) rfl rfl ?_
    refine z_iconst (v := 1) X dL_rateOf_13 (by decide) ?_
    refine zz.widen (k := 1) (n := 6) (by omega) (by omega) ?_
    exact z_iret X hr rfl (fun t hG hF _ => ⟨⟨1, ((V, L, N), f, ad), rfl, ⟨by rw [hu]; rfl, axt.rf N ad, fun _ => Nat.le_refl _⟩, hG⟩, hF⟩) dL_rateOf_14
  · refine z_i2l X dL_rateOf_7 ?_
    refine c_lastX X 0 (xs' := (q, .inl (dA 7, 1, .inr (.inl (vp_updL f 0 (w9).toInt64)))) :: xs) rfl (fun z => z.elim (fun y => absurd y (by decide)) (fun y => absurd y (by decide))) rfl dL_rateOf_8 ?_
    refine z_goto (tgt := 15) X dL_rateOf_9 (by decide) ?_
    refine z_iconst (v := 0) X dL_rateOf_15 (by decide) ?_
    refine zz.widen (k := 1) (n := 6) (by omega) (by omega) ?_
    exact z_iret X hr rfl (fun t hG hF _ => ⟨⟨0, ((V, L, N), vp_updL f 0 (Int32.toInt64 w9), ad), rfl, ⟨by rw [hw.1]; rfl, axt.rf N ad, fun _ => Nat.le_refl _⟩, hG⟩, hF⟩) dL_rateOf_16
-- legOf
set_option maxRecDepth 100000 in
set_option maxHeartbeats 4000000 in
theorem cw_legOf (l : Launch) {D : va_G} {dA : Nat → ClassId} {A : Nat → Prop} {n : Nat} (hst : l.stackTraces = false) (hA : ∀ q, n ≤ q → A q) {V : Rho} {L : Lst} {N : Cnt} {ad : Adr} {xs : va_W} {XC : String → State → State → Prop} (h11 : 0 < N 11) {q : Nat} {f : Nat → Int64} {a1 : Int32} {o : (Int32) ⊕ Nat} (hcd : ∀ e, o = .inr e → ¬ cd1 e = 0) (h : fc_legOf V L N a1 = some o) : vx_Met l yL_legOf (.codeWith yL_legOf cL_legOf 4 (some .int) (hdT [(1, 12, 13, 9)]) :: gT) ({ frames := 60, cells := 1, slots := 6, locals := 600 } : Room) (va_Pc [.ref (ad 11 0), .int a1, .ref q] (zBN D dA A n (cx D dA A V L N ad ((q, .inl (dA 7, 1, .inr (.inl f))) :: xs)))) (va_Qi (fun r (u : CW × (Nat → Int64) × Adr) => wQ V L N f cd1 o = (u.1, u.2.1, r) ∧ axt N ad u.2.2 ∧ ∀ k, N k ≤ u.1.2.2 k) (fun u t => cx D dA A u.1.1 u.1.2.1 u.1.2.2 u.2.2 ((q, .inl (dA 7, 1, .inr (.inl u.2.1))) :: xs) t.heap) A) XC (1) (6) A := by
  refine z_metH (by decide) hA hst (Nat.le_of_ble_eq_true rfl) rfl rfl (fun p e s m below meth c X hNc hml hr hh => ?_)
  refine z_aload_n X dL_legOf_0 rfl rfl ?_
  refine z_iconst (v := 0) X dL_legOf_1 (by decide) ?_
  refine z_aload_n X dL_legOf_2 rfl rfl ?_
  refine z_iload_n X dL_legOf_3 rfl rfl ?_
  refine z_xVc (As := [.int a1]) (rest := [.int 0, .ref q]) (nA := 1) (mc := 1) (ms := 6) (rm := ({ frames := 40, cells := 1, slots := 6, locals := 400 } : Room)) (S := Int32) (r0 := fun w9 => w9) (px := fun u => o = .inr u) (pu := fun w9 => o = .inl w9 ∧ True) (GX := cx D dA A V L N ad ((q, .inl (dA 7, 1, .inr (.inl f))) :: xs)) (G1 := fun w9 => cx D dA A V L N ad ((q, .inl (dA 7, 1, .inr (.inl f))) :: xs)) X hNc [(1, 12, 13, 9)] hh (by decide) (by
    intro z hz
    simp only [List.mem_cons, List.not_mem_nil, or_false] at hz
    subst hz; exact g_315) (cc_legOf l X.2.2.2.2.2.2.2.2 X.2.2.2.2.2.2.1 h11 h) g_1159 g_1160 g_1161 g_1 g_1162 hd_yX11_legOf ⟨rfl, rfl, Nat.le_of_ble_eq_true rfl, Nat.le_of_ble_eq_true rfl⟩ rfl (fun _ hG => cx_recv X (k := 11) rfl rfl h11 hG) rfl (Nat.le_of_ble_eq_true rfl) dL_legOf_4 ⟨by show _ ≤ 1; omega, by show _ ≤ 6; omega⟩ (fun u hu => ?_) (fun w9 hw => ?_)
  · have hc := hcd u hu
    have hu3 : u = 1 := Decidable.byContradiction (fun z => hc (by unfold cd1; (try simp only [not_or] at z); simp [z]))
    subst hu3
    refine ⟨[], 12, 13, 9, [], rfl, by decide, fun q9 => ?_⟩
    refine z_astore_n X dL_legOf_12 rfl (by rw [hml]; decide) rfl rfl ?_
    refine z_iconst (v := 1) X dL_legOf_13 (by decide) ?_
    refine zz.widen (k := 1) (n := 6) (by omega) (by omega) ?_
    exact z_iret X hr rfl (fun t hG hF _ => ⟨⟨1, ((V, L, N), f, ad), rfl, ⟨by rw [hu]; rfl, axt.rf N ad, fun _ => Nat.le_refl _⟩, hG⟩, hF⟩) dL_legOf_14
  · refine z_i2l X dL_legOf_7 ?_
    refine c_lastX X 0 (xs' := (q, .inl (dA 7, 1, .inr (.inl (vp_updL f 0 (w9).toInt64)))) :: xs) rfl (fun z => z.elim (fun y => absurd y (by decide)) (fun y => absurd y (by decide))) rfl dL_legOf_8 ?_
    refine z_goto (tgt := 15) X dL_legOf_9 (by decide) ?_
    refine z_iconst (v := 0) X dL_legOf_15 (by decide) ?_
    refine zz.widen (k := 1) (n := 6) (by omega) (by omega) ?_
    exact z_iret X hr rfl (fun t hG hF _ => ⟨⟨0, ((V, L, N), vp_updL f 0 (Int32.toInt64 w9), ad), rfl, ⟨by rw [hw.1]; rfl, axt.rf N ad, fun _ => Nat.le_refl _⟩, hG⟩, hF⟩) dL_legOf_16
-- sliceOf
set_option maxRecDepth 100000 in
set_option maxHeartbeats 4000000 in
theorem cw_sliceOf (l : Launch) {D : va_G} {dA : Nat → ClassId} {A : Nat → Prop} {n : Nat} (hst : l.stackTraces = false) (hA : ∀ q, n ≤ q → A q) {V : Rho} {L : Lst} {N : Cnt} {ad : Adr} {xs : va_W} {XC : String → State → State → Prop} (h11 : 0 < N 11) {q : Nat} {f : Nat → Int64} {a1 : Int32} {o : (Int32) ⊕ Nat} (hcd : ∀ e, o = .inr e → ¬ cd1 e = 0) (h : fc_sliceOf V L N a1 = some o) : vx_Met l yL_sliceOf (.codeWith yL_sliceOf cL_sliceOf 4 (some .int) (hdT [(1, 12, 13, 9)]) :: gT) ({ frames := 60, cells := 1, slots := 6, locals := 600 } : Room) (va_Pc [.ref (ad 11 0), .int a1, .ref q] (zBN D dA A n (cx D dA A V L N ad ((q, .inl (dA 7, 1, .inr (.inl f))) :: xs)))) (va_Qi (fun r (u : CW × (Nat → Int64) × Adr) => wQ V L N f cd1 o = (u.1, u.2.1, r) ∧ axt N ad u.2.2 ∧ ∀ k, N k ≤ u.1.2.2 k) (fun u t => cx D dA A u.1.1 u.1.2.1 u.1.2.2 u.2.2 ((q, .inl (dA 7, 1, .inr (.inl u.2.1))) :: xs) t.heap) A) XC (1) (6) A := by
  refine z_metH (by decide) hA hst (Nat.le_of_ble_eq_true rfl) rfl rfl (fun p e s m below meth c X hNc hml hr hh => ?_)
  refine z_aload_n X dL_sliceOf_0 rfl rfl ?_
  refine z_iconst (v := 0) X dL_sliceOf_1 (by decide) ?_
  refine z_aload_n X dL_sliceOf_2 rfl rfl ?_
  refine z_iload_n X dL_sliceOf_3 rfl rfl ?_
  refine z_xVc (As := [.int a1]) (rest := [.int 0, .ref q]) (nA := 1) (mc := 1) (ms := 6) (rm := ({ frames := 40, cells := 1, slots := 6, locals := 400 } : Room)) (S := Int32) (r0 := fun w9 => w9) (px := fun u => o = .inr u) (pu := fun w9 => o = .inl w9 ∧ True) (GX := cx D dA A V L N ad ((q, .inl (dA 7, 1, .inr (.inl f))) :: xs)) (G1 := fun w9 => cx D dA A V L N ad ((q, .inl (dA 7, 1, .inr (.inl f))) :: xs)) X hNc [(1, 12, 13, 9)] hh (by decide) (by
    intro z hz
    simp only [List.mem_cons, List.not_mem_nil, or_false] at hz
    subst hz; exact g_315) (cc_sliceOf l X.2.2.2.2.2.2.2.2 X.2.2.2.2.2.2.1 h11 h) g_1166 g_1167 g_1168 g_1 g_1169 hd_yX11_sliceOf ⟨rfl, rfl, Nat.le_of_ble_eq_true rfl, Nat.le_of_ble_eq_true rfl⟩ rfl (fun _ hG => cx_recv X (k := 11) rfl rfl h11 hG) rfl (Nat.le_of_ble_eq_true rfl) dL_sliceOf_4 ⟨by show _ ≤ 1; omega, by show _ ≤ 6; omega⟩ (fun u hu => ?_) (fun w9 hw => ?_)
  · have hc := hcd u hu
    have hu3 : u = 1 := Decidable.byContradiction (fun z => hc (by unfold cd1; (try simp only [not_or] at z); simp [z]))
    subst hu3
    refine ⟨[], 12, 13, 9, [], rfl, by decide, fun q9 => ?_⟩
    refine z_astore_n X dL_sliceOf_12 rfl (by rw [hml]; decide) rfl rfl ?_
    refine z_iconst (v := 1) X dL_sliceOf_13 (by decide) ?_
    refine zz.widen (k := 1) (n := 6) (by omega) (by omega) ?_
    exact z_iret X hr rfl (fun t hG hF _ => ⟨⟨1, ((V, L, N), f, ad), rfl, ⟨by rw [hu]; rfl, axt.rf N ad, fun _ => Nat.le_refl _⟩, hG⟩, hF⟩) dL_sliceOf_14
  · refine z_i2l X dL_sliceOf_7 ?_
    refine c_lastX X 0 (xs' := (q, .inl (dA 7, 1, .inr (.inl (vp_updL f 0 (w9).toInt64)))) :: xs) rfl (fun z => z.elim (fun y => absurd y (by decide)) (fun y => absurd y (by decide))) rfl dL_sliceOf_8 ?_
    refine z_goto (tgt := 15) X dL_sliceOf_9 (by decide) ?_
    refine z_iconst (v := 0) X dL_sliceOf_15 (by decide) ?_
    refine zz.widen (k := 1) (n := 6) (by omega) (by omega) ?_
    exact z_iret X hr rfl (fun t hG hF _ => ⟨⟨0, ((V, L, N), vp_updL f 0 (Int32.toInt64 w9), ad), rfl, ⟨by rw [hw.1]; rfl, axt.rf N ad, fun _ => Nat.le_refl _⟩, hG⟩, hF⟩) dL_sliceOf_16
-- parties
set_option maxRecDepth 100000 in
set_option maxHeartbeats 4000000 in
theorem cw_parties (l : Launch) {D : va_G} {dA : Nat → ClassId} {A : Nat → Prop} {n : Nat} (hst : l.stackTraces = false) (hA : ∀ q, n ≤ q → A q) {V : Rho} {L : Lst} {N : Cnt} {ad : Adr} {xs : va_W} {XC : String → State → State → Prop} (h11 : 0 < N 11) {q : Nat} {f : Nat → Int64} {a1 : Int32} {o : (Int32) ⊕ Nat} (hcd : ∀ e, o = .inr e → ¬ cd1 e = 0) (h : fc_parties V L N a1 = some o) : vx_Met l yL_parties (.codeWith yL_parties cL_parties 4 (some .int) (hdT [(1, 12, 13, 9)]) :: gT) ({ frames := 220, cells := 1, slots := 6, locals := 2200 } : Room) (va_Pc [.ref (ad 11 0), .int a1, .ref q] (zBN D dA A n (cx D dA A V L N ad ((q, .inl (dA 7, 1, .inr (.inl f))) :: xs)))) (va_Qi (fun r (u : CW × (Nat → Int64) × Adr) => wQ V L N f cd1 o = (u.1, u.2.1, r) ∧ axt N ad u.2.2 ∧ ∀ k, N k ≤ u.1.2.2 k) (fun u t => cx D dA A u.1.1 u.1.2.1 u.1.2.2 u.2.2 ((q, .inl (dA 7, 1, .inr (.inl u.2.1))) :: xs) t.heap) A) XC (1) (6) A := by
  refine z_metH (by decide) hA hst (Nat.le_of_ble_eq_true rfl) rfl rfl (fun p e s m below meth c X hNc hml hr hh => ?_)
  refine z_aload_n X dL_parties_0 rfl rfl ?_
  refine z_iconst (v := 0) X dL_parties_1 (by decide) ?_
  refine z_aload_n X dL_parties_2 rfl rfl ?_
  refine z_iload_n X dL_parties_3 rfl rfl ?_
  refine z_xVc (As := [.int a1]) (rest := [.int 0, .ref q]) (nA := 1) (mc := 1) (ms := 6) (rm := ({ frames := 200, cells := 1, slots := 6, locals := 2000 } : Room)) (S := Int32) (r0 := fun w9 => w9) (px := fun u => o = .inr u) (pu := fun w9 => o = .inl w9 ∧ True) (GX := cx D dA A V L N ad ((q, .inl (dA 7, 1, .inr (.inl f))) :: xs)) (G1 := fun w9 => cx D dA A V L N ad ((q, .inl (dA 7, 1, .inr (.inl f))) :: xs)) X hNc [(1, 12, 13, 9)] hh (by decide) (by
    intro z hz
    simp only [List.mem_cons, List.not_mem_nil, or_false] at hz
    subst hz; exact g_315) (cc_parties l X.2.2.2.2.2.2.2.2 X.2.2.2.2.2.2.1 h11 h) g_1173 g_1174 g_1175 g_1 g_1176 hd_yX11_parties ⟨rfl, rfl, Nat.le_of_ble_eq_true rfl, Nat.le_of_ble_eq_true rfl⟩ rfl (fun _ hG => cx_recv X (k := 11) rfl rfl h11 hG) rfl (Nat.le_of_ble_eq_true rfl) dL_parties_4 ⟨by show _ ≤ 1; omega, by show _ ≤ 6; omega⟩ (fun u hu => ?_) (fun w9 hw => ?_)
  · have hc := hcd u hu
    have hu3 : u = 1 := Decidable.byContradiction (fun z => hc (by unfold cd1; (try simp only [not_or] at z); simp [z]))
    subst hu3
    refine ⟨[], 12, 13, 9, [], rfl, by decide, fun q9 => ?_⟩
    refine z_astore_n X dL_parties_12 rfl (by rw [hml]; decide) rfl rfl ?_
    refine z_iconst (v := 1) X dL_parties_13 (by decide) ?_
    refine zz.widen (k := 1) (n := 6) (by omega) (by omega) ?_
    exact z_iret X hr rfl (fun t hG hF _ => ⟨⟨1, ((V, L, N), f, ad), rfl, ⟨by rw [hu]; rfl, axt.rf N ad, fun _ => Nat.le_refl _⟩, hG⟩, hF⟩) dL_parties_14
  · refine z_i2l X dL_parties_7 ?_
    refine c_lastX X 0 (xs' := (q, .inl (dA 7, 1, .inr (.inl (vp_updL f 0 (w9).toInt64)))) :: xs) rfl (fun z => z.elim (fun y => absurd y (by decide)) (fun y => absurd y (by decide))) rfl dL_parties_8 ?_
    refine z_goto (tgt := 15) X dL_parties_9 (by decide) ?_
    refine z_iconst (v := 0) X dL_parties_15 (by decide) ?_
    refine zz.widen (k := 1) (n := 6) (by omega) (by omega) ?_
    exact z_iret X hr rfl (fun t hG hF _ => ⟨⟨0, ((V, L, N), vp_updL f 0 (Int32.toInt64 w9), ad), rfl, ⟨by rw [hw.1]; rfl, axt.rf N ad, fun _ => Nat.le_refl _⟩, hG⟩, hF⟩) dL_parties_16
-- stateOf
set_option maxRecDepth 100000 in
set_option maxHeartbeats 4000000 in
theorem cw_stateOf (l : Launch) {D : va_G} {dA : Nat → ClassId} {A : Nat → Prop} {n : Nat} (hst : l.stackTraces = false) (hA : ∀ q, n ≤ q → A q) {V : Rho} {L : Lst} {N : Cnt} {ad : Adr} {xs : va_W} {XC : String → State → State → Prop} (h11 : 0 < N 11) {q : Nat} {f : Nat → Int64} {a1 : Int32} {o : (Int32) ⊕ Nat} (hcd : ∀ e, o = .inr e → ¬ cd1 e = 0) (h : fc_stateOf V L N a1 = some o) : vx_Met l yL_stateOf (.codeWith yL_stateOf cL_stateOf 4 (some .int) (hdT [(1, 12, 13, 9)]) :: gT) ({ frames := 220, cells := 1, slots := 6, locals := 2200 } : Room) (va_Pc [.ref (ad 11 0), .int a1, .ref q] (zBN D dA A n (cx D dA A V L N ad ((q, .inl (dA 7, 1, .inr (.inl f))) :: xs)))) (va_Qi (fun r (u : CW × (Nat → Int64) × Adr) => wQ V L N f cd1 o = (u.1, u.2.1, r) ∧ axt N ad u.2.2 ∧ ∀ k, N k ≤ u.1.2.2 k) (fun u t => cx D dA A u.1.1 u.1.2.1 u.1.2.2 u.2.2 ((q, .inl (dA 7, 1, .inr (.inl u.2.1))) :: xs) t.heap) A) XC (1) (6) A := by
  refine z_metH (by decide) hA hst (Nat.le_of_ble_eq_true rfl) rfl rfl (fun p e s m below meth c X hNc hml hr hh => ?_)
  refine z_aload_n X dL_stateOf_0 rfl rfl ?_
  refine z_iconst (v := 0) X dL_stateOf_1 (by decide) ?_
  refine z_aload_n X dL_stateOf_2 rfl rfl ?_
  refine z_iload_n X dL_stateOf_3 rfl rfl ?_
  refine z_xVc (As := [.int a1]) (rest := [.int 0, .ref q]) (nA := 1) (mc := 1) (ms := 6) (rm := ({ frames := 200, cells := 1, slots := 6, locals := 2000 } : Room)) (S := Int32) (r0 := fun w9 => w9) (px := fun u => o = .inr u) (pu := fun w9 => o = .inl w9 ∧ True) (GX := cx D dA A V L N ad ((q, .inl (dA 7, 1, .inr (.inl f))) :: xs)) (G1 := fun w9 => cx D dA A V L N ad ((q, .inl (dA 7, 1, .inr (.inl f))) :: xs)) X hNc [(1, 12, 13, 9)] hh (by decide) (by
    intro z hz
    simp only [List.mem_cons, List.not_mem_nil, or_false] at hz
    subst hz; exact g_315) (cc_stateOf l X.2.2.2.2.2.2.2.2 X.2.2.2.2.2.2.1 h11 h) g_1180 g_1181 g_1182 g_1 g_1183 hd_yX11_stateOf ⟨rfl, rfl, Nat.le_of_ble_eq_true rfl, Nat.le_of_ble_eq_true rfl⟩ rfl (fun _ hG => cx_recv X (k := 11) rfl rfl h11 hG) rfl (Nat.le_of_ble_eq_true rfl) dL_stateOf_4 ⟨by show _ ≤ 1; omega, by show _ ≤ 6; omega⟩ (fun u hu => ?_) (fun w9 hw => ?_)
  · have hc := hcd u hu
    have hu3 : u = 1 := Decidable.byContradiction (fun z => hc (by unfold cd1; (try simp only [not_or] at z); simp [z]))
    subst hu3
    refine ⟨[], 12, 13, 9, [], rfl, by decide, fun q9 => ?_⟩
    refine z_astore_n X dL_stateOf_12 rfl (by rw [hml]; decide) rfl rfl ?_
    refine z_iconst (v := 1) X dL_stateOf_13 (by decide) ?_
    refine zz.widen (k := 1) (n := 6) (by omega) (by omega) ?_
    exact z_iret X hr rfl (fun t hG hF _ => ⟨⟨1, ((V, L, N), f, ad), rfl, ⟨by rw [hu]; rfl, axt.rf N ad, fun _ => Nat.le_refl _⟩, hG⟩, hF⟩) dL_stateOf_14
  · refine z_i2l X dL_stateOf_7 ?_
    refine c_lastX X 0 (xs' := (q, .inl (dA 7, 1, .inr (.inl (vp_updL f 0 (w9).toInt64)))) :: xs) rfl (fun z => z.elim (fun y => absurd y (by decide)) (fun y => absurd y (by decide))) rfl dL_stateOf_8 ?_
    refine z_goto (tgt := 15) X dL_stateOf_9 (by decide) ?_
    refine z_iconst (v := 0) X dL_stateOf_15 (by decide) ?_
    refine zz.widen (k := 1) (n := 6) (by omega) (by omega) ?_
    exact z_iret X hr rfl (fun t hG hF _ => ⟨⟨0, ((V, L, N), vp_updL f 0 (Int32.toInt64 w9), ad), rfl, ⟨by rw [hw.1]; rfl, axt.rf N ad, fun _ => Nat.le_refl _⟩, hG⟩, hF⟩) dL_stateOf_16
-- seconds
set_option maxRecDepth 100000 in
set_option maxHeartbeats 4000000 in
theorem cw_seconds (l : Launch) {D : va_G} {dA : Nat → ClassId} {A : Nat → Prop} {n : Nat} (hst : l.stackTraces = false) (hA : ∀ q, n ≤ q → A q) {V : Rho} {L : Lst} {N : Cnt} {ad : Adr} {xs : va_W} {XC : String → State → State → Prop} (h11 : 0 < N 11) {q : Nat} {f : Nat → Int64} {a1 : Int32} {o : (Int32) ⊕ Nat} (hcd : ∀ e, o = .inr e → ¬ cd1 e = 0) (h : fc_seconds V L N a1 = some o) : vx_Met l yL_seconds (.codeWith yL_seconds cL_seconds 4 (some .int) (hdT [(1, 12, 13, 9)]) :: gT) ({ frames := 220, cells := 1, slots := 6, locals := 2200 } : Room) (va_Pc [.ref (ad 11 0), .int a1, .ref q] (zBN D dA A n (cx D dA A V L N ad ((q, .inl (dA 7, 1, .inr (.inl f))) :: xs)))) (va_Qi (fun r (u : CW × (Nat → Int64) × Adr) => wQ V L N f cd1 o = (u.1, u.2.1, r) ∧ axt N ad u.2.2 ∧ ∀ k, N k ≤ u.1.2.2 k) (fun u t => cx D dA A u.1.1 u.1.2.1 u.1.2.2 u.2.2 ((q, .inl (dA 7, 1, .inr (.inl u.2.1))) :: xs) t.heap) A) XC (1) (6) A := by
  refine z_metH (by decide) hA hst (Nat.le_of_ble_eq_true rfl) rfl rfl (fun p e s m below meth c X hNc hml hr hh => ?_)
  refine z_aload_n X dL_seconds_0 rfl rfl ?_
  refine z_iconst (v := 0) X dL_seconds_1 (by decide) ?_
  refine z_aload_n X dL_seconds_2 rfl rfl ?_
  refine z_iload_n X dL_seconds_3 rfl rfl ?_
  refine z_xVc (As := [.int a1]) (rest := [.int 0, .ref q]) (nA := 1) (mc := 1) (ms := 6) (rm := ({ frames := 200, cells := 1, slots := 6, locals := 2000 } : Room)) (S := Int32) (r0 := fun w9 => w9) (px := fun u => o = .inr u) (pu := fun w9 => o = .inl w9 ∧ True) (GX := cx D dA A V L N ad ((q, .inl (dA 7, 1, .inr (.inl f))) :: xs)) (G1 := fun w9 => cx D dA A V L N ad ((q, .inl (dA 7, 1, .inr (.inl f))) :: xs)) X hNc [(1, 12, 13, 9)] hh (by decide) (by
    intro z hz
    simp only [List.mem_cons, List.not_mem_nil, or_false] at hz
    subst hz; exact g_315) (cc_seconds l X.2.2.2.2.2.2.2.2 X.2.2.2.2.2.2.1 h11 h) g_1192 g_1193 g_1194 g_1 g_1195 hd_yX11_seconds ⟨rfl, rfl, Nat.le_of_ble_eq_true rfl, Nat.le_of_ble_eq_true rfl⟩ rfl (fun _ hG => cx_recv X (k := 11) rfl rfl h11 hG) rfl (Nat.le_of_ble_eq_true rfl) dL_seconds_4 ⟨by show _ ≤ 1; omega, by show _ ≤ 6; omega⟩ (fun u hu => ?_) (fun w9 hw => ?_)
  · have hc := hcd u hu
    have hu3 : u = 1 := Decidable.byContradiction (fun z => hc (by unfold cd1; (try simp only [not_or] at z); simp [z]))
    subst hu3
    refine ⟨[], 12, 13, 9, [], rfl, by decide, fun q9 => ?_⟩
    refine z_astore_n X dL_seconds_12 rfl (by rw [hml]; decide) rfl rfl ?_
    refine z_iconst (v := 1) X dL_seconds_13 (by decide) ?_
    refine zz.widen (k := 1) (n := 6) (by omega) (by omega) ?_
    exact z_iret X hr rfl (fun t hG hF _ => ⟨⟨1, ((V, L, N), f, ad), rfl, ⟨by rw [hu]; rfl, axt.rf N ad, fun _ => Nat.le_refl _⟩, hG⟩, hF⟩) dL_seconds_14
  · refine z_i2l X dL_seconds_7 ?_
    refine c_lastX X 0 (xs' := (q, .inl (dA 7, 1, .inr (.inl (vp_updL f 0 (w9).toInt64)))) :: xs) rfl (fun z => z.elim (fun y => absurd y (by decide)) (fun y => absurd y (by decide))) rfl dL_seconds_8 ?_
    refine z_goto (tgt := 15) X dL_seconds_9 (by decide) ?_
    refine z_iconst (v := 0) X dL_seconds_15 (by decide) ?_
    refine zz.widen (k := 1) (n := 6) (by omega) (by omega) ?_
    exact z_iret X hr rfl (fun t hG hF _ => ⟨⟨0, ((V, L, N), vp_updL f 0 (Int32.toInt64 w9), ad), rfl, ⟨by rw [hw.1]; rfl, axt.rf N ad, fun _ => Nat.le_refl _⟩, hG⟩, hF⟩) dL_seconds_16
-- charged
set_option maxRecDepth 100000 in
set_option maxHeartbeats 4000000 in
theorem cw_charged (l : Launch) {D : va_G} {dA : Nat → ClassId} {A : Nat → Prop} {n : Nat} (hst : l.stackTraces = false) (hA : ∀ q, n ≤ q → A q) {V : Rho} {L : Lst} {N : Cnt} {ad : Adr} {xs : va_W} {XC : String → State → State → Prop} (h11 : 0 < N 11) {q : Nat} {f : Nat → Int64} {a1 : Int32} {o : (Int32) ⊕ Nat} (hcd : ∀ e, o = .inr e → ¬ cd1 e = 0) (h : fc_charged V L N a1 = some o) : vx_Met l yL_charged (.codeWith yL_charged cL_charged 4 (some .int) (hdT [(1, 12, 13, 9)]) :: gT) ({ frames := 220, cells := 1, slots := 6, locals := 2200 } : Room) (va_Pc [.ref (ad 11 0), .int a1, .ref q] (zBN D dA A n (cx D dA A V L N ad ((q, .inl (dA 7, 1, .inr (.inl f))) :: xs)))) (va_Qi (fun r (u : CW × (Nat → Int64) × Adr) => wQ V L N f cd1 o = (u.1, u.2.1, r) ∧ axt N ad u.2.2 ∧ ∀ k, N k ≤ u.1.2.2 k) (fun u t => cx D dA A u.1.1 u.1.2.1 u.1.2.2 u.2.2 ((q, .inl (dA 7, 1, .inr (.inl u.2.1))) :: xs) t.heap) A) XC (1) (6) A := by
  refine z_metH (by decide) hA hst (Nat.le_of_ble_eq_true rfl) rfl rfl (fun p e s m below meth c X hNc hml hr hh => ?_)
  refine z_aload_n X dL_charged_0 rfl rfl ?_
  refine z_iconst (v := 0) X dL_charged_1 (by decide) ?_
  refine z_aload_n X dL_charged_2 rfl rfl ?_
  refine z_iload_n X dL_charged_3 rfl rfl ?_
  refine z_xVc (As := [.int a1]) (rest := [.int 0, .ref q]) (nA := 1) (mc := 1) (ms := 6) (rm := ({ frames := 200, cells := 1, slots := 6, locals := 2000 } : Room)) (S := Int32) (r0 := fun w9 => w9) (px := fun u => o = .inr u) (pu := fun w9 => o = .inl w9 ∧ True) (GX := cx D dA A V L N ad ((q, .inl (dA 7, 1, .inr (.inl f))) :: xs)) (G1 := fun w9 => cx D dA A V L N ad ((q, .inl (dA 7, 1, .inr (.inl f))) :: xs)) X hNc [(1, 12, 13, 9)] hh (by decide) (by
    intro z hz
    simp only [List.mem_cons, List.not_mem_nil, or_false] at hz
    subst hz; exact g_315) (cc_charged l X.2.2.2.2.2.2.2.2 X.2.2.2.2.2.2.1 h11 h) g_1199 g_1200 g_1201 g_1 g_1202 hd_yX11_charged ⟨rfl, rfl, Nat.le_of_ble_eq_true rfl, Nat.le_of_ble_eq_true rfl⟩ rfl (fun _ hG => cx_recv X (k := 11) rfl rfl h11 hG) rfl (Nat.le_of_ble_eq_true rfl) dL_charged_4 ⟨by show _ ≤ 1; omega, by show _ ≤ 6; omega⟩ (fun u hu => ?_) (fun w9 hw => ?_)
  · have hc := hcd u hu
    have hu3 : u = 1 := Decidable.byContradiction (fun z => hc (by unfold cd1; (try simp only [not_or] at z); simp [z]))
    subst hu3
    refine ⟨[], 12, 13, 9, [], rfl, by decide, fun q9 => ?_⟩
    refine z_astore_n X dL_charged_12 rfl (by rw [hml]; decide) rfl rfl ?_
    refine z_iconst (v := 1) X dL_charged_13 (by decide) ?_
    refine zz.widen (k := 1) (n := 6) (by omega) (by omega) ?_
    exact z_iret X hr rfl (fun t hG hF _ => ⟨⟨1, ((V, L, N), f, ad), rfl, ⟨by rw [hu]; rfl, axt.rf N ad, fun _ => Nat.le_refl _⟩, hG⟩, hF⟩) dL_charged_14
  · refine z_i2l X dL_charged_7 ?_
    refine c_lastX X 0 (xs' := (q, .inl (dA 7, 1, .inr (.inl (vp_updL f 0 (w9).toInt64)))) :: xs) rfl (fun z => z.elim (fun y => absurd y (by decide)) (fun y => absurd y (by decide))) rfl dL_charged_8 ?_
    refine z_goto (tgt := 15) X dL_charged_9 (by decide) ?_
    refine z_iconst (v := 0) X dL_charged_15 (by decide) ?_
    refine zz.widen (k := 1) (n := 6) (by omega) (by omega) ?_
    exact z_iret X hr rfl (fun t hG hF _ => ⟨⟨0, ((V, L, N), vp_updL f 0 (Int32.toInt64 w9), ad), rfl, ⟨by rw [hw.1]; rfl, axt.rf N ad, fun _ => Nat.le_refl _⟩, hG⟩, hF⟩) dL_charged_16
-- covered
set_option maxRecDepth 100000 in
set_option maxHeartbeats 4000000 in
theorem cw_covered (l : Launch) {D : va_G} {dA : Nat → ClassId} {A : Nat → Prop} {n : Nat} (hst : l.stackTraces = false) (hA : ∀ q, n ≤ q → A q) {V : Rho} {L : Lst} {N : Cnt} {ad : Adr} {xs : va_W} {XC : String → State → State → Prop} (h11 : 0 < N 11) {q : Nat} {f : Nat → Int64} {a1 : Int32} {o : (Int32) ⊕ Nat} (hcd : ∀ e, o = .inr e → ¬ cd1 e = 0) (h : fc_covered V L N a1 = some o) : vx_Met l yL_covered (.codeWith yL_covered cL_covered 4 (some .int) (hdT [(1, 12, 13, 9)]) :: gT) ({ frames := 220, cells := 1, slots := 6, locals := 2200 } : Room) (va_Pc [.ref (ad 11 0), .int a1, .ref q] (zBN D dA A n (cx D dA A V L N ad ((q, .inl (dA 7, 1, .inr (.inl f))) :: xs)))) (va_Qi (fun r (u : CW × (Nat → Int64) × Adr) => wQ V L N f cd1 o = (u.1, u.2.1, r) ∧ axt N ad u.2.2 ∧ ∀ k, N k ≤ u.1.2.2 k) (fun u t => cx D dA A u.1.1 u.1.2.1 u.1.2.2 u.2.2 ((q, .inl (dA 7, 1, .inr (.inl u.2.1))) :: xs) t.heap) A) XC (1) (6) A := by
  refine z_metH (by decide) hA hst (Nat.le_of_ble_eq_true rfl) rfl rfl (fun p e s m below meth c X hNc hml hr hh => ?_)
  refine z_aload_n X dL_covered_0 rfl rfl ?_
  refine z_iconst (v := 0) X dL_covered_1 (by decide) ?_
  refine z_aload_n X dL_covered_2 rfl rfl ?_
  refine z_iload_n X dL_covered_3 rfl rfl ?_
  refine z_xVc (As := [.int a1]) (rest := [.int 0, .ref q]) (nA := 1) (mc := 1) (ms := 6) (rm := ({ frames := 200, cells := 1, slots := 6, locals := 2000 } : Room)) (S := Int32) (r0 := fun w9 => w9) (px := fun u => o = .inr u) (pu := fun w9 => o = .inl w9 ∧ True) (GX := cx D dA A V L N ad ((q, .inl (dA 7, 1, .inr (.inl f))) :: xs)) (G1 := fun w9 => cx D dA A V L N ad ((q, .inl (dA 7, 1, .inr (.inl f))) :: xs)) X hNc [(1, 12, 13, 9)] hh (by decide) (by
    intro z hz
    simp only [List.mem_cons, List.not_mem_nil, or_false] at hz
    subst hz; exact g_315) (cc_covered l X.2.2.2.2.2.2.2.2 X.2.2.2.2.2.2.1 h11 h) g_1206 g_1207 g_1208 g_1 g_1209 hd_yX11_covered ⟨rfl, rfl, Nat.le_of_ble_eq_true rfl, Nat.le_of_ble_eq_true rfl⟩ rfl (fun _ hG => cx_recv X (k := 11) rfl rfl h11 hG) rfl (Nat.le_of_ble_eq_true rfl) dL_covered_4 ⟨by show _ ≤ 1; omega, by show _ ≤ 6; omega⟩ (fun u hu => ?_) (fun w9 hw => ?_)
  · have hc := hcd u hu
    have hu3 : u = 1 := Decidable.byContradiction (fun z => hc (by unfold cd1; (try simp only [not_or] at z); simp [z]))
    subst hu3
    refine ⟨[], 12, 13, 9, [], rfl, by decide, fun q9 => ?_⟩
    refine z_astore_n X dL_covered_12 rfl (by rw [hml]; decide) rfl rfl ?_
    refine z_iconst (v := 1) X dL_covered_13 (by decide) ?_
    refine zz.widen (k := 1) (n := 6) (by omega) (by omega) ?_
    exact z_iret X hr rfl (fun t hG hF _ => ⟨⟨1, ((V, L, N), f, ad), rfl, ⟨by rw [hu]; rfl, axt.rf N ad, fun _ => Nat.le_refl _⟩, hG⟩, hF⟩) dL_covered_14
  · refine z_i2l X dL_covered_7 ?_
    refine c_lastX X 0 (xs' := (q, .inl (dA 7, 1, .inr (.inl (vp_updL f 0 (w9).toInt64)))) :: xs) rfl (fun z => z.elim (fun y => absurd y (by decide)) (fun y => absurd y (by decide))) rfl dL_covered_8 ?_
    refine z_goto (tgt := 15) X dL_covered_9 (by decide) ?_
    refine z_iconst (v := 0) X dL_covered_15 (by decide) ?_
    refine zz.widen (k := 1) (n := 6) (by omega) (by omega) ?_
    exact z_iret X hr rfl (fun t hG hF _ => ⟨⟨0, ((V, L, N), vp_updL f 0 (Int32.toInt64 w9), ad), rfl, ⟨by rw [hw.1]; rfl, axt.rf N ad, fun _ => Nat.le_refl _⟩, hG⟩, hF⟩) dL_covered_16
-- ratedByEvents
set_option maxRecDepth 100000 in
set_option maxHeartbeats 4000000 in
theorem cw_ratedByEvents (l : Launch) {D : va_G} {dA : Nat → ClassId} {A : Nat → Prop} {n : Nat} (hst : l.stackTraces = false) (hA : ∀ q, n ≤ q → A q) {V : Rho} {L : Lst} {N : Cnt} {ad : Adr} {xs : va_W} {XC : String → State → State → Prop} (h11 : 0 < N 11) {q : Nat} {f : Nat → Int64} {a1 : Int32} {o : (Int32) ⊕ Nat} (hcd : ∀ e, o = .inr e → ¬ cd1 e = 0) (h : fc_ratedByEvents V L N a1 = some o) : vx_Met l yL_ratedByEvents (.codeWith yL_ratedByEvents cL_ratedByEvents 4 (some .int) (hdT [(1, 12, 13, 9)]) :: gT) ({ frames := 240, cells := 1, slots := 6, locals := 2400 } : Room) (va_Pc [.ref (ad 11 0), .int a1, .ref q] (zBN D dA A n (cx D dA A V L N ad ((q, .inl (dA 7, 1, .inr (.inl f))) :: xs)))) (va_Qi (fun r (u : CW × (Nat → Int64) × Adr) => wQ V L N f cd1 o = (u.1, u.2.1, r) ∧ axt N ad u.2.2 ∧ ∀ k, N k ≤ u.1.2.2 k) (fun u t => cx D dA A u.1.1 u.1.2.1 u.1.2.2 u.2.2 ((q, .inl (dA 7, 1, .inr (.inl u.2.1))) :: xs) t.heap) A) XC (1) (6) A := by
  refine z_metH (by decide) hA hst (Nat.le_of_ble_eq_true rfl) rfl rfl (fun p e s m below meth c X hNc hml hr hh => ?_)
  refine z_aload_n X dL_ratedByEvents_0 rfl rfl ?_
  refine z_iconst (v := 0) X dL_ratedByEvents_1 (by decide) ?_
  refine z_aload_n X dL_ratedByEvents_2 rfl rfl ?_
  refine z_iload_n X dL_ratedByEvents_3 rfl rfl ?_
  refine z_xVc (As := [.int a1]) (rest := [.int 0, .ref q]) (nA := 1) (mc := 1) (ms := 6) (rm := ({ frames := 220, cells := 1, slots := 6, locals := 2200 } : Room)) (S := Int32) (r0 := fun w9 => w9) (px := fun u => o = .inr u) (pu := fun w9 => o = .inl w9 ∧ True) (GX := cx D dA A V L N ad ((q, .inl (dA 7, 1, .inr (.inl f))) :: xs)) (G1 := fun w9 => cx D dA A V L N ad ((q, .inl (dA 7, 1, .inr (.inl f))) :: xs)) X hNc [(1, 12, 13, 9)] hh (by decide) (by
    intro z hz
    simp only [List.mem_cons, List.not_mem_nil, or_false] at hz
    subst hz; exact g_315) (cc_ratedByEvents l X.2.2.2.2.2.2.2.2 X.2.2.2.2.2.2.1 h11 h) g_1213 g_1214 g_1215 g_1 g_1216 hd_yX11_ratedByEvents ⟨rfl, rfl, Nat.le_of_ble_eq_true rfl, Nat.le_of_ble_eq_true rfl⟩ rfl (fun _ hG => cx_recv X (k := 11) rfl rfl h11 hG) rfl (Nat.le_of_ble_eq_true rfl) dL_ratedByEvents_4 ⟨by show _ ≤ 1; omega, by show _ ≤ 6; omega⟩ (fun u hu => ?_) (fun w9 hw => ?_)
  · have hc := hcd u hu
    have hu3 : u = 1 := Decidable.byContradiction (fun z => hc (by unfold cd1; (try simp only [not_or] at z); simp [z]))
    subst hu3
    refine ⟨[], 12, 13, 9, [], rfl, by decide, fun q9 => ?_⟩
    refine z_astore_n X dL_ratedByEvents_12 rfl (by rw [hml]; decide) rfl rfl ?_
    refine z_iconst (v := 1) X dL_ratedByEvents_13 (by decide) ?_
    refine zz.widen (k := 1) (n := 6) (by omega) (by omega) ?_
    exact z_iret X hr rfl (fun t hG hF _ => ⟨⟨1, ((V, L, N), f, ad), rfl, ⟨by rw [hu]; rfl, axt.rf N ad, fun _ => Nat.le_refl _⟩, hG⟩, hF⟩) dL_ratedByEvents_14
  · refine z_i2l X dL_ratedByEvents_7 ?_
    refine c_lastX X 0 (xs' := (q, .inl (dA 7, 1, .inr (.inl (vp_updL f 0 (w9).toInt64)))) :: xs) rfl (fun z => z.elim (fun y => absurd y (by decide)) (fun y => absurd y (by decide))) rfl dL_ratedByEvents_8 ?_
    refine z_goto (tgt := 15) X dL_ratedByEvents_9 (by decide) ?_
    refine z_iconst (v := 0) X dL_ratedByEvents_15 (by decide) ?_
    refine zz.widen (k := 1) (n := 6) (by omega) (by omega) ?_
    exact z_iret X hr rfl (fun t hG hF _ => ⟨⟨0, ((V, L, N), vp_updL f 0 (Int32.toInt64 w9), ad), rfl, ⟨by rw [hw.1]; rfl, axt.rf N ad, fun _ => Nat.le_refl _⟩, hG⟩, hF⟩) dL_ratedByEvents_16
-- tag
set_option maxRecDepth 100000 in
set_option maxHeartbeats 4000000 in
theorem cw_tag (l : Launch) {D : va_G} {dA : Nat → ClassId} {A : Nat → Prop} {n : Nat} (hst : l.stackTraces = false) (hA : ∀ q, n ≤ q → A q) {V : Rho} {L : Lst} {N : Cnt} {ad : Adr} {xs : va_W} {XC : String → State → State → Prop} (h11 : 0 < N 11) {q : Nat} {f : Nat → Int64} {a1 : Int32} {o : (Int32) ⊕ Nat} (hcd : ∀ e, o = .inr e → ¬ cd1 e = 0) (h : fc_tag V L N a1 = some o) : vx_Met l yL_tag (.codeWith yL_tag cL_tag 4 (some .int) (hdT [(1, 12, 13, 9)]) :: gT) ({ frames := 220, cells := 1, slots := 6, locals := 2200 } : Room) (va_Pc [.ref (ad 11 0), .int a1, .ref q] (zBN D dA A n (cx D dA A V L N ad ((q, .inl (dA 7, 1, .inr (.inl f))) :: xs)))) (va_Qi (fun r (u : CW × (Nat → Int64) × Adr) => wQ V L N f cd1 o = (u.1, u.2.1, r) ∧ axt N ad u.2.2 ∧ ∀ k, N k ≤ u.1.2.2 k) (fun u t => cx D dA A u.1.1 u.1.2.1 u.1.2.2 u.2.2 ((q, .inl (dA 7, 1, .inr (.inl u.2.1))) :: xs) t.heap) A) XC (1) (6) A := by
  refine z_metH (by decide) hA hst (Nat.le_of_ble_eq_true rfl) rfl rfl (fun p e s m below meth c X hNc hml hr hh => ?_)
  refine z_aload_n X dL_tag_0 rfl rfl ?_
  refine z_iconst (v := 0) X dL_tag_1 (by decide) ?_
  refine z_aload_n X dL_tag_2 rfl rfl ?_
  refine z_iload_n X dL_tag_3 rfl rfl ?_
  refine z_xVc (As := [.int a1]) (rest := [.int 0, .ref q]) (nA := 1) (mc := 1) (ms := 6) (rm := ({ frames := 200, cells := 1, slots := 6, locals := 2000 } : Room)) (S := Int32) (r0 := fun w9 => w9) (px := fun u => o = .inr u) (pu := fun w9 => o = .inl w9 ∧ True) (GX := cx D dA A V L N ad ((q, .inl (dA 7, 1, .inr (.inl f))) :: xs)) (G1 := fun w9 => cx D dA A V L N ad ((q, .inl (dA 7, 1, .inr (.inl f))) :: xs)) X hNc [(1, 12, 13, 9)] hh (by decide) (by
    intro z hz
    simp only [List.mem_cons, List.not_mem_nil, or_false] at hz
    subst hz; exact g_315) (cc_tag l X.2.2.2.2.2.2.2.2 X.2.2.2.2.2.2.1 h11 h) g_1232 g_1233 g_1234 g_1 g_1235 hd_yX11_tag ⟨rfl, rfl, Nat.le_of_ble_eq_true rfl, Nat.le_of_ble_eq_true rfl⟩ rfl (fun _ hG => cx_recv X (k := 11) rfl rfl h11 hG) rfl (Nat.le_of_ble_eq_true rfl) dL_tag_4 ⟨by show _ ≤ 1; omega, by show _ ≤ 6; omega⟩ (fun u hu => ?_) (fun w9 hw => ?_)
  · have hc := hcd u hu
    have hu3 : u = 1 := Decidable.byContradiction (fun z => hc (by unfold cd1; (try simp only [not_or] at z); simp [z]))
    subst hu3
    refine ⟨[], 12, 13, 9, [], rfl, by decide, fun q9 => ?_⟩
    refine z_astore_n X dL_tag_12 rfl (by rw [hml]; decide) rfl rfl ?_
    refine z_iconst (v := 1) X dL_tag_13 (by decide) ?_
    refine zz.widen (k := 1) (n := 6) (by omega) (by omega) ?_
    exact z_iret X hr rfl (fun t hG hF _ => ⟨⟨1, ((V, L, N), f, ad), rfl, ⟨by rw [hu]; rfl, axt.rf N ad, fun _ => Nat.le_refl _⟩, hG⟩, hF⟩) dL_tag_14
  · refine z_i2l X dL_tag_7 ?_
    refine c_lastX X 0 (xs' := (q, .inl (dA 7, 1, .inr (.inl (vp_updL f 0 (w9).toInt64)))) :: xs) rfl (fun z => z.elim (fun y => absurd y (by decide)) (fun y => absurd y (by decide))) rfl dL_tag_8 ?_
    refine z_goto (tgt := 15) X dL_tag_9 (by decide) ?_
    refine z_iconst (v := 0) X dL_tag_15 (by decide) ?_
    refine zz.widen (k := 1) (n := 6) (by omega) (by omega) ?_
    exact z_iret X hr rfl (fun t hG hF _ => ⟨⟨0, ((V, L, N), vp_updL f 0 (Int32.toInt64 w9), ad), rfl, ⟨by rw [hw.1]; rfl, axt.rf N ad, fun _ => Nat.le_refl _⟩, hG⟩, hF⟩) dL_tag_16
-- seal
set_option maxRecDepth 100000 in
set_option maxHeartbeats 4000000 in
theorem cw_seal (l : Launch) {D : va_G} {dA : Nat → ClassId} {A : Nat → Prop} {n : Nat} (hst : l.stackTraces = false) (hA : ∀ q, n ≤ q → A q) {V : Rho} {L : Lst} {N : Cnt} {ad : Adr} {xs : va_W} {XC : String → State → State → Prop} (h11 : 0 < N 11) {q : Nat} {f : Nat → Int64} {a1 : Int32} {o : (Int32) ⊕ Nat} (hcd : ∀ e, o = .inr e → ¬ cd1 e = 0) (h : fc_seal V L N a1 = some o) : vx_Met l yL_seal (.codeWith yL_seal cL_seal 4 (some .int) (hdT [(1, 12, 13, 9)]) :: gT) ({ frames := 220, cells := 1, slots := 6, locals := 2200 } : Room) (va_Pc [.ref (ad 11 0), .int a1, .ref q] (zBN D dA A n (cx D dA A V L N ad ((q, .inl (dA 7, 1, .inr (.inl f))) :: xs)))) (va_Qi (fun r (u : CW × (Nat → Int64) × Adr) => wQ V L N f cd1 o = (u.1, u.2.1, r) ∧ axt N ad u.2.2 ∧ ∀ k, N k ≤ u.1.2.2 k) (fun u t => cx D dA A u.1.1 u.1.2.1 u.1.2.2 u.2.2 ((q, .inl (dA 7, 1, .inr (.inl u.2.1))) :: xs) t.heap) A) XC (1) (6) A := by
  refine z_metH (by decide) hA hst (Nat.le_of_ble_eq_true rfl) rfl rfl (fun p e s m below meth c X hNc hml hr hh => ?_)
  refine z_aload_n X dL_seal_0 rfl rfl ?_
  refine z_iconst (v := 0) X dL_seal_1 (by decide) ?_
  refine z_aload_n X dL_seal_2 rfl rfl ?_
  refine z_iload_n X dL_seal_3 rfl rfl ?_
  refine z_xVc (As := [.int a1]) (rest := [.int 0, .ref q]) (nA := 1) (mc := 1) (ms := 6) (rm := ({ frames := 200, cells := 1, slots := 6, locals := 2000 } : Room)) (S := Int32) (r0 := fun w9 => w9) (px := fun u => o = .inr u) (pu := fun w9 => o = .inl w9 ∧ True) (GX := cx D dA A V L N ad ((q, .inl (dA 7, 1, .inr (.inl f))) :: xs)) (G1 := fun w9 => cx D dA A V L N ad ((q, .inl (dA 7, 1, .inr (.inl f))) :: xs)) X hNc [(1, 12, 13, 9)] hh (by decide) (by
    intro z hz
    simp only [List.mem_cons, List.not_mem_nil, or_false] at hz
    subst hz; exact g_315) (cc_seal l X.2.2.2.2.2.2.2.2 X.2.2.2.2.2.2.1 h11 h) g_1239 g_1240 g_1241 g_1 g_1242 hd_yX11_seal ⟨rfl, rfl, Nat.le_of_ble_eq_true rfl, Nat.le_of_ble_eq_true rfl⟩ rfl (fun _ hG => cx_recv X (k := 11) rfl rfl h11 hG) rfl (Nat.le_of_ble_eq_true rfl) dL_seal_4 ⟨by show _ ≤ 1; omega, by show _ ≤ 6; omega⟩ (fun u hu => ?_) (fun w9 hw => ?_)
  · have hc := hcd u hu
    have hu3 : u = 1 := Decidable.byContradiction (fun z => hc (by unfold cd1; (try simp only [not_or] at z); simp [z]))
    subst hu3
    refine ⟨[], 12, 13, 9, [], rfl, by decide, fun q9 => ?_⟩
    refine z_astore_n X dL_seal_12 rfl (by rw [hml]; decide) rfl rfl ?_
    refine z_iconst (v := 1) X dL_seal_13 (by decide) ?_
    refine zz.widen (k := 1) (n := 6) (by omega) (by omega) ?_
    exact z_iret X hr rfl (fun t hG hF _ => ⟨⟨1, ((V, L, N), f, ad), rfl, ⟨by rw [hu]; rfl, axt.rf N ad, fun _ => Nat.le_refl _⟩, hG⟩, hF⟩) dL_seal_14
  · refine z_i2l X dL_seal_7 ?_
    refine c_lastX X 0 (xs' := (q, .inl (dA 7, 1, .inr (.inl (vp_updL f 0 (w9).toInt64)))) :: xs) rfl (fun z => z.elim (fun y => absurd y (by decide)) (fun y => absurd y (by decide))) rfl dL_seal_8 ?_
    refine z_goto (tgt := 15) X dL_seal_9 (by decide) ?_
    refine z_iconst (v := 0) X dL_seal_15 (by decide) ?_
    refine zz.widen (k := 1) (n := 6) (by omega) (by omega) ?_
    exact z_iret X hr rfl (fun t hG hF _ => ⟨⟨0, ((V, L, N), vp_updL f 0 (Int32.toInt64 w9), ad), rfl, ⟨by rw [hw.1]; rfl, axt.rf N ad, fun _ => Nat.le_refl _⟩, hG⟩, hF⟩) dL_seal_16
-- stamp
set_option maxRecDepth 100000 in
set_option maxHeartbeats 4000000 in
theorem cw_stamp (l : Launch) {D : va_G} {dA : Nat → ClassId} {A : Nat → Prop} {n : Nat} (hst : l.stackTraces = false) (hA : ∀ q, n ≤ q → A q) {V : Rho} {L : Lst} {N : Cnt} {ad : Adr} {xs : va_W} {XC : String → State → State → Prop} (h11 : 0 < N 11) {q : Nat} {f : Nat → Int64} {a1 : Int32} {o : (Int32) ⊕ Nat} (hcd : ∀ e, o = .inr e → ¬ cd1 e = 0) (h : fc_stamp V L N a1 = some o) : vx_Met l yL_stamp (.codeWith yL_stamp cL_stamp 4 (some .int) (hdT [(1, 12, 13, 9)]) :: gT) ({ frames := 220, cells := 1, slots := 6, locals := 2200 } : Room) (va_Pc [.ref (ad 11 0), .int a1, .ref q] (zBN D dA A n (cx D dA A V L N ad ((q, .inl (dA 7, 1, .inr (.inl f))) :: xs)))) (va_Qi (fun r (u : CW × (Nat → Int64) × Adr) => wQ V L N f cd1 o = (u.1, u.2.1, r) ∧ axt N ad u.2.2 ∧ ∀ k, N k ≤ u.1.2.2 k) (fun u t => cx D dA A u.1.1 u.1.2.1 u.1.2.2 u.2.2 ((q, .inl (dA 7, 1, .inr (.inl u.2.1))) :: xs) t.heap) A) XC (1) (6) A := by
  refine z_metH (by decide) hA hst (Nat.le_of_ble_eq_true rfl) rfl rfl (fun p e s m below meth c X hNc hml hr hh => ?_)
  refine z_aload_n X dL_stamp_0 rfl rfl ?_
  refine z_iconst (v := 0) X dL_stamp_1 (by decide) ?_
  refine z_aload_n X dL_stamp_2 rfl rfl ?_
  refine z_iload_n X dL_stamp_3 rfl rfl ?_
  refine z_xVc (As := [.int a1]) (rest := [.int 0, .ref q]) (nA := 1) (mc := 1) (ms := 6) (rm := ({ frames := 200, cells := 1, slots := 6, locals := 2000 } : Room)) (S := Int32) (r0 := fun w9 => w9) (px := fun u => o = .inr u) (pu := fun w9 => o = .inl w9 ∧ True) (GX := cx D dA A V L N ad ((q, .inl (dA 7, 1, .inr (.inl f))) :: xs)) (G1 := fun w9 => cx D dA A V L N ad ((q, .inl (dA 7, 1, .inr (.inl f))) :: xs)) X hNc [(1, 12, 13, 9)] hh (by decide) (by
    intro z hz
    simp only [List.mem_cons, List.not_mem_nil, or_false] at hz
    subst hz; exact g_315) (cc_stamp l X.2.2.2.2.2.2.2.2 X.2.2.2.2.2.2.1 h11 h) g_1251 g_1252 g_1253 g_1 g_1254 hd_yX11_stamp ⟨rfl, rfl, Nat.le_of_ble_eq_true rfl, Nat.le_of_ble_eq_true rfl⟩ rfl (fun _ hG => cx_recv X (k := 11) rfl rfl h11 hG) rfl (Nat.le_of_ble_eq_true rfl) dL_stamp_4 ⟨by show _ ≤ 1; omega, by show _ ≤ 6; omega⟩ (fun u hu => ?_) (fun w9 hw => ?_)
  · have hc := hcd u hu
    have hu3 : u = 1 := Decidable.byContradiction (fun z => hc (by unfold cd1; (try simp only [not_or] at z); simp [z]))
    subst hu3
    refine ⟨[], 12, 13, 9, [], rfl, by decide, fun q9 => ?_⟩
    refine z_astore_n X dL_stamp_12 rfl (by rw [hml]; decide) rfl rfl ?_
    refine z_iconst (v := 1) X dL_stamp_13 (by decide) ?_
    refine zz.widen (k := 1) (n := 6) (by omega) (by omega) ?_
    exact z_iret X hr rfl (fun t hG hF _ => ⟨⟨1, ((V, L, N), f, ad), rfl, ⟨by rw [hu]; rfl, axt.rf N ad, fun _ => Nat.le_refl _⟩, hG⟩, hF⟩) dL_stamp_14
  · refine z_i2l X dL_stamp_7 ?_
    refine c_lastX X 0 (xs' := (q, .inl (dA 7, 1, .inr (.inl (vp_updL f 0 (w9).toInt64)))) :: xs) rfl (fun z => z.elim (fun y => absurd y (by decide)) (fun y => absurd y (by decide))) rfl dL_stamp_8 ?_
    refine z_goto (tgt := 15) X dL_stamp_9 (by decide) ?_
    refine z_iconst (v := 0) X dL_stamp_15 (by decide) ?_
    refine zz.widen (k := 1) (n := 6) (by omega) (by omega) ?_
    exact z_iret X hr rfl (fun t hG hF _ => ⟨⟨0, ((V, L, N), vp_updL f 0 (Int32.toInt64 w9), ad), rfl, ⟨by rw [hw.1]; rfl, axt.rf N ad, fun _ => Nat.le_refl _⟩, hG⟩, hF⟩) dL_stamp_16
