theorem g_1002 : Cond.methodLink RX4 72 yJx4a65c_add_9ea2d ∈ gT := gT_t 576 (by decide +kernel) rfl
theorem g_1003 : Cond.methodLink RX11 239 yX11_takeSliceOrCut ∈ gT := gT_t 577 (by decide +kernel) rfl
theorem g_1005 : Cond.instanceMethod yX11_takeSliceOrCut ∈ gT := gT_t 579 (by decide +kernel) rfl
theorem g_1006 : Cond.code yX11_takeSliceOrCut cX11_takeSliceOrCut 2 none ∈ gT := gT_t 580 (by decide +kernel) rfl
theorem g_1007 : Cond.methodLink RX11 384 yX11_takeSlice ∈ gT := gT_t 581 (by decide +kernel) rfl
theorem g_1009 : Cond.instanceMethod yX11_takeSlice ∈ gT := gT_t 583 (by decide +kernel) rfl
theorem g_1010 : Cond.code yX11_takeSlice cX11_takeSlice 5 (some .boolean) ∈ gT := gT_t 584 (by decide +kernel) rfl
theorem g_1049 : Cond.methodLink RX11 261 yX11_closeLeg ∈ gT := gT_t 653 (by decide +kernel) rfl
theorem g_1051 : Cond.instanceMethod yX11_closeLeg ∈ gT := gT_t 655 (by decide +kernel) rfl
theorem g_1052 : Cond.code yX11_closeLeg cX11_closeLeg 4 none ∈ gT := gT_t 656 (by decide +kernel) rfl
theorem g_1053 : Cond.methodLink RX11 388 yX11_finishLeg ∈ gT := gT_t 657 (by decide +kernel) rfl
theorem g_1055 : Cond.instanceMethod yX11_finishLeg ∈ gT := gT_t 659 (by decide +kernel) rfl
theorem g_1056 : Cond.code yX11_finishLeg cX11_finishLeg 3 none ∈ gT := gT_t 660 (by decide +kernel) rfl
theorem g_1057 : Cond.methodLink RX11 395 yX11_giveBack ∈ gT := gT_t 661 (by decide +kernel) rfl
theorem g_1059 : Cond.instanceMethod yX11_giveBack ∈ gT := gT_t 663 (by decide +kernel) rfl
theorem g_106 : Cond.methodLink RX6 27 yJx4a65c_add_9ea2d ∈ gT := gT_t 108 (by decide +kernel) rfl
theorem g_1060 : Cond.code yX11_giveBack cX11_giveBack 3 none ∈ gT := gT_t 664 (by decide +kernel) rfl
theorem g_1061 : Cond.methodLink RX11 398 yX4_firstUnratedSecond ∈ gT := gT_t 666 (by decide +kernel) rfl
theorem g_1062 : Cond.instanceMethod yX4_firstUnratedSecond ∈ gT := gT_t 667 (by decide +kernel) rfl
theorem g_1063 : Cond.selects RX4 yX4_firstUnratedSecond yX4_firstUnratedSecond ∈ gT := gT_t 668 (by decide +kernel) rfl
theorem g_1064 : Cond.code yX4_firstUnratedSecond cX4_firstUnratedSecond 1 (some .int) ∈ gT := gT_t 669 (by decide +kernel) rfl
theorem g_1065 : Cond.methodLink RX11 391 yX1_findOnlyParty ∈ gT := gT_t 670 (by decide +kernel) rfl
theorem g_1066 : Cond.instanceMethod yX1_findOnlyParty ∈ gT := gT_t 671 (by decide +kernel) rfl
theorem g_1067 : Cond.selects RX1 yX1_findOnlyParty yX1_findOnlyParty ∈ gT := gT_t 672 (by decide +kernel) rfl
theorem g_1068 : Cond.code yX1_findOnlyParty cX1_findOnlyParty 4 (some (.object "MeshBiller$Leg")) ∈ gT := gT_t 673 (by decide +kernel) rfl
theorem g_107 : Cond.instanceMethod yJx4a65c_add_9ea2d ∈ gT := gT_t 109 (by decide +kernel) rfl
theorem g_108 : Cond.selects RJx4a65c yJx4a65c_add_9ea2d yJx4a65c_add_9ea2d ∈ gT := gT_t 110 (by decide +kernel) rfl
theorem g_109 : Cond.code yJx4a65c_add_9ea2d cJx4a65c_add_9ea2d 2 (some .boolean) ∈ gT := gT_t 111 (by decide +kernel) rfl
theorem g_1105 : Cond.methodLink RX11 269 yX2_isNextTo ∈ gT := gT_t 791 (by decide +kernel) rfl
theorem g_1106 : Cond.instanceMethod yX2_isNextTo ∈ gT := gT_t 792 (by decide +kernel) rfl
theorem g_1107 : Cond.selects RX2 yX2_isNextTo yX2_isNextTo ∈ gT := gT_t 793 (by decide +kernel) rfl
theorem g_1108 : Cond.code yX2_isNextTo cX2_isNextTo 3 (some .boolean) ∈ gT := gT_t 794 (by decide +kernel) rfl
theorem g_1129 : Cond.methodLink RX11 404 yX11_isSliceFit ∈ gT := gT_t 748 (by decide +kernel) rfl
theorem g_1131 : Cond.instanceMethod yX11_isSliceFit ∈ gT := gT_t 750 (by decide +kernel) rfl
theorem g_1132 : Cond.code yX11_isSliceFit cX11_isSliceFit 4 (some .boolean) ∈ gT := gT_t 751 (by decide +kernel) rfl
theorem g_1134 : Cond.methodLink RX11 408 yX4_useSecond ∈ gT := gT_t 753 (by decide +kernel) rfl
theorem g_1135 : Cond.instanceMethod yX4_useSecond ∈ gT := gT_t 754 (by decide +kernel) rfl
theorem g_1136 : Cond.selects RX4 yX4_useSecond yX4_useSecond ∈ gT := gT_t 755 (by decide +kernel) rfl
theorem g_1137 : Cond.code yX4_useSecond cX4_useSecond 3 none ∈ gT := gT_t 756 (by decide +kernel) rfl
theorem g_12 : Cond.initialized RX2 ∈ gT := gT_t 12 (by decide +kernel) rfl
theorem g_173 : Cond.fieldLink RX6 18 "MeshBiller$RateHistory" "latest" "I" ∈ gT := gT_t 173 (by decide +kernel) rfl
theorem g_35 : Cond.initialized RX3 ∈ gT := gT_t 24 (by decide +kernel) rfl
theorem g_457 : Cond.methodLink RX11 117 yX6_change ∈ gT := gT_t 871 (by decide +kernel) rfl
theorem g_458 : Cond.instanceMethod yX6_change ∈ gT := gT_t 872 (by decide +kernel) rfl
theorem g_459 : Cond.selects RX6 yX6_change yX6_change ∈ gT := gT_t 873 (by decide +kernel) rfl
theorem g_460 : Cond.code yX6_change cX6_change 3 none ∈ gT := gT_t 874 (by decide +kernel) rfl
theorem g_524 : Cond.instantiable RX0 4 ∈ gT := gT_t 820 (by decide +kernel) rfl
theorem g_528 : Cond.methodLink RX11 171 yX0_init ∈ gT := gT_t 821 (by decide +kernel) rfl
theorem g_529 : Cond.instanceMethod yX0_init ∈ gT := gT_t 822 (by decide +kernel) rfl
theorem g_530 : Cond.code yX0_init cX0_init 5 none ∈ gT := gT_t 823 (by decide +kernel) rfl
theorem g_548 : Cond.methodLink RX11 174 yX9_addInOrderOfUse ∈ gT := gT_t 841 (by decide +kernel) rfl
theorem g_549 : Cond.instanceMethod yX9_addInOrderOfUse ∈ gT := gT_t 842 (by decide +kernel) rfl
theorem g_550 : Cond.selects RX9 yX9_addInOrderOfUse yX9_addInOrderOfUse ∈ gT := gT_t 843 (by decide +kernel) rfl
theorem g_551 : Cond.code yX9_addInOrderOfUse cX9_addInOrderOfUse 4 none ∈ gT := gT_t 844 (by decide +kernel) rfl
theorem g_568 : Cond.methodLink RX9 36 yX0_isUsedAhead ∈ gT := gT_t 845 (by decide +kernel) rfl
theorem g_569 : Cond.instanceMethod yX0_isUsedAhead ∈ gT := gT_t 846 (by decide +kernel) rfl
theorem g_570 : Cond.selects RX0 yX0_isUsedAhead yX0_isUsedAhead ∈ gT := gT_t 847 (by decide +kernel) rfl
theorem g_571 : Cond.code yX0_isUsedAhead cX0_isUsedAhead 2 (some .boolean) ∈ gT := gT_t 848 (by decide +kernel) rfl
theorem g_572 : Cond.methodLink RX9 40 yJx4a65c_add_7a177 ∈ gT := gT_t 849 (by decide +kernel) rfl
theorem g_573 : Cond.instanceMethod yJx4a65c_add_7a177 ∈ gT := gT_t 850 (by decide +kernel) rfl
theorem g_574 : Cond.selects RJx4a65c yJx4a65c_add_7a177 yJx4a65c_add_7a177 ∈ gT := gT_t 851 (by decide +kernel) rfl
theorem g_575 : Cond.code yJx4a65c_add_7a177 cJx4a65c_add_7a177 5 none ∈ gT := gT_t 852 (by decide +kernel) rfl
theorem g_7 : Cond.initialized RX7 ∈ gT := gT_t 7 (by decide +kernel) rfl
theorem g_818 : Cond.methodLink RX11 178 yJx4a65c_add_9ea2d ∈ gT := gT_t 466 (by decide +kernel) rfl
theorem g_866 : Cond.methodLink RX11 223 yX11_openChannels ∈ gT := gT_t 431 (by decide +kernel) rfl
theorem g_868 : Cond.instanceMethod yX11_openChannels ∈ gT := gT_t 433 (by decide +kernel) rfl
theorem g_869 : Cond.code yX11_openChannels cX11_openChannels 2 (some .int) ∈ gT := gT_t 434 (by decide +kernel) rfl
theorem g_873 : Cond.instantiable RX1 3 ∈ gT := gT_t 446 (by decide +kernel) rfl
theorem g_874 : Cond.methodLink RX11 232 yX1_init ∈ gT := gT_t 447 (by decide +kernel) rfl
theorem g_875 : Cond.instanceMethod yX1_init ∈ gT := gT_t 448 (by decide +kernel) rfl
theorem g_876 : Cond.code yX1_init cX1_init 3 none ∈ gT := gT_t 449 (by decide +kernel) rfl
theorem g_883 : Cond.fieldLink RX11 378 "MeshBiller$Call" "host" "LMeshBiller$Phone;" ∈ gT := gT_t 456 (by decide +kernel) rfl
theorem g_893 : Cond.methodLink RX11 235 yX11_openLeg ∈ gT := gT_t 467 (by decide +kernel) rfl
theorem g_895 : Cond.instanceMethod yX11_openLeg ∈ gT := gT_t 469 (by decide +kernel) rfl
theorem g_896 : Cond.code yX11_openLeg cX11_openLeg 6 (some (.object "MeshBiller$Leg")) ∈ gT := gT_t 470 (by decide +kernel) rfl
theorem g_898 : Cond.instantiable RX4 12 ∈ gT := gT_t 472 (by decide +kernel) rfl
theorem g_899 : Cond.methodLink RX11 381 yX4_init ∈ gT := gT_t 473 (by decide +kernel) rfl
theorem g_900 : Cond.instanceMethod yX4_init ∈ gT := gT_t 474 (by decide +kernel) rfl
theorem g_901 : Cond.code yX4_init cX4_init 6 none ∈ gT := gT_t 475 (by decide +kernel) rfl
theorem g_92 : Cond.instantiable RX7 2 ∈ gT := gT_t 94 (by decide +kernel) rfl
theorem g_93 : Cond.methodLink RX6 24 yX7_init ∈ gT := gT_t 95 (by decide +kernel) rfl
theorem g_931 : Cond.fieldLink RX11 265 "MeshBiller$Leg" "call" "LMeshBiller$Call;" ∈ gT := gT_t 505 (by decide +kernel) rfl
theorem g_94 : Cond.instanceMethod yX7_init ∈ gT := gT_t 96 (by decide +kernel) rfl
theorem g_95 : Cond.code yX7_init cX7_init 3 none ∈ gT := gT_t 97 (by decide +kernel) rfl
theorem g_975 : Cond.methodLink RX11 273 yX4_keepEvent ∈ gT := gT_t 549 (by decide +kernel) rfl
theorem g_976 : Cond.instanceMethod yX4_keepEvent ∈ gT := gT_t 550 (by decide +kernel) rfl
theorem g_977 : Cond.selects RX4 yX4_keepEvent yX4_keepEvent ∈ gT := gT_t 551 (by decide +kernel) rfl
theorem g_978 : Cond.code yX4_keepEvent cX4_keepEvent 4 none ∈ gT := gT_t 552 (by decide +kernel) rfl
theorem g_981 : Cond.instantiable RX3 3 ∈ gT := gT_t 555 (by decide +kernel) rfl
theorem g_982 : Cond.methodLink RX4 69 yX3_init ∈ gT := gT_t 556 (by decide +kernel) rfl
theorem g_983 : Cond.instanceMethod yX3_init ∈ gT := gT_t 557 (by decide +kernel) rfl
theorem g_984 : Cond.code yX3_init cX3_init 4 none ∈ gT := gT_t 558 (by decide +kernel) rfl
theorem gs_10 : Cond.selects RX11 yX11_openChannels yX11_openChannels ∈ gT := gT_s 5 (by decide +kernel) rfl
theorem gs_11 : Cond.selects RX11 yX11_openLeg yX11_openLeg ∈ gT := gT_s 7 (by decide +kernel) rfl
theorem gs_12 : Cond.selects RX11 yX11_takeSliceOrCut yX11_takeSliceOrCut ∈ gT := gT_s 8 (by decide +kernel) rfl
theorem gs_13 : Cond.selects RX11 yX11_takeSlice yX11_takeSlice ∈ gT := gT_s 9 (by decide +kernel) rfl
theorem gs_17 : Cond.selects RX11 yX11_closeLeg yX11_closeLeg ∈ gT := gT_s 13 (by decide +kernel) rfl
theorem gs_18 : Cond.selects RX11 yX11_finishLeg yX11_finishLeg ∈ gT := gT_s 14 (by decide +kernel) rfl
theorem gs_19 : Cond.selects RX11 yX11_giveBack yX11_giveBack ∈ gT := gT_s 15 (by decide +kernel) rfl
theorem gs_23 : Cond.selects RX11 yX11_isSliceFit yX11_isSliceFit ∈ gT := gT_s 21 (by decide +kernel) rfl
theorem hd_yJx4a65c_add_7a177 : yJx4a65c_add_7a177.cls = RJx4a65c ∧ yJx4a65c_add_7a177.cls ≠ "java/lang/invoke/MethodHandle" ∧ yJx4a65c_add_7a177.cls ≠ "java/lang/invoke/VarHandle" ∧ (parseMethodDescriptor yJx4a65c_add_7a177.desc).map (fun d => d.parameters.length) = some 2 := by decide +kernel
theorem hd_yJx4a65c_add_9ea2d : yJx4a65c_add_9ea2d.cls = RJx4a65c ∧ yJx4a65c_add_9ea2d.cls ≠ "java/lang/invoke/MethodHandle" ∧ yJx4a65c_add_9ea2d.cls ≠ "java/lang/invoke/VarHandle" ∧ (parseMethodDescriptor yJx4a65c_add_9ea2d.desc).map (fun d => d.parameters.length) = some 1 := by decide +kernel
theorem hd_yX0_init : yX0_init.name = "<init>" ∧ yX0_init.cls ≠ "java/lang/invoke/MethodHandle" ∧ yX0_init.cls ≠ "java/lang/invoke/VarHandle" ∧ (parseMethodDescriptor yX0_init.desc).map (fun d => d.parameters.length) = some 4 := by decide +kernel
theorem hd_yX0_isUsedAhead : yX0_isUsedAhead.cls = RX0 ∧ yX0_isUsedAhead.cls ≠ "java/lang/invoke/MethodHandle" ∧ yX0_isUsedAhead.cls ≠ "java/lang/invoke/VarHandle" ∧ (parseMethodDescriptor yX0_isUsedAhead.desc).map (fun d => d.parameters.length) = some 1 := by decide +kernel
theorem hd_yX11_closeLeg : yX11_closeLeg.cls = RX11 ∧ yX11_closeLeg.cls ≠ "java/lang/invoke/MethodHandle" ∧ yX11_closeLeg.cls ≠ "java/lang/invoke/VarHandle" ∧ (parseMethodDescriptor yX11_closeLeg.desc).map (fun d => d.parameters.length) = some 2 := by decide +kernel
theorem hd_yX11_finishLeg : yX11_finishLeg.cls = RX11 ∧ yX11_finishLeg.cls ≠ "java/lang/invoke/MethodHandle" ∧ yX11_finishLeg.cls ≠ "java/lang/invoke/VarHandle" ∧ (parseMethodDescriptor yX11_finishLeg.desc).map (fun d => d.parameters.length) = some 2 := by decide +kernel
theorem hd_yX11_giveBack : yX11_giveBack.cls = RX11 ∧ yX11_giveBack.cls ≠ "java/lang/invoke/MethodHandle" ∧ yX11_giveBack.cls ≠ "java/lang/invoke/VarHandle" ∧ (parseMethodDescriptor yX11_giveBack.desc).map (fun d => d.parameters.length) = some 1 := by decide +kernel
theorem hd_yX11_isSliceFit : yX11_isSliceFit.cls = RX11 ∧ yX11_isSliceFit.cls ≠ "java/lang/invoke/MethodHandle" ∧ yX11_isSliceFit.cls ≠ "java/lang/invoke/VarHandle" ∧ (parseMethodDescriptor yX11_isSliceFit.desc).map (fun d => d.parameters.length) = some 2 := by decide +kernel
theorem hd_yX11_openChannels : yX11_openChannels.cls = RX11 ∧ yX11_openChannels.cls ≠ "java/lang/invoke/MethodHandle" ∧ yX11_openChannels.cls ≠ "java/lang/invoke/VarHandle" ∧ (parseMethodDescriptor yX11_openChannels.desc).map (fun d => d.parameters.length) = some 1 := by decide +kernel
theorem hd_yX11_openLeg : yX11_openLeg.cls = RX11 ∧ yX11_openLeg.cls ≠ "java/lang/invoke/MethodHandle" ∧ yX11_openLeg.cls ≠ "java/lang/invoke/VarHandle" ∧ (parseMethodDescriptor yX11_openLeg.desc).map (fun d => d.parameters.length) = some 3 := by decide +kernel
theorem hd_yX11_takeSlice : yX11_takeSlice.cls = RX11 ∧ yX11_takeSlice.cls ≠ "java/lang/invoke/MethodHandle" ∧ yX11_takeSlice.cls ≠ "java/lang/invoke/VarHandle" ∧ (parseMethodDescriptor yX11_takeSlice.desc).map (fun d => d.parameters.length) = some 1 := by decide +kernel
theorem hd_yX11_takeSliceOrCut : yX11_takeSliceOrCut.cls = RX11 ∧ yX11_takeSliceOrCut.cls ≠ "java/lang/invoke/MethodHandle" ∧ yX11_takeSliceOrCut.cls ≠ "java/lang/invoke/VarHandle" ∧ (parseMethodDescriptor yX11_takeSliceOrCut.desc).map (fun d => d.parameters.length) = some 1 := by decide +kernel
theorem hd_yX1_findOnlyParty : yX1_findOnlyParty.cls = RX1 ∧ yX1_findOnlyParty.cls ≠ "java/lang/invoke/MethodHandle" ∧ yX1_findOnlyParty.cls ≠ "java/lang/invoke/VarHandle" ∧ (parseMethodDescriptor yX1_findOnlyParty.desc).map (fun d => d.parameters.length) = some 0 := by decide +kernel
theorem hd_yX1_init : yX1_init.name = "<init>" ∧ yX1_init.cls ≠ "java/lang/invoke/MethodHandle" ∧ yX1_init.cls ≠ "java/lang/invoke/VarHandle" ∧ (parseMethodDescriptor yX1_init.desc).map (fun d => d.parameters.length) = some 2 := by decide +kernel
theorem hd_yX2_isNextTo : yX2_isNextTo.cls = RX2 ∧ yX2_isNextTo.cls ≠ "java/lang/invoke/MethodHandle" ∧ yX2_isNextTo.cls ≠ "java/lang/invoke/VarHandle" ∧ (parseMethodDescriptor yX2_isNextTo.desc).map (fun d => d.parameters.length) = some 1 := by decide +kernel
theorem hd_yX3_init : yX3_init.name = "<init>" ∧ yX3_init.cls ≠ "java/lang/invoke/MethodHandle" ∧ yX3_init.cls ≠ "java/lang/invoke/VarHandle" ∧ (parseMethodDescriptor yX3_init.desc).map (fun d => d.parameters.length) = some 3 := by decide +kernel
theorem hd_yX4_firstUnratedSecond : yX4_firstUnratedSecond.cls = RX4 ∧ yX4_firstUnratedSecond.cls ≠ "java/lang/invoke/MethodHandle" ∧ yX4_firstUnratedSecond.cls ≠ "java/lang/invoke/VarHandle" ∧ (parseMethodDescriptor yX4_firstUnratedSecond.desc).map (fun d => d.parameters.length) = some 0 := by decide +kernel
theorem hd_yX4_init : yX4_init.name = "<init>" ∧ yX4_init.cls ≠ "java/lang/invoke/MethodHandle" ∧ yX4_init.cls ≠ "java/lang/invoke/VarHandle" ∧ (parseMethodDescriptor yX4_init.desc).map (fun d => d.parameters.length) = some 5 := by decide +kernel
theorem hd_yX4_keepEvent : yX4_keepEvent.cls = RX4 ∧ yX4_keepEvent.cls ≠ "java/lang/invoke/MethodHandle" ∧ yX4_keepEvent.cls ≠ "java/lang/invoke/VarHandle" ∧ (parseMethodDescriptor yX4_keepEvent.desc).map (fun d => d.parameters.length) = some 3 := by decide +kernel
theorem hd_yX4_useSecond : yX4_useSecond.cls = RX4 ∧ yX4_useSecond.cls ≠ "java/lang/invoke/MethodHandle" ∧ yX4_useSecond.cls ≠ "java/lang/invoke/VarHandle" ∧ (parseMethodDescriptor yX4_useSecond.desc).map (fun d => d.parameters.length) = some 2 := by decide +kernel
theorem hd_yX6_change : yX6_change.cls = RX6 ∧ yX6_change.cls ≠ "java/lang/invoke/MethodHandle" ∧ yX6_change.cls ≠ "java/lang/invoke/VarHandle" ∧ (parseMethodDescriptor yX6_change.desc).map (fun d => d.parameters.length) = some 2 := by decide +kernel
theorem hd_yX7_init : yX7_init.name = "<init>" ∧ yX7_init.cls ≠ "java/lang/invoke/MethodHandle" ∧ yX7_init.cls ≠ "java/lang/invoke/VarHandle" ∧ (parseMethodDescriptor yX7_init.desc).map (fun d => d.parameters.length) = some 2 := by decide +kernel
theorem hd_yX9_addInOrderOfUse : yX9_addInOrderOfUse.cls = RX9 ∧ yX9_addInOrderOfUse.cls ≠ "java/lang/invoke/MethodHandle" ∧ yX9_addInOrderOfUse.cls ≠ "java/lang/invoke/VarHandle" ∧ (parseMethodDescriptor yX9_addInOrderOfUse.desc).map (fun d => d.parameters.length) = some 1 := by decide +kernel
theorem ex_arr {N : Cnt} {k : Nat} (h1 : Nat.ble 26 k = true) (h2 : Nat.ble (k + 1) 30 = true) (hi : 0 < N 11) : ex N k 0 := ⟨by have := Nat.le_of_ble_eq_true h2; omega, by rw [ow_arr (Nat.le_of_ble_eq_true h1) (by have := Nat.le_of_ble_eq_true h2; omega)]; exact hi⟩
theorem vp_new4 {N : Cnt} (h : ¬ 100000 ≤ N 4) : vp_in (nI (N 4)) (nup (nup N 8) 4 4) := by
  rw [nup_self, nup_ne (by decide)]
  exact vp_in_nI (by omega) (by omega)
theorem axt_leg {N : Cnt} {ad : Adr} {q q1 q2 : Nat} (hb : ¬ (100000 ≤ N 4 ∨ ¬ N 8 = N 4)) : axt N ad (adu (adu (adu ad 8 (N 4) q1) 4 (N 4) q) 18 (N 4) q2) := by
  have h84 : N 8 = N 4 := Decidable.byContradiction (fun z => hb (Or.inr z))
  refine axt.comp (ad' := adu ad 8 (N 4) q1) ?_ (axt_adu2 (by omega))
  rw [← h84]
  exact axt_adu (by decide)
-- MeshBiller$RateHistory.change(II)V
def fc_RateHistory_change (V : Rho) (L : Lst) (N : Cnt) (a0 : Int32) (a1 : Int32) (a2 : Int32) : Option (CW) := (some (cs V 121 a0.toNatClampNeg a2)).bind fun V1 => (some (nI (L 16 a0.toNatClampNeg).length)).bind fun x2 => (if 600 ≤ x2 then some (V1, L, N)
  else if 100000 ≤ (N 7) then none else (some (cs (cs V1 140 (N 7) a1) 141 (N 7) a2)).bind fun V4 => (some (nup N 7)).bind fun N6 => (some (nI (N 7))).bind fun x5 => if 1000 ≤ (L 16 a0.toNatClampNeg).length then none else (some (lput L 16 a0.toNatClampNeg ((L 16 a0.toNatClampNeg) ++ [x5]))).bind fun L11 => some (V4, L11, N6))
set_option maxRecDepth 100000 in
set_option maxHeartbeats 4000000 in
theorem bc_RateHistory_change {p : Program} {l : Launch} {e : Env} {s : State} {m : MethodId} {args : Array Value} {below : List Frame} {meth : Method} {c : Code} {D : va_G} {dA : Nat → ClassId} {A : Nat → Prop} {xs : va_W} {o : CW} (X : zc p l s m args meth c cX6_change RX6 D dA A) (hml : c.maxLocals = 3) (hr : meth.sig.returnType = none) {cells slots : Nat} (hcs : cells + 2 ≤ 2 ∧ slots + 912 ≤ 912) {V : Rho} {L : Lst} {N : Cnt} {ad : Adr} (h11 : 0 < N 11) {a0 : Int32} {a1 : Int32} {a2 : Int32} (va0 : vp_in a0 (N 6)) (h : fc_RateHistory_change V L N a0 a1 a2 = some o) : zz p l e ({ frames := 9, cells := 2, slots := 912, locals := 378 } : Room) s m args below meth c A (cx D dA A V L N ad xs) cells slots (MQ below (va_Qv (fun (w9 : Adr) => axt N ad w9 ∧ (∀ k, N k ≤ o.2.2 k)) (fun (w9 : Adr) t => cx D dA A o.1 o.2.1 o.2.2 w9 xs t.heap) A) args s 2 912 A) 0 [(0, .ref (ad 6 a0.toNatClampNeg)), (1, .int a1), (2, .int a2)] [] [] := by
  obtain ⟨hcs1, hcs2⟩ := hcs
  have hax := axt.rf N ad
  have hN0 := fun k => Nat.le_refl (N k)
  unfold fc_RateHistory_change at h
  refine z_aload_n X dX6_change_0 rfl rfl ?_
  refine z_iload_n X dX6_change_1 rfl rfl ?_
  obtain ⟨V1, eV1, h⟩ := zb h
  refine c_put X 6 1 (x := a2) (v := .int a2) (ty := .int) rx6_ws rfl tyX6_ok nmX6 rfl rfl (vp_lt va0) rfl g_173 rfl trivial rfl rfl rfl eV1 dX6_change_2 ?_
  refine z_aload_n X dX6_change_5 rfl rfl ?_
  refine c_get X 6 0 (v := .ref (ad 16 a0.toNatClampNeg)) rx6_ws rfl rfl rfl (vp_lt va0) g_172 rfl dX6_change_6 ?_
  obtain ⟨x2, ex2, h⟩ := zb h
  refine z_callVi (As := []) (rest := []) (nA := 0) (mc := 0) (ms := 0) (rm := ({ frames := 8, cells := 0, slots := 0, locals := 336 } : Room)) (r0 := (nI (L 16 a0.toNatClampNeg).length)) (pu := fun (_ : Unit) => True) (G1 := fun _ => cx D dA A V1 L N ad xs) X (cl_size l X.2.2.2.2.2.2.2.2 X.2.2.2.2.2.2.1 (k := 16) (i := a0.toNatClampNeg) rfl rfl (vp_lt va0)) g_461 g_309 g_310 g_4 g_311 hd_yJx4a65c_size_8abf5 ⟨rfl, rfl, Nat.le_of_ble_eq_true rfl, Nat.le_of_ble_eq_true rfl⟩ rfl (fun _ hG => cx_recvL X (k := 16) rfl rfl (vp_lt va0) hG) rfl (Nat.le_of_ble_eq_true rfl) dX6_change_9 ⟨by show _ ≤ 2; omega, by show _ ≤ 912; omega⟩ (fun _ _ => ?_)
  rw [ex2]
  refine z_sipush (v := 600) X dX6_change_12 (by decide) ?_
  refine z_icmp_ge (tgt := 35) X dX6_change_15 (by decide) (fun q => ?_) (fun q => ?_)
  · have h := zp q h
    obtain rfl := Option.some.inj h
    refine zz.widen (k := 2) (n := 912) (by omega) (by omega) ?_
    exact z_vret X hr (fun t hG hF _ => ⟨⟨ad, rfl, ⟨hax, hN0⟩, hG⟩, hF⟩) dX6_change_35
  · have h := zn q h
    refine z_aload_n X dX6_change_18 rfl rfl ?_
    refine c_get X 6 0 (v := .ref (ad 16 a0.toNatClampNeg)) rx6_ws rfl rfl rfl (vp_lt va0) g_172 rfl dX6_change_19 ?_
    refine c_new X 10 (fs := [.int 0, .int 0]) tyX7 rx7_ws rfl tyX7_ok g_91 g_92 g_7 (fun j hj => by rcases (show j = 0 ∨ j = 1 by omega) with rfl | rfl <;> rfl) ⟨by show _ ≤ 2; omega, by show _ ≤ 912; omega⟩ dX6_change_22 (fun q3 => ?_)
    refine z_dup X dX6_change_25 rfl ?_
    refine z_iload_n X dX6_change_26 rfl rfl ?_
    refine z_iload_n X dX6_change_27 rfl rfl ?_
    refine z_callI (As := [.int a1, .int a2]) (rest := [.ref q3, .ref (ad 16 a0.toNatClampNeg)]) (nA := 2) (mc := 0) (ms := 0) (rm := ({ frames := 1, cells := 0, slots := 0, locals := 42 } : Room)) (pu := fun (u : Unit) => True) (G1 := fun u => cx D dA A V1 L N ad (xs ++ [(q3, .inr (10, [.int a1, .int a2]))])) X (ck_RateStep l X.2.2.2.2.2.2.2.2 X.2.2.2.2.2.2.1) g_93 g_94 g_7 g_95 hd_yX7_init ⟨rfl, rfl, Nat.le_of_ble_eq_true rfl, Nat.le_of_ble_eq_true rfl⟩ rfl rfl (Nat.le_of_ble_eq_true rfl) dX6_change_28 ⟨by show _ ≤ 2; omega, by show _ ≤ 912; omega⟩ (fun u _ => ?_)
    obtain ⟨q9, h⟩ := zg h
    obtain ⟨V4, eV4, h⟩ := zb h
    obtain ⟨N6, eN6, h⟩ := zb h
    obtain ⟨x5, ex5, h⟩ := zb h
    obtain ⟨ad7, ead7⟩ : ∃ z, z = adu ad 7 (N 7) q3 := ⟨_, rfl⟩
    have p8 : vp_in x5 (N6 7) := by rw [← ex5, ← eN6]; exact vp_new q9 |>.1
    have hq9 : ad7 7 x5.toNatClampNeg = q3 := by rw [← ex5, nI_clamp (by omega), ead7, adu_self]
    have h9 : axt N ad ad7 ∧ ∀ k, N k ≤ N6 k := ⟨by rw [ead7]; exact axt_adu (by decide), fun k => by rw [← eN6]; exact nup_le⟩
    refine zz.conseq (fun H hG => mk_RateStep q9 eV4 eN6 ead7 hG) ?_
    rw [← hq9]
    clear hq9 ead7
    have hax9 := h9.1
    have hax := hax.trans9 hN0 hax9
    try rw [← hax9 6 _ (ex_obj rfl (vp_lt va0)) (by decide)]
    try rw [← hax9 16 _ (ex_list rfl rfl (vp_lt va0)) (by decide)]
    have hN9 := h9.2
    have hN0 := fun k => Nat.le_trans (hN0 k) (hN9 k)
    have h11 := Nat.lt_of_lt_of_le h11 (hN9 11)
    have va0 := vp_mono va0 (hN9 6)
    clear hax9 hN9 h9
    obtain ⟨q10, h⟩ := zg h
    obtain ⟨L11, eL11, h⟩ := zb h
    refine z_callVi (As := [.ref (ad7 7 x5.toNatClampNeg)]) (rest := []) (nA := 1) (mc := 1) (ms := 910) (rm := ({ frames := 8, cells := 1, slots := 910, locals := 336 } : Room)) (r0 := 1) (pu := fun (u : Adr) => axt N6 ad7 u ∧ (∀ k, N6 k ≤ N6 k)) (G1 := fun u => cx D dA A V4 L11 N6 u xs) X (cl_add l X.2.2.2.2.2.2.2.2 X.2.2.2.2.2.2.1 (k := 16) (i := a0.toNatClampNeg) (x := x5) rfl rfl (vp_lt va0) p8 q10 (b := 910) (len600 (by assumption) (by assumption) q10) eL11) g_106 g_107 g_108 g_4 g_109 hd_yJx4a65c_add_9ea2d ⟨rfl, rfl, Nat.le_of_ble_eq_true rfl, Nat.le_of_ble_eq_true rfl⟩ rfl (fun _ hG => cx_recvL X (k := 16) rfl rfl (vp_lt va0) hG) rfl (Nat.le_of_ble_eq_true rfl) dX6_change_31 ⟨by show _ ≤ 2; omega, by show _ ≤ 912; omega⟩ (fun ad12 h9 => ?_)
    have hax9 := h9.1
    have hax := hax.trans9 hN0 hax9
    try rw [← hax9 6 _ (ex_obj rfl (vp_lt va0)) (by decide)]
    have hN9 := h9.2
    have hN0 := fun k => Nat.le_trans (hN0 k) (hN9 k)
    have h11 := Nat.lt_of_lt_of_le h11 (hN9 11)
    have va0 := vp_mono va0 (hN9 6)
    have p8 := vp_mono p8 (hN9 7)
    clear hax9 hN9 h9
    refine z_pop X dX6_change_34 rfl ?_
    obtain rfl := Option.some.inj h
    refine zz.widen (k := 2) (n := 912) (by omega) (by omega) ?_
    exact z_vret X hr (fun t hG hF _ => ⟨⟨ad12, rfl, ⟨hax, hN0⟩, hG⟩, hF⟩) dX6_change_35
theorem cc_RateHistory_change (l : Launch) {D : va_G} {dA : Nat → ClassId} {A : Nat → Prop} {n : Nat} (hst : l.stackTraces = false) (hA : ∀ q, n ≤ q → A q) {V : Rho} {L : Lst} {N : Cnt} {ad : Adr} {xs : va_W} (h11 : 0 < N 11) {a0 : Int32} {a1 : Int32} {a2 : Int32} (va0 : vp_in a0 (N 6)) {o : CW} (h : fc_RateHistory_change V L N a0 a1 a2 = some o) : Met l yX6_change (.code yX6_change cX6_change 3 none :: gT) ({ frames := 9, cells := 2, slots := 912, locals := 378 } : Room) (va_Pc [.ref (ad 6 a0.toNatClampNeg), .int a1, .int a2] (zB D dA A n (cx D dA A V L N ad xs))) (va_Qv (fun (w9 : Adr) => axt N ad w9 ∧ (∀ k, N k ≤ o.2.2 k)) (fun (w9 : Adr) t => cx D dA A o.1 o.2.1 o.2.2 w9 xs t.heap) A) 2 912 A :=
  z_met (by decide) hA hst (Nat.le_of_ble_eq_true rfl) rfl rfl (fun p e s m below meth c X hml hr _ => bc_RateHistory_change X hml hr ⟨by omega, by omega⟩ h11 va0 h)
-- MeshBiller.setRate(IZI)I
def fc_setRate (V : Rho) (L : Lst) (N : Cnt) (a1 : Int32) (a2 : Int32) (a3 : Int32) : Option ((CW × Int32) ⊕ Nat) := (fc_isOutside V L N a1 0 2).bind fun o1 => (if o1 = 0 then (fc_isOutside V L N a3 0 1000).bind fun o2 => (if o2 = 0 then if a1 < 0 ∨ 3 ≤ a1.toNatClampNeg then none else (fc_Zone_historyFor V L N a1 a2).bind fun o5 => (some ((V 121 o5.toNatClampNeg))).bind fun x7 => (fc_RateHistory_change V L N o5 (V 228 0) a3).bind fun o8 => some (.inl ((o8.1, o8.2.1, o8.2.2), x7))
  else some (.inr 2))
  else some (.inr 2))
set_option maxRecDepth 100000 in
set_option maxHeartbeats 4000000 in
theorem bc_setRate {p : Program} {l : Launch} {e : Env} {s : State} {m : MethodId} {args : Array Value} {below : List Frame} {meth : Method} {c : Code} {D : va_G} {dA : Nat → ClassId} {A : Nat → Prop} {xs : va_W} {o : (CW × Int32) ⊕ Nat} (X : zc p l s m args meth c cX11_setRate RX11 D dA A) (hml : c.maxLocals = 6) (hr : meth.sig.returnType = (some .int)) (hnil : ∀ x ∈ c.exceptionTable.toList, False) {cells slots : Nat} (hcs : cells + 2 ≤ 2 ∧ slots + 912 ≤ 912) {V : Rho} {L : Lst} {N : Cnt} {ad : Adr} (h11 : 0 < N 11) {a1 : Int32} {a2 : Int32} {a3 : Int32} (h : fc_setRate V L N a1 a2 a3 = some o) : zz p l e ({ frames := 10, cells := 2, slots := 912, locals := 420 } : Room) s m args below meth c A (cx D dA A V L N ad xs) cells slots (vx_MQ below (va_Qi (fun r (w9 : (CW × Int32) × Adr) => r = w9.1.2 ∧ o = .inl w9.1 ∧ axt N ad w9.2 ∧ (∀ k, N k ≤ w9.1.1.2.2 k)) (fun (w9 : (CW × Int32) × Adr) t => cx D dA A w9.1.1.1 w9.1.1.2.1 w9.1.1.2.2 w9.2 xs t.heap) A) (vx_X (fun (u : Nat) => o = .inr u) (fun E u t => E = exn u ∧ cx D dA A V L N ad xs t.heap) A) args s 2 912 A) 0 [(0, .ref (ad 11 0)), (1, .int a1), (2, .int a2), (3, .int a3)] [] [] := by
  obtain ⟨hcs1, hcs2⟩ := hcs
  have hax := axt.rf N ad
  have hN0 := fun k => Nat.le_refl (N k)
  unfold fc_setRate at h
  refine z_iload_n X dX11_setRate_0 rfl rfl ?_
  refine z_iconst (v := 0) X dX11_setRate_1 (by decide) ?_
  refine z_iconst (v := 2) X dX11_setRate_2 (by decide) ?_
  obtain ⟨o1, co1, h⟩ := zb2 h
  refine z_callSi (As := [.int a1, .int 0, .int 2]) (rest := []) (nA := 3) (mc := 0) (ms := 0) (rm := ({ frames := 1, cells := 0, slots := 0, locals := 42 } : Room)) (r0 := o1) (pu := fun (_ : Unit) => True) (G1 := fun _ => cx D dA A V L N ad xs) X (cc_isOutside l X.2.2.2.2.2.2.2.2 X.2.2.2.2.2.2.1 h11 co1) g_394 g_395 g_1 g_396 hd_yX11_isOutside ⟨rfl, rfl, Nat.le_of_ble_eq_true rfl, Nat.le_of_ble_eq_true rfl⟩ rfl rfl (Nat.le_of_ble_eq_true rfl) dX11_setRate_3 ⟨by show _ ≤ 2; omega, by show _ ≤ 912; omega⟩ (fun _ _ => ?_)
  refine z_if_ne (tgt := 20) X dX11_setRate_6 (by decide) (fun q => ?_) (fun q => ?_)
  · have h := zp q h
    refine z_iload_n X dX11_setRate_9 rfl rfl ?_
    refine z_iconst (v := 0) X dX11_setRate_10 (by decide) ?_
    refine z_sipush (v := 1000) X dX11_setRate_11 (by decide) ?_
    obtain ⟨o2, co2, h⟩ := zb2 h
    refine z_callSi (As := [.int a3, .int 0, .int 1000]) (rest := []) (nA := 3) (mc := 0) (ms := 0) (rm := ({ frames := 1, cells := 0, slots := 0, locals := 42 } : Room)) (r0 := o2) (pu := fun (_ : Unit) => True) (G1 := fun _ => cx D dA A V L N ad xs) X (cc_isOutside l X.2.2.2.2.2.2.2.2 X.2.2.2.2.2.2.1 h11 co2) g_394 g_395 g_1 g_396 hd_yX11_isOutside ⟨rfl, rfl, Nat.le_of_ble_eq_true rfl, Nat.le_of_ble_eq_true rfl⟩ rfl rfl (Nat.le_of_ble_eq_true rfl) dX11_setRate_14 ⟨by show _ ≤ 2; omega, by show _ ≤ 912; omega⟩ (fun _ _ => ?_)
    refine z_if_eq (tgt := 30) X dX11_setRate_17 (by decide) (fun q => ?_) (fun q => ?_)
    · have h := zp q h
      refine z_aload_n X dX11_setRate_30 rfl rfl ?_
      refine c_get X 11 0 (v := .ref (ad 26 0)) rx11_ws rfl rfl rfl h11 g_272 rfl dX11_setRate_31 ?_
      refine z_iload_n X dX11_setRate_34 rfl rfl ?_
      obtain ⟨q3, h⟩ := zg h
      refine c_aald X 26 rfl rfl rfl h11 q3 dX11_setRate_35 ?_
      refine zz.pre (fun H hG => vp_of q3 (hG.2.2.2.2.2.2.2.2.1.1 h11).2.1) (fun (p4 : vp_in a1 (N 10)) => ?_)
      refine z_iload_n X dX11_setRate_36 rfl rfl ?_
      obtain ⟨o5, co5, h⟩ := zb2 h
      refine z_callVq (As := [.int a2]) (rest := []) (nA := 1) (mc := 0) (ms := 0) (rm := ({ frames := 1, cells := 0, slots := 0, locals := 42 } : Room)) (ro := fun _ => some (ad 6 o5.toNatClampNeg)) (pu := fun (_ : Unit) => vp_in o5 (N 6)) (G1 := fun _ => cx D dA A V L N ad xs) X (cc_Zone_historyFor l X.2.2.2.2.2.2.2.2 X.2.2.2.2.2.2.1 h11 p4 co5) g_453 g_454 g_455 g_5 g_456 hd_yX10_historyFor ⟨rfl, rfl, Nat.le_of_ble_eq_true rfl, Nat.le_of_ble_eq_true rfl⟩ rfl (fun _ hG => cx_recv X (k := 10) (n := 3) rfl rfl (vp_lt p4) hG) rfl (Nat.le_of_ble_eq_true rfl) dX11_setRate_37 ⟨by show _ ≤ 2; omega, by show _ ≤ 912; omega⟩ (fun _ p6 => ?_)
      refine z_astore (lo' := [(4, .ref (ad 6 o5.toNatClampNeg)), (0, .ref (ad 11 0)), (1, .int a1), (2, .int a2), (3, .int a3)]) X dX11_setRate_40 (by rw [hml]; decide) rfl rfl ?_
      refine z_aload X dX11_setRate_42 rfl ?_
      refine c_get X 6 1 (v := .int (V 121 o5.toNatClampNeg)) rx6_ws rfl rfl rfl (vp_lt p6) g_174 rfl dX11_setRate_44 ?_
      obtain ⟨x7, ex7, h⟩ := zb h
      rw [ex7]
      refine z_istore (lo' := [(5, .int x7), (4, .ref (ad 6 o5.toNatClampNeg)), (0, .ref (ad 11 0)), (1, .int a1), (2, .int a2), (3, .int a3)]) X dX11_setRate_47 (by rw [hml]; decide) rfl rfl ?_
      refine z_aload X dX11_setRate_49 rfl ?_
      refine z_aload_n X dX11_setRate_51 rfl rfl ?_
      refine c_get X 11 8 (v := .int (V 228 0)) rx11_ws rfl rfl rfl h11 g_280 rfl dX11_setRate_52 ?_
      refine z_iload_n X dX11_setRate_55 rfl rfl ?_
      obtain ⟨o8, co8, h⟩ := zb2 h
      refine z_callVv (As := [.int (V 228 0), .int a3]) (rest := []) (nA := 2) (mc := 2) (ms := 912) (rm := ({ frames := 9, cells := 2, slots := 912, locals := 378 } : Room)) (pu := fun (u : Adr) => axt N ad u ∧ (∀ k, N k ≤ o8.2.2 k)) (G1 := fun u => cx D dA A o8.1 o8.2.1 o8.2.2 u xs) X (cc_RateHistory_change l X.2.2.2.2.2.2.2.2 X.2.2.2.2.2.2.1 h11 p6 co8) g_457 g_458 g_459 g_6 g_460 hd_yX6_change ⟨rfl, rfl, Nat.le_of_ble_eq_true rfl, Nat.le_of_ble_eq_true rfl⟩ rfl (fun _ hG => cx_recv X (k := 6) (n := 2) rfl rfl (vp_lt p6) hG) rfl (Nat.le_of_ble_eq_true rfl) dX11_setRate_56 ⟨by show _ ≤ 2; omega, by show _ ≤ 912; omega⟩ (fun ad9 h9 => ?_)
      have hax9 := h9.1
      have hax := hax.trans9 hN0 hax9
      try rw [← hax9 6 _ (ex_obj rfl (vp_lt p6)) (by decide)]
      try rw [← hax9 11 0 (ex_obj rfl h11) (by decide)]
      have hN9 := h9.2
      have hN0 := fun k => Nat.le_trans (hN0 k) (hN9 k)
      have h11 := Nat.lt_of_lt_of_le h11 (hN9 11)
      have p4 := vp_mono p4 (hN9 10)
      have p6 := vp_mono p6 (hN9 6)
      clear hax9 hN9 h9
      refine z_iload X dX11_setRate_59 rfl ?_
      obtain rfl := Option.some.inj h
      refine zx_ret ?_
      refine zz.widen (k := 2) (n := 912) (by omega) (by omega) ?_
      exact z_iret X hr rfl (fun t hG hF _ => ⟨⟨_, (_, ad9), rfl, ⟨rfl, ⟨rfl, ⟨hax, hN0⟩⟩⟩, hG⟩, hF⟩) dX11_setRate_61
    · have h := zn q h
      obtain rfl := Option.some.inj h
      exact z_throwS (k := 2) (ik := 71) (is := 106) (ic := 75) (text := "zone or rate is out of range") X hnil cx_grow (by decide) g_397 g_20 hat_2 (by decide) dX11_setRate_20 dX11_setRate_23 dX11_setRate_24 dX11_setRate_26 dX11_setRate_29 ⟨Nat.le_of_ble_eq_true rfl, Nat.le_of_ble_eq_true rfl, by show _ ≤ 2; omega, by show _ ≤ 912; omega⟩ (fun t hG hF => ⟨2, rfl, ⟨rfl, hG⟩, hF⟩) (by omega) (by omega)
  · have h := zn q h
    obtain rfl := Option.some.inj h
    exact z_throwS (k := 2) (ik := 71) (is := 106) (ic := 75) (text := "zone or rate is out of range") X hnil cx_grow (by decide) g_397 g_20 hat_2 (by decide) dX11_setRate_20 dX11_setRate_23 dX11_setRate_24 dX11_setRate_26 dX11_setRate_29 ⟨Nat.le_of_ble_eq_true rfl, Nat.le_of_ble_eq_true rfl, by show _ ≤ 2; omega, by show _ ≤ 912; omega⟩ (fun t hG hF => ⟨2, rfl, ⟨rfl, hG⟩, hF⟩) (by omega) (by omega)
theorem cc_setRate (l : Launch) {D : va_G} {dA : Nat → ClassId} {A : Nat → Prop} {n : Nat} (hst : l.stackTraces = false) (hA : ∀ q, n ≤ q → A q) {V : Rho} {L : Lst} {N : Cnt} {ad : Adr} {xs : va_W} (h11 : 0 < N 11) {a1 : Int32} {a2 : Int32} {a3 : Int32} {o : (CW × Int32) ⊕ Nat} (h : fc_setRate V L N a1 a2 a3 = some o) : vx_Met l yX11_setRate (.code yX11_setRate cX11_setRate 6 (some .int) :: gT) ({ frames := 10, cells := 2, slots := 912, locals := 420 } : Room) (va_Pc [.ref (ad 11 0), .int a1, .int a2, .int a3] (zB D dA A n (cx D dA A V L N ad xs))) (va_Qi (fun r (w9 : (CW × Int32) × Adr) => r = w9.1.2 ∧ o = .inl w9.1 ∧ axt N ad w9.2 ∧ (∀ k, N k ≤ w9.1.1.2.2 k)) (fun (w9 : (CW × Int32) × Adr) t => cx D dA A w9.1.1.1 w9.1.1.2.1 w9.1.1.2.2 w9.2 xs t.heap) A) (vx_X (fun (u : Nat) => o = .inr u) (fun E u t => E = exn u ∧ cx D dA A V L N ad xs t.heap) A) 2 912 A :=
  zx_met (by decide) hA hst (Nat.le_of_ble_eq_true rfl) rfl rfl (fun p e s m below meth c X hml hr hnil => bc_setRate X hml hr hnil ⟨by omega, by omega⟩ h11 h)
-- MeshBiller$Wallet.addInOrderOfUse(LMeshBiller$Bundle;)V
def fc_Wallet_addInOrderOfUse_18 : Nat → Rho → Lst → Cnt → Int32 → Int32 → Int32 → Int32 → Option (CW)
  | 0, _, _, _, _, _, _, _ => none
  | n + 1, V, L, N, v0, v1, v2, v3 => (if v3 < 0 then if 1000 ≤ (L 15 v0.toNatClampNeg).length then none else if v2 < 0 ∨ (L 15 v0.toNatClampNeg).length < v2.toNatClampNeg then none else (some (lput L 15 v0.toNatClampNeg ((L 15 v0.toNatClampNeg).take v2.toNatClampNeg ++ v1 :: (L 15 v0.toNatClampNeg).drop v2.toNatClampNeg))).bind fun L2 => some (V, L2, N)
  else if v3 < 0 ∨ (L 15 v0.toNatClampNeg).length ≤ (v3).toNatClampNeg then none else (some ((L 15 v0.toNatClampNeg).getD v3.toNatClampNeg 0)).bind fun x6 => (fc_Bundle_isUsedAhead V L N v1 x6).bind fun o8 => (if o8 = 0 then if 1000 ≤ (L 15 v0.toNatClampNeg).length then none else if v2 < 0 ∨ (L 15 v0.toNatClampNeg).length < v2.toNatClampNeg then none else (some (lput L 15 v0.toNatClampNeg ((L 15 v0.toNatClampNeg).take v2.toNatClampNeg ++ v1 :: (L 15 v0.toNatClampNeg).drop v2.toNatClampNeg))).bind fun L10 => some (V, L10, N)
  else (some (v3 + (-1))).bind fun x13 => fc_Wallet_addInOrderOfUse_18 n V L N v0 v1 v3 x13))
set_option maxRecDepth 100000 in
set_option maxHeartbeats 4000000 in
theorem bc_Wallet_addInOrderOfUse_18 {p : Program} {l : Launch} {e : Env} {s : State} {m : MethodId} {args : Array Value} {below : List Frame} {meth : Method} {c : Code} {D : va_G} {dA : Nat → ClassId} {A : Nat → Prop} {xs : va_W} {o : CW} {N0 : Cnt} {ad0 : Adr} (X : zc p l s m args meth c cX9_addInOrderOfUse RX9 D dA A) (hml : c.maxLocals = 4) (hr : meth.sig.returnType = none) {cells slots : Nat} (hcs : cells + 1 ≤ 1 ∧ slots + 1510 ≤ 1510) : ∀ (n : Nat) {V : Rho} {L : Lst} {N : Cnt} {ad : Adr} (h11 : 0 < N 11) (hax : axt N0 ad0 ad) (hN0 : ∀ k, N0 k ≤ N k) {v0 : Int32} {v1 : Int32} {v2 : Int32} {v3 : Int32} (fv0 : vp_in v0 (N 9)) (fv1 : vp_in v1 (N 0)) , fc_Wallet_addInOrderOfUse_18 n V L N v0 v1 v2 v3 = some o → zz p l e ({ frames := 9, cells := 1, slots := 1510, locals := 378 } : Room) s m args below meth c A (cx D dA A V L N ad xs) cells slots (MQ below (va_Qv (fun (w9 : Adr) => axt N0 ad0 w9 ∧ (∀ k, N0 k ≤ o.2.2 k)) (fun (w9 : Adr) t => cx D dA A o.1 o.2.1 o.2.2 w9 xs t.heap) A) args s 1 1510 A) 18 [(0, .ref (ad 9 v0.toNatClampNeg)), (1, .ref (ad 0 v1.toNatClampNeg)), (2, .int v2), (3, .int v3)] [] [] := by
  obtain ⟨hcs1, hcs2⟩ := hcs
  intro n
  induction n with
  | zero => intro V L N ad h11 hax hN0 v0 v1 v2 v3 fv0 fv1 h; exact (nomatch (show none = some o from h))
  | succ n ih =>
    intro V L N ad h11 hax hN0 v0 v1 v2 v3 fv0 fv1 h
    rw [fc_Wallet_addInOrderOfUse_18] at h
    refine z_iload_n X dX9_addInOrderOfUse_18 rfl rfl ?_
    refine z_if_lt (tgt := 48) X dX9_addInOrderOfUse_19 (by decide) (fun q => ?_) (fun q => ?_)
    · have h := zp q h
      refine z_aload_n X dX9_addInOrderOfUse_48 rfl rfl ?_
      refine c_get X 9 1 (v := .ref (ad 15 v0.toNatClampNeg)) rx9_ws rfl rfl rfl (vp_lt fv0) g_224 rfl dX9_addInOrderOfUse_49 ?_
      refine z_iload_n X dX9_addInOrderOfUse_52 rfl rfl ?_
      refine z_aload_n X dX9_addInOrderOfUse_53 rfl rfl ?_
      obtain ⟨q1, h⟩ := zg h
      obtain ⟨q3, h⟩ := zg h
      obtain ⟨L2, eL2, h⟩ := zb h
      refine z_callVv (As := [.int v2, .ref (ad 0 v1.toNatClampNeg)]) (rest := []) (nA := 2) (mc := 1) (ms := 1510) (rm := ({ frames := 8, cells := 1, slots := 1510, locals := 336 } : Room)) (pu := fun (u : Adr) => axt N ad u ∧ (∀ k, N k ≤ N k)) (G1 := fun u => cx D dA A V L2 N u xs) X (cl_addAt l X.2.2.2.2.2.2.2.2 X.2.2.2.2.2.2.1 (k := 15) (i := v0.toNatClampNeg) (j := v2) (x := v1) rfl rfl (vp_lt fv0) fv1 q3 q1 eL2) g_572 g_573 g_574 g_4 g_575 hd_yJx4a65c_add_7a177 ⟨rfl, rfl, Nat.le_of_ble_eq_true rfl, Nat.le_of_ble_eq_true rfl⟩ rfl (fun _ hG => cx_recvL X (k := 15) rfl rfl (vp_lt fv0) hG) rfl (Nat.le_of_ble_eq_true rfl) dX9_addInOrderOfUse_54 ⟨by show _ ≤ 1; omega, by show _ ≤ 1510; omega⟩ (fun ad4 h9 => ?_)
      have hax9 := h9.1
      have hax := hax.trans9 hN0 hax9
      try rw [← hax9 9 _ (ex_obj rfl (vp_lt fv0)) (by decide)]
      try rw [← hax9 0 _ (ex_obj rfl (vp_lt fv1)) (by decide)]
      have hN9 := h9.2
      have hN0 := fun k => Nat.le_trans (hN0 k) (hN9 k)
      have h11 := Nat.lt_of_lt_of_le h11 (hN9 11)
      have fv0 := vp_mono fv0 (hN9 9)
      have fv1 := vp_mono fv1 (hN9 0)
      clear hax9 hN9 h9
      obtain rfl := Option.some.inj h
      refine zz.widen (k := 1) (n := 1510) (by omega) (by omega) ?_
      exact z_vret X hr (fun t hG hF _ => ⟨⟨ad4, rfl, ⟨hax, hN0⟩, hG⟩, hF⟩) dX9_addInOrderOfUse_57
    · have h := zn q h
      refine z_aload_n X dX9_addInOrderOfUse_22 rfl rfl ?_
      refine z_aload_n X dX9_addInOrderOfUse_23 rfl rfl ?_
      refine c_get X 9 1 (v := .ref (ad 15 v0.toNatClampNeg)) rx9_ws rfl rfl rfl (vp_lt fv0) g_224 rfl dX9_addInOrderOfUse_24 ?_
      refine z_iload_n X dX9_addInOrderOfUse_27 rfl rfl ?_
      obtain ⟨q5, h⟩ := zg h
      obtain ⟨x6, ex6, h⟩ := zb h
      refine z_callVq (As := [.int v3]) (rest := [.ref (ad 0 v1.toNatClampNeg)]) (nA := 1) (mc := 0) (ms := 0) (rm := ({ frames := 8, cells := 0, slots := 0, locals := 336 } : Room)) (ro := fun _ => some (ad 0 ((L 15 v0.toNatClampNeg).getD v3.toNatClampNeg 0).toNatClampNeg)) (pu := fun (_ : Unit) => True) (G1 := fun _ => cx D dA A V L N ad xs) X (cl_get l X.2.2.2.2.2.2.2.2 X.2.2.2.2.2.2.1 (k := 15) (i := v0.toNatClampNeg) (x := v3) rfl rfl (vp_lt fv0) q5) g_553 g_554 g_555 g_4 g_556 hd_yJx4a65c_get_915e3 ⟨rfl, rfl, Nat.le_of_ble_eq_true rfl, Nat.le_of_ble_eq_true rfl⟩ rfl (fun _ hG => cx_recvL X (k := 15) rfl rfl (vp_lt fv0) hG) rfl (Nat.le_of_ble_eq_true rfl) dX9_addInOrderOfUse_28 ⟨by show _ ≤ 1; omega, by show _ ≤ 1510; omega⟩ (fun _ _ => ?_)
      rw [ex6]
      refine zz.pre (fun H hG => cx_elt (k := 15) rfl rfl (vp_lt fv0) q5 hG) (fun p7 => ?_)
      rw [ex6] at p7
      refine c_cast X (k := 0) (n := 4) rfl rfl (vp_lt p7) g_567 dX9_addInOrderOfUse_31 ?_
      obtain ⟨o8, co8, h⟩ := zb2 h
      refine z_callVi (As := [.ref (ad 0 x6.toNatClampNeg)]) (rest := []) (nA := 1) (mc := 0) (ms := 0) (rm := ({ frames := 1, cells := 0, slots := 0, locals := 42 } : Room)) (r0 := o8) (pu := fun (_ : Unit) => True) (G1 := fun _ => cx D dA A V L N ad xs) X (cc_Bundle_isUsedAhead l X.2.2.2.2.2.2.2.2 X.2.2.2.2.2.2.1 h11 fv1 p7 co8) g_568 g_569 g_570 g_22 g_571 hd_yX0_isUsedAhead ⟨rfl, rfl, Nat.le_of_ble_eq_true rfl, Nat.le_of_ble_eq_true rfl⟩ rfl (fun _ hG => cx_recv X (k := 0) (n := 4) rfl rfl (vp_lt fv1) hG) rfl (Nat.le_of_ble_eq_true rfl) dX9_addInOrderOfUse_34 ⟨by show _ ≤ 1; omega, by show _ ≤ 1510; omega⟩ (fun _ _ => ?_)
      refine z_if_eq (tgt := 48) X dX9_addInOrderOfUse_37 (by decide) (fun q => ?_) (fun q => ?_)
      · have h := zp q h
        refine z_aload_n X dX9_addInOrderOfUse_48 rfl rfl ?_
        refine c_get X 9 1 (v := .ref (ad 15 v0.toNatClampNeg)) rx9_ws rfl rfl rfl (vp_lt fv0) g_224 rfl dX9_addInOrderOfUse_49 ?_
        refine z_iload_n X dX9_addInOrderOfUse_52 rfl rfl ?_
        refine z_aload_n X dX9_addInOrderOfUse_53 rfl rfl ?_
        obtain ⟨q9, h⟩ := zg h
        obtain ⟨q11, h⟩ := zg h
        obtain ⟨L10, eL10, h⟩ := zb h
        refine z_callVv (As := [.int v2, .ref (ad 0 v1.toNatClampNeg)]) (rest := []) (nA := 2) (mc := 1) (ms := 1510) (rm := ({ frames := 8, cells := 1, slots := 1510, locals := 336 } : Room)) (pu := fun (u : Adr) => axt N ad u ∧ (∀ k, N k ≤ N k)) (G1 := fun u => cx D dA A V L10 N u xs) X (cl_addAt l X.2.2.2.2.2.2.2.2 X.2.2.2.2.2.2.1 (k := 15) (i := v0.toNatClampNeg) (j := v2) (x := v1) rfl rfl (vp_lt fv0) fv1 q11 q9 eL10) g_572 g_573 g_574 g_4 g_575 hd_yJx4a65c_add_7a177 ⟨rfl, rfl, Nat.le_of_ble_eq_true rfl, Nat.le_of_ble_eq_true rfl⟩ rfl (fun _ hG => cx_recvL X (k := 15) rfl rfl (vp_lt fv0) hG) rfl (Nat.le_of_ble_eq_true rfl) dX9_addInOrderOfUse_54 ⟨by show _ ≤ 1; omega, by show _ ≤ 1510; omega⟩ (fun ad12 h9 => ?_)
        have hax9 := h9.1
        have hax := hax.trans9 hN0 hax9
        try rw [← hax9 9 _ (ex_obj rfl (vp_lt fv0)) (by decide)]
        try rw [← hax9 0 _ (ex_obj rfl (vp_lt fv1)) (by decide)]
        have hN9 := h9.2
        have hN0 := fun k => Nat.le_trans (hN0 k) (hN9 k)
        have h11 := Nat.lt_of_lt_of_le h11 (hN9 11)
        have fv0 := vp_mono fv0 (hN9 9)
        have fv1 := vp_mono fv1 (hN9 0)
        have p7 := vp_mono p7 (hN9 0)
        clear hax9 hN9 h9
        obtain rfl := Option.some.inj h
        refine zz.widen (k := 1) (n := 1510) (by omega) (by omega) ?_
        exact z_vret X hr (fun t hG hF _ => ⟨⟨ad12, rfl, ⟨hax, hN0⟩, hG⟩, hF⟩) dX9_addInOrderOfUse_57
      · have h := zn q h
        refine z_iload_n X dX9_addInOrderOfUse_40 rfl rfl ?_
        refine z_istore_n (lo' := [(2, .int v3), (0, .ref (ad 9 v0.toNatClampNeg)), (1, .ref (ad 0 v1.toNatClampNeg)), (3, .int v3)]) X dX9_addInOrderOfUse_41 rfl (by rw [hml]; decide) rfl rfl ?_
        obtain ⟨x13, ex13, h⟩ := zb h
        refine z_iinc (v := x13) (lo' := [(3, .int x13), (2, .int v3), (0, .ref (ad 9 v0.toNatClampNeg)), (1, .ref (ad 0 v1.toNatClampNeg))]) X dX9_addInOrderOfUse_42 rfl ex13 (by rw [hml]; decide) rfl rfl ?_
        refine z_goto (tgt := 18) X dX9_addInOrderOfUse_45 (by decide) ?_
        refine zz.pick (lo' := [(0, .ref (ad 9 v0.toNatClampNeg)), (1, .ref (ad 0 v1.toNatClampNeg)), (2, .int v3), (3, .int x13)]) [0, 1, 2, 3] rfl ?_
        exact ih h11 hax hN0 fv0 fv1 h
def fc_Wallet_addInOrderOfUse (V : Rho) (L : Lst) (N : Cnt) (a0 : Int32) (a1 : Int32) : Option (CW) := (some (nI (L 15 a0.toNatClampNeg).length)).bind fun x1 => (some (nI (L 15 a0.toNatClampNeg).length)).bind fun x2 => (some ((x2 - 1))).bind fun x3 => fc_Wallet_addInOrderOfUse_18 FU V L N a0 a1 x1 x3
set_option maxRecDepth 100000 in
set_option maxHeartbeats 4000000 in
theorem bc_Wallet_addInOrderOfUse {p : Program} {l : Launch} {e : Env} {s : State} {m : MethodId} {args : Array Value} {below : List Frame} {meth : Method} {c : Code} {D : va_G} {dA : Nat → ClassId} {A : Nat → Prop} {xs : va_W} {o : CW} (X : zc p l s m args meth c cX9_addInOrderOfUse RX9 D dA A) (hml : c.maxLocals = 4) (hr : meth.sig.returnType = none) {cells slots : Nat} (hcs : cells + 1 ≤ 1 ∧ slots + 1510 ≤ 1510) {V : Rho} {L : Lst} {N : Cnt} {ad : Adr} (h11 : 0 < N 11) {a0 : Int32} {a1 : Int32} (va0 : vp_in a0 (N 9)) (va1 : vp_in a1 (N 0)) (h : fc_Wallet_addInOrderOfUse V L N a0 a1 = some o) : zz p l e ({ frames := 9, cells := 1, slots := 1510, locals := 378 } : Room) s m args below meth c A (cx D dA A V L N ad xs) cells slots (MQ below (va_Qv (fun (w9 : Adr) => axt N ad w9 ∧ (∀ k, N k ≤ o.2.2 k)) (fun (w9 : Adr) t => cx D dA A o.1 o.2.1 o.2.2 w9 xs t.heap) A) args s 1 1510 A) 0 [(0, .ref (ad 9 a0.toNatClampNeg)), (1, .ref (ad 0 a1.toNatClampNeg))] [] [] := by
  obtain ⟨hcs1, hcs2⟩ := hcs
  have hax := axt.rf N ad
  have hN0 := fun k => Nat.le_refl (N k)
  unfold fc_Wallet_addInOrderOfUse at h
  refine z_aload_n X dX9_addInOrderOfUse_0 rfl rfl ?_
  refine c_get X 9 1 (v := .ref (ad 15 a0.toNatClampNeg)) rx9_ws rfl rfl rfl (vp_lt va0) g_224 rfl dX9_addInOrderOfUse_1 ?_
  obtain ⟨x1, ex1, h⟩ := zb h
  refine z_callVi (As := []) (rest := []) (nA := 0) (mc := 0) (ms := 0) (rm := ({ frames := 8, cells := 0, slots := 0, locals := 336 } : Room)) (r0 := (nI (L 15 a0.toNatClampNeg).length)) (pu := fun (_ : Unit) => True) (G1 := fun _ => cx D dA A V L N ad xs) X (cl_size l X.2.2.2.2.2.2.2.2 X.2.2.2.2.2.2.1 (k := 15) (i := a0.toNatClampNeg) rfl rfl (vp_lt va0)) g_552 g_309 g_310 g_4 g_311 hd_yJx4a65c_size_8abf5 ⟨rfl, rfl, Nat.le_of_ble_eq_true rfl, Nat.le_of_ble_eq_true rfl⟩ rfl (fun _ hG => cx_recvL X (k := 15) rfl rfl (vp_lt va0) hG) rfl (Nat.le_of_ble_eq_true rfl) dX9_addInOrderOfUse_4 ⟨by show _ ≤ 1; omega, by show _ ≤ 1510; omega⟩ (fun _ _ => ?_)
  rw [ex1]
  refine z_istore_n (lo' := [(2, .int x1), (0, .ref (ad 9 a0.toNatClampNeg)), (1, .ref (ad 0 a1.toNatClampNeg))]) X dX9_addInOrderOfUse_7 rfl (by rw [hml]; decide) rfl rfl ?_
  refine z_aload_n X dX9_addInOrderOfUse_8 rfl rfl ?_
  refine c_get X 9 1 (v := .ref (ad 15 a0.toNatClampNeg)) rx9_ws rfl rfl rfl (vp_lt va0) g_224 rfl dX9_addInOrderOfUse_9 ?_
  obtain ⟨x2, ex2, h⟩ := zb h
  refine z_callVi (As := []) (rest := []) (nA := 0) (mc := 0) (ms := 0) (rm := ({ frames := 8, cells := 0, slots := 0, locals := 336 } : Room)) (r0 := (nI (L 15 a0.toNatClampNeg).length)) (pu := fun (_ : Unit) => True) (G1 := fun _ => cx D dA A V L N ad xs) X (cl_size l X.2.2.2.2.2.2.2.2 X.2.2.2.2.2.2.1 (k := 15) (i := a0.toNatClampNeg) rfl rfl (vp_lt va0)) g_552 g_309 g_310 g_4 g_311 hd_yJx4a65c_size_8abf5 ⟨rfl, rfl, Nat.le_of_ble_eq_true rfl, Nat.le_of_ble_eq_true rfl⟩ rfl (fun _ hG => cx_recvL X (k := 15) rfl rfl (vp_lt va0) hG) rfl (Nat.le_of_ble_eq_true rfl) dX9_addInOrderOfUse_12 ⟨by show _ ≤ 1; omega, by show _ ≤ 1510; omega⟩ (fun _ _ => ?_)
  rw [ex2]
  refine z_iconst (v := 1) X dX9_addInOrderOfUse_15 (by decide) ?_
  refine z_isub X dX9_addInOrderOfUse_16 ?_
  obtain ⟨x3, ex3, h⟩ := zb h
  rw [ex3]
  refine z_istore_n (lo' := [(3, .int x3), (2, .int x1), (0, .ref (ad 9 a0.toNatClampNeg)), (1, .ref (ad 0 a1.toNatClampNeg))]) X dX9_addInOrderOfUse_17 rfl (by rw [hml]; decide) rfl rfl ?_
  refine zz.pick (lo' := [(0, .ref (ad 9 a0.toNatClampNeg)), (1, .ref (ad 0 a1.toNatClampNeg)), (2, .int x1), (3, .int x3)]) [0, 1, 2, 3] rfl ?_
  exact bc_Wallet_addInOrderOfUse_18 X hml hr ⟨by omega, by omega⟩ FU h11 hax hN0 va0 va1 h
theorem cc_Wallet_addInOrderOfUse (l : Launch) {D : va_G} {dA : Nat → ClassId} {A : Nat → Prop} {n : Nat} (hst : l.stackTraces = false) (hA : ∀ q, n ≤ q → A q) {V : Rho} {L : Lst} {N : Cnt} {ad : Adr} {xs : va_W} (h11 : 0 < N 11) {a0 : Int32} {a1 : Int32} (va0 : vp_in a0 (N 9)) (va1 : vp_in a1 (N 0)) {o : CW} (h : fc_Wallet_addInOrderOfUse V L N a0 a1 = some o) : Met l yX9_addInOrderOfUse (.code yX9_addInOrderOfUse cX9_addInOrderOfUse 4 none :: gT) ({ frames := 9, cells := 1, slots := 1510, locals := 378 } : Room) (va_Pc [.ref (ad 9 a0.toNatClampNeg), .ref (ad 0 a1.toNatClampNeg)] (zB D dA A n (cx D dA A V L N ad xs))) (va_Qv (fun (w9 : Adr) => axt N ad w9 ∧ (∀ k, N k ≤ o.2.2 k)) (fun (w9 : Adr) t => cx D dA A o.1 o.2.1 o.2.2 w9 xs t.heap) A) 1 1510 A :=
  z_met (by decide) hA hst (Nat.le_of_ble_eq_true rfl) rfl rfl (fun p e s m below meth c X hml hr _ => bc_Wallet_addInOrderOfUse X hml hr ⟨by omega, by omega⟩ h11 va0 va1 h)
-- MeshBiller.buy(IIIIII)I
def fc_buy (V : Rho) (L : Lst) (N : Cnt) (a1 : Int32) (a2 : Int32) (a3 : Int32) (a4 : Int32) (a5 : Int32) (a6 : Int32) : Option ((CW × Int32) ⊕ Nat) := (fc_walletAt V L N a1).bind fun o1 => Sum.elim (fun u2 => (fc_isOutside V L N a2 1 7).bind fun o4 => (if o4 = 0 then (fc_isOutside V L N a3 1 5000).bind fun o5 => (if o5 = 0 then (fc_isOutside V L N a4 1 30).bind fun o6 => (if o6 = 0 then (fc_isOutside V L N a5 0 9).bind fun o7 => (if o7 = 0 then (fc_isOutside V L N a6 0 1000000).bind fun o8 => (if o8 = 0 then (if (V 182 u2.toNatClampNeg) < a6 then some (.inr 3)
  else (some (nI (L 12 0).length)).bind fun x9 => (if x9 < 40 then (some (nI (L 12 0).length)).bind fun x10 => (some (cs V 182 u2.toNatClampNeg ((V 182 u2.toNatClampNeg) - a6))).bind fun V11 => (fc_dayOf V11 L N (V11 228 0)).bind fun o13 => if 100000 ≤ (N 0) then none else (some (cs (cs (cs (cs V11 0 (N 0) a2) 1 (N 0) (o13 + a4)) 2 (N 0) a5) 3 (N 0) a3)).bind fun V14 => (some (nup N 0)).bind fun N16 => (some (nI (N 0))).bind fun x15 => (fc_Wallet_addInOrderOfUse V14 L N16 u2 x15).bind fun o20 => if 1000 ≤ (o20.2.1 12 0).length then none else (some (lput o20.2.1 12 0 ((o20.2.1 12 0) ++ [x15]))).bind fun L23 => some (.inl ((o20.1, L23, o20.2.2), x10))
  else some (.inr 3)))
  else some (.inr 2))
  else some (.inr 2))
  else some (.inr 2))
  else some (.inr 2))
  else some (.inr 2))) (fun e9 => some (.inr e9)) o1
set_option maxRecDepth 100000 in
set_option maxHeartbeats 4000000 in
theorem bc_buy {p : Program} {l : Launch} {e : Env} {s : State} {m : MethodId} {args : Array Value} {below : List Frame} {meth : Method} {c : Code} {D : va_G} {dA : Nat → ClassId} {A : Nat → Prop} {xs : va_W} {o : (CW × Int32) ⊕ Nat} (X : zc p l s m args meth c cX11_buy RX11 D dA A) (hml : c.maxLocals = 10) (hr : meth.sig.returnType = (some .int)) (hnil : ∀ x ∈ c.exceptionTable.toList, False) {cells slots : Nat} (hcs : cells + 4 ≤ 4 ∧ slots + 3030 ≤ 3030) {V : Rho} {L : Lst} {N : Cnt} {ad : Adr} (h11 : 0 < N 11) {a1 : Int32} {a2 : Int32} {a3 : Int32} {a4 : Int32} {a5 : Int32} {a6 : Int32} (h : fc_buy V L N a1 a2 a3 a4 a5 a6 = some o) : zz p l e ({ frames := 10, cells := 4, slots := 3030, locals := 420 } : Room) s m args below meth c A (cx D dA A V L N ad xs) cells slots (vx_MQ below (va_Qi (fun r (w9 : (CW × Int32) × Adr) => r = w9.1.2 ∧ o = .inl w9.1 ∧ axt N ad w9.2 ∧ (∀ k, N k ≤ w9.1.1.2.2 k)) (fun (w9 : (CW × Int32) × Adr) t => cx D dA A w9.1.1.1 w9.1.1.2.1 w9.1.1.2.2 w9.2 xs t.heap) A) (vx_X (fun (u : Nat) => o = .inr u) (fun E u t => E = exn u ∧ cx D dA A V L N ad xs t.heap) A) args s 4 3030 A) 0 [(0, .ref (ad 11 0)), (1, .int a1), (2, .int a2), (3, .int a3), (4, .int a4), (5, .int a5), (6, .int a6)] [] [] := by
  obtain ⟨hcs1, hcs2⟩ := hcs
  have hax := axt.rf N ad
  have hN0 := fun k => Nat.le_refl (N k)
  unfold fc_buy at h
  refine z_aload_n X dX11_buy_0 rfl rfl ?_
  refine z_iload_n X dX11_buy_1 rfl rfl ?_
  obtain ⟨o1, co1, h⟩ := zb2 h
  refine z_xVq (As := [.int a1]) (rest := []) (nA := 1) (mc := 1) (ms := 6) (rm := ({ frames := 6, cells := 1, slots := 6, locals := 252 } : Room)) (S := Int32) (r0 := fun u => some (ad 9 u.toNatClampNeg)) (pu := fun u => o1 = .inl u ∧ vp_in u (N 9)) (G1 := fun u => cx D dA A V L N ad xs) X hnil (cc_walletAt l X.2.2.2.2.2.2.2.2 X.2.2.2.2.2.2.1 h11 co1) g_491 g_493 gs_7 g_1 g_494 hd_yX11_walletAt ⟨rfl, rfl, Nat.le_of_ble_eq_true rfl, Nat.le_of_ble_eq_true rfl⟩ rfl (fun _ hG => cx_recv X (k := 11) (n := 9) rfl rfl h11 hG)  rfl (Nat.le_of_ble_eq_true rfl) dX11_buy_2 ⟨by show _ ≤ 4; omega, by show _ ≤ 3030; omega⟩ ⟨by omega, by omega⟩ (fun u hu t hG hF => ?_) (fun u2 hu => ?_)
  · rw [hu] at h
    obtain rfl := Option.some.inj h
    exact ⟨u, rfl, ⟨rfl, hG⟩, hF⟩
  · rw [hu.1] at h
    have p3 := hu.2
    simp only [Sum.elim_inl] at h
    refine z_astore (lo' := [(7, .ref (ad 9 u2.toNatClampNeg)), (0, .ref (ad 11 0)), (1, .int a1), (2, .int a2), (3, .int a3), (4, .int a4), (5, .int a5), (6, .int a6)]) X dX11_buy_5 (by rw [hml]; decide) rfl rfl ?_
    refine z_iload_n X dX11_buy_7 rfl rfl ?_
    refine z_iconst (v := 1) X dX11_buy_8 (by decide) ?_
    refine z_bipush (v := 7) X dX11_buy_9 (by decide) ?_
    obtain ⟨o4, co4, h⟩ := zb2 h
    refine z_callSi (As := [.int a2, .int 1, .int 7]) (rest := []) (nA := 3) (mc := 0) (ms := 0) (rm := ({ frames := 1, cells := 0, slots := 0, locals := 42 } : Room)) (r0 := o4) (pu := fun (_ : Unit) => True) (G1 := fun _ => cx D dA A V L N ad xs) X (cc_isOutside l X.2.2.2.2.2.2.2.2 X.2.2.2.2.2.2.1 h11 co4) g_394 g_395 g_1 g_396 hd_yX11_isOutside ⟨rfl, rfl, Nat.le_of_ble_eq_true rfl, Nat.le_of_ble_eq_true rfl⟩ rfl rfl (Nat.le_of_ble_eq_true rfl) dX11_buy_11 ⟨by show _ ≤ 4; omega, by show _ ≤ 3030; omega⟩ (fun _ _ => ?_)
    refine z_if_ne (tgt := 61) X dX11_buy_14 (by decide) (fun q => ?_) (fun q => ?_)
    · have h := zp q h
      refine z_iload_n X dX11_buy_17 rfl rfl ?_
      refine z_iconst (v := 1) X dX11_buy_18 (by decide) ?_
      refine z_sipush (v := 5000) X dX11_buy_19 (by decide) ?_
      obtain ⟨o5, co5, h⟩ := zb2 h
      refine z_callSi (As := [.int a3, .int 1, .int 5000]) (rest := []) (nA := 3) (mc := 0) (ms := 0) (rm := ({ frames := 1, cells := 0, slots := 0, locals := 42 } : Room)) (r0 := o5) (pu := fun (_ : Unit) => True) (G1 := fun _ => cx D dA A V L N ad xs) X (cc_isOutside l X.2.2.2.2.2.2.2.2 X.2.2.2.2.2.2.1 h11 co5) g_394 g_395 g_1 g_396 hd_yX11_isOutside ⟨rfl, rfl, Nat.le_of_ble_eq_true rfl, Nat.le_of_ble_eq_true rfl⟩ rfl rfl (Nat.le_of_ble_eq_true rfl) dX11_buy_22 ⟨by show _ ≤ 4; omega, by show _ ≤ 3030; omega⟩ (fun _ _ => ?_)
      refine z_if_ne (tgt := 61) X dX11_buy_25 (by decide) (fun q => ?_) (fun q => ?_)
      · have h := zp q h
        refine z_iload X dX11_buy_28 rfl ?_
        refine z_iconst (v := 1) X dX11_buy_30 (by decide) ?_
        refine z_bipush (v := 30) X dX11_buy_31 (by decide) ?_
        obtain ⟨o6, co6, h⟩ := zb2 h
        refine z_callSi (As := [.int a4, .int 1, .int 30]) (rest := []) (nA := 3) (mc := 0) (ms := 0) (rm := ({ frames := 1, cells := 0, slots := 0, locals := 42 } : Room)) (r0 := o6) (pu := fun (_ : Unit) => True) (G1 := fun _ => cx D dA A V L N ad xs) X (cc_isOutside l X.2.2.2.2.2.2.2.2 X.2.2.2.2.2.2.1 h11 co6) g_394 g_395 g_1 g_396 hd_yX11_isOutside ⟨rfl, rfl, Nat.le_of_ble_eq_true rfl, Nat.le_of_ble_eq_true rfl⟩ rfl rfl (Nat.le_of_ble_eq_true rfl) dX11_buy_33 ⟨by show _ ≤ 4; omega, by show _ ≤ 3030; omega⟩ (fun _ _ => ?_)
        refine z_if_ne (tgt := 61) X dX11_buy_36 (by decide) (fun q => ?_) (fun q => ?_)
        · have h := zp q h
          refine z_iload X dX11_buy_39 rfl ?_
          refine z_iconst (v := 0) X dX11_buy_41 (by decide) ?_
          refine z_bipush (v := 9) X dX11_buy_42 (by decide) ?_
          obtain ⟨o7, co7, h⟩ := zb2 h
          refine z_callSi (As := [.int a5, .int 0, .int 9]) (rest := []) (nA := 3) (mc := 0) (ms := 0) (rm := ({ frames := 1, cells := 0, slots := 0, locals := 42 } : Room)) (r0 := o7) (pu := fun (_ : Unit) => True) (G1 := fun _ => cx D dA A V L N ad xs) X (cc_isOutside l X.2.2.2.2.2.2.2.2 X.2.2.2.2.2.2.1 h11 co7) g_394 g_395 g_1 g_396 hd_yX11_isOutside ⟨rfl, rfl, Nat.le_of_ble_eq_true rfl, Nat.le_of_ble_eq_true rfl⟩ rfl rfl (Nat.le_of_ble_eq_true rfl) dX11_buy_44 ⟨by show _ ≤ 4; omega, by show _ ≤ 3030; omega⟩ (fun _ _ => ?_)
          refine z_if_ne (tgt := 61) X dX11_buy_47 (by decide) (fun q => ?_) (fun q => ?_)
          · have h := zp q h
            refine z_iload X dX11_buy_50 rfl ?_
            refine z_iconst (v := 0) X dX11_buy_52 (by decide) ?_
            refine z_ldc X g_482 dX11_buy_53 ?_
            obtain ⟨o8, co8, h⟩ := zb2 h
            refine z_callSi (As := [.int a6, .int 0, .int 1000000]) (rest := []) (nA := 3) (mc := 0) (ms := 0) (rm := ({ frames := 1, cells := 0, slots := 0, locals := 42 } : Room)) (r0 := o8) (pu := fun (_ : Unit) => True) (G1 := fun _ => cx D dA A V L N ad xs) X (cc_isOutside l X.2.2.2.2.2.2.2.2 X.2.2.2.2.2.2.1 h11 co8) g_394 g_395 g_1 g_396 hd_yX11_isOutside ⟨rfl, rfl, Nat.le_of_ble_eq_true rfl, Nat.le_of_ble_eq_true rfl⟩ rfl rfl (Nat.le_of_ble_eq_true rfl) dX11_buy_55 ⟨by show _ ≤ 4; omega, by show _ ≤ 3030; omega⟩ (fun _ _ => ?_)
            refine z_if_eq (tgt := 71) X dX11_buy_58 (by decide) (fun q => ?_) (fun q => ?_)
            · have h := zp q h
              refine z_aload X dX11_buy_71 rfl ?_
              refine c_get X 9 2 (v := .int (V 182 u2.toNatClampNeg)) rx9_ws rfl rfl rfl (vp_lt p3) g_226 rfl dX11_buy_73 ?_
              refine z_iload X dX11_buy_76 rfl ?_
              refine z_icmp_lt (tgt := 93) X dX11_buy_78 (by decide) (fun q => ?_) (fun q => ?_)
              · have h := zp q h
                obtain rfl := Option.some.inj h
                exact z_throwS (k := 3) (ik := 82) (is := 163) (ic := 86) (text := "too little free money, or too many bundles") X hnil cx_grow (by decide) g_417 g_21 hat_3 (by decide) dX11_buy_93 dX11_buy_96 dX11_buy_97 dX11_buy_99 dX11_buy_102 ⟨Nat.le_of_ble_eq_true rfl, Nat.le_of_ble_eq_true rfl, by show _ ≤ 4; omega, by show _ ≤ 3030; omega⟩ (fun t hG hF => ⟨3, rfl, ⟨rfl, hG⟩, hF⟩) (by omega) (by omega)
              · have h := zn q h
                refine z_aload_n X dX11_buy_81 rfl rfl ?_
                refine c_get X 11 4 (v := .ref (ad 12 0)) rx11_ws rfl rfl rfl h11 g_276 rfl dX11_buy_82 ?_
                obtain ⟨x9, ex9, h⟩ := zb h
                refine z_callVi (As := []) (rest := []) (nA := 0) (mc := 0) (ms := 0) (rm := ({ frames := 8, cells := 0, slots := 0, locals := 336 } : Room)) (r0 := (nI (L 12 0).length)) (pu := fun (_ : Unit) => True) (G1 := fun _ => cx D dA A V L N ad xs) X (cl_size l X.2.2.2.2.2.2.2.2 X.2.2.2.2.2.2.1 (k := 12) (i := 0) rfl rfl h11) g_308 g_309 g_310 g_4 g_311 hd_yJx4a65c_size_8abf5 ⟨rfl, rfl, Nat.le_of_ble_eq_true rfl, Nat.le_of_ble_eq_true rfl⟩ rfl (fun _ hG => cx_recvL X (k := 12) rfl rfl h11 hG) rfl (Nat.le_of_ble_eq_true rfl) dX11_buy_85 ⟨by show _ ≤ 4; omega, by show _ ≤ 3030; omega⟩ (fun _ _ => ?_)
                rw [ex9]
                refine z_bipush (v := 40) X dX11_buy_88 (by decide) ?_
                refine z_icmp_lt (tgt := 103) X dX11_buy_90 (by decide) (fun q => ?_) (fun q => ?_)
                · have h := zp q h
                  refine z_aload_n X dX11_buy_103 rfl rfl ?_
                  refine c_get X 11 4 (v := .ref (ad 12 0)) rx11_ws rfl rfl rfl h11 g_276 rfl dX11_buy_104 ?_
                  obtain ⟨x10, ex10, h⟩ := zb h
                  refine z_callVi (As := []) (rest := []) (nA := 0) (mc := 0) (ms := 0) (rm := ({ frames := 8, cells := 0, slots := 0, locals := 336 } : Room)) (r0 := (nI (L 12 0).length)) (pu := fun (_ : Unit) => True) (G1 := fun _ => cx D dA A V L N ad xs) X (cl_size l X.2.2.2.2.2.2.2.2 X.2.2.2.2.2.2.1 (k := 12) (i := 0) rfl rfl h11) g_308 g_309 g_310 g_4 g_311 hd_yJx4a65c_size_8abf5 ⟨rfl, rfl, Nat.le_of_ble_eq_true rfl, Nat.le_of_ble_eq_true rfl⟩ rfl (fun _ hG => cx_recvL X (k := 12) rfl rfl h11 hG) rfl (Nat.le_of_ble_eq_true rfl) dX11_buy_107 ⟨by show _ ≤ 4; omega, by show _ ≤ 3030; omega⟩ (fun _ _ => ?_)
                  rw [ex10]
                  refine z_istore (lo' := [(8, .int x10), (7, .ref (ad 9 u2.toNatClampNeg)), (0, .ref (ad 11 0)), (1, .int a1), (2, .int a2), (3, .int a3), (4, .int a4), (5, .int a5), (6, .int a6)]) X dX11_buy_110 (by rw [hml]; decide) rfl rfl ?_
                  refine z_aload X dX11_buy_112 rfl ?_
                  refine z_dup X dX11_buy_114 rfl ?_
                  refine c_get X 9 2 (v := .int (V 182 u2.toNatClampNeg)) rx9_ws rfl rfl rfl (vp_lt p3) g_226 rfl dX11_buy_115 ?_
                  refine z_iload X dX11_buy_118 rfl ?_
                  refine z_isub X dX11_buy_120 ?_
                  obtain ⟨V11, eV11, h⟩ := zb h
                  refine c_put X 9 2 (x := ((V 182 u2.toNatClampNeg) - a6)) (v := .int ((V 182 u2.toNatClampNeg) - a6)) (ty := .int) rx9_ws rfl tyX9_ok nmX9 rfl rfl (vp_lt p3) rfl g_226 rfl trivial rfl rfl rfl eV11 dX11_buy_121 ?_
                  refine c_new X 3 (fs := [.int 0, .int 0, .int 0, .int 0]) tyX0 rx0_ws rfl tyX0_ok g_523 g_524 g_22 (fun j hj => by rcases (show j = 0 ∨ j = 1 ∨ j = 2 ∨ j = 3 by omega) with rfl | rfl | rfl | rfl <;> rfl) ⟨by show _ ≤ 4; omega, by show _ ≤ 3030; omega⟩ dX11_buy_124 (fun q12 => ?_)
                  refine z_dup X dX11_buy_127 rfl ?_
                  refine z_iload_n X dX11_buy_128 rfl rfl ?_
                  refine z_iload_n X dX11_buy_129 rfl rfl ?_
                  refine z_aload_n X dX11_buy_130 rfl rfl ?_
                  refine c_get X 11 8 (v := .int (V11 228 0)) rx11_ws rfl rfl rfl h11 g_280 rfl dX11_buy_131 ?_
                  obtain ⟨o13, co13, h⟩ := zb2 h
                  refine z_callSi (As := [.int (V11 228 0)]) (rest := [.int a3, .int a2, .ref q12, .ref q12]) (nA := 1) (mc := 0) (ms := 0) (rm := ({ frames := 1, cells := 0, slots := 0, locals := 42 } : Room)) (r0 := o13) (pu := fun (_ : Unit) => True) (G1 := fun _ => cx D dA A V11 L N ad (xs ++ [(q12, .inr (3, [.int 0, .int 0, .int 0, .int 0]))])) X (cc_dayOf l X.2.2.2.2.2.2.2.2 X.2.2.2.2.2.2.1 h11 co13) g_525 g_526 g_1 g_527 hd_yX11_dayOf ⟨rfl, rfl, Nat.le_of_ble_eq_true rfl, Nat.le_of_ble_eq_true rfl⟩ rfl rfl (Nat.le_of_ble_eq_true rfl) dX11_buy_134 ⟨by show _ ≤ 4; omega, by show _ ≤ 3030; omega⟩ (fun _ _ => ?_)
                  refine z_iload X dX11_buy_137 rfl ?_
                  refine z_iadd X dX11_buy_139 ?_
                  refine z_iload X dX11_buy_140 rfl ?_
                  refine z_callI (As := [.int a2, .int a3, .int (o13 + a4), .int a5]) (rest := [.ref q12]) (nA := 4) (mc := 0) (ms := 0) (rm := ({ frames := 1, cells := 0, slots := 0, locals := 42 } : Room)) (pu := fun (u : Unit) => True) (G1 := fun u => cx D dA A V11 L N ad (xs ++ [(q12, .inr (3, [.int a2, .int (o13 + a4), .int a5, .int a3]))])) X (ck_Bundle l X.2.2.2.2.2.2.2.2 X.2.2.2.2.2.2.1) g_528 g_529 g_22 g_530 hd_yX0_init ⟨rfl, rfl, Nat.le_of_ble_eq_true rfl, Nat.le_of_ble_eq_true rfl⟩ rfl rfl (Nat.le_of_ble_eq_true rfl) dX11_buy_142 ⟨by show _ ≤ 4; omega, by show _ ≤ 3030; omega⟩ (fun u _ => ?_)
                  obtain ⟨q19, h⟩ := zg h
                  obtain ⟨V14, eV14, h⟩ := zb h
                  obtain ⟨N16, eN16, h⟩ := zb h
                  obtain ⟨x15, ex15, h⟩ := zb h
                  obtain ⟨ad17, ead17⟩ : ∃ z, z = adu ad 0 (N 0) q12 := ⟨_, rfl⟩
                  have p18 : vp_in x15 (N16 0) := by rw [← ex15, ← eN16]; exact vp_new q19 |>.1
                  have hq9 : ad17 0 x15.toNatClampNeg = q12 := by rw [← ex15, nI_clamp (by omega), ead17, adu_self]
                  have h9 : axt N ad ad17 ∧ ∀ k, N k ≤ N16 k := ⟨by rw [ead17]; exact axt_adu (by decide), fun k => by rw [← eN16]; exact nup_le⟩
                  refine zz.conseq (fun H hG => mk_Bundle q19 eV14 eN16 ead17 hG) ?_
                  rw [← hq9]
                  clear hq9 ead17
                  have hax9 := h9.1
                  have hax := hax.trans9 hN0 hax9
                  try rw [← hax9 9 _ (ex_obj rfl (vp_lt p3)) (by decide)]
                  try rw [← hax9 11 0 (ex_obj rfl h11) (by decide)]
                  have hN9 := h9.2
                  have hN0 := fun k => Nat.le_trans (hN0 k) (hN9 k)
                  have h11 := Nat.lt_of_lt_of_le h11 (hN9 11)
                  have p3 := vp_mono p3 (hN9 9)
                  clear hax9 hN9 h9
                  refine z_astore (lo' := [(9, .ref (ad17 0 x15.toNatClampNeg)), (8, .int x10), (7, .ref (ad17 9 u2.toNatClampNeg)), (0, .ref (ad17 11 0)), (1, .int a1), (2, .int a2), (3, .int a3), (4, .int a4), (5, .int a5), (6, .int a6)]) X dX11_buy_145 (by rw [hml]; decide) rfl rfl ?_
                  refine z_aload X dX11_buy_147 rfl ?_
                  refine z_aload X dX11_buy_149 rfl ?_
                  obtain ⟨o20, co20, h⟩ := zb2 h
                  refine z_callVv (As := [.ref (ad17 0 x15.toNatClampNeg)]) (rest := []) (nA := 1) (mc := 1) (ms := 1510) (rm := ({ frames := 9, cells := 1, slots := 1510, locals := 378 } : Room)) (pu := fun (u : Adr) => axt N16 ad17 u ∧ (∀ k, N16 k ≤ o20.2.2 k)) (G1 := fun u => cx D dA A o20.1 o20.2.1 o20.2.2 u xs) X (cc_Wallet_addInOrderOfUse l X.2.2.2.2.2.2.2.2 X.2.2.2.2.2.2.1 h11 p3 p18 co20) g_548 g_549 g_550 g_13 g_551 hd_yX9_addInOrderOfUse ⟨rfl, rfl, Nat.le_of_ble_eq_true rfl, Nat.le_of_ble_eq_true rfl⟩ rfl (fun _ hG => cx_recv X (k := 9) (n := 4) rfl rfl (vp_lt p3) hG) rfl (Nat.le_of_ble_eq_true rfl) dX11_buy_151 ⟨by show _ ≤ 4; omega, by show _ ≤ 3030; omega⟩ (fun ad21 h9 => ?_)
                  have hax9 := h9.1
                  have hax := hax.trans9 hN0 hax9
                  try rw [← hax9 0 _ (ex_obj rfl (vp_lt p18)) (by decide)]
                  try rw [← hax9 9 _ (ex_obj rfl (vp_lt p3)) (by decide)]
                  try rw [← hax9 11 0 (ex_obj rfl h11) (by decide)]
                  have hN9 := h9.2
                  have hN0 := fun k => Nat.le_trans (hN0 k) (hN9 k)
                  have h11 := Nat.lt_of_lt_of_le h11 (hN9 11)
                  have p3 := vp_mono p3 (hN9 9)
                  have p18 := vp_mono p18 (hN9 0)
                  clear hax9 hN9 h9
                  refine z_aload_n X dX11_buy_154 rfl rfl ?_
                  refine c_get X 11 4 (v := .ref (ad21 12 0)) rx11_ws rfl rfl rfl h11 g_276 rfl dX11_buy_155 ?_
                  refine z_aload X dX11_buy_158 rfl ?_
                  obtain ⟨q22, h⟩ := zg h
                  obtain ⟨L23, eL23, h⟩ := zb h
                  refine z_callVi (As := [.ref (ad21 0 x15.toNatClampNeg)]) (rest := []) (nA := 1) (mc := 1) (ms := 1510) (rm := ({ frames := 8, cells := 1, slots := 1510, locals := 336 } : Room)) (r0 := 1) (pu := fun (u : Adr) => axt o20.2.2 ad21 u ∧ (∀ k, o20.2.2 k ≤ o20.2.2 k)) (G1 := fun u => cx D dA A o20.1 L23 o20.2.2 u xs) X (cl_add l X.2.2.2.2.2.2.2.2 X.2.2.2.2.2.2.1 (k := 12) (i := 0) (x := x15) rfl rfl h11 p18 q22 (b := 1510) (by omega) eL23) g_818 g_107 g_108 g_4 g_109 hd_yJx4a65c_add_9ea2d ⟨rfl, rfl, Nat.le_of_ble_eq_true rfl, Nat.le_of_ble_eq_true rfl⟩ rfl (fun _ hG => cx_recvL X (k := 12) rfl rfl h11 hG) rfl (Nat.le_of_ble_eq_true rfl) dX11_buy_160 ⟨by show _ ≤ 4; omega, by show _ ≤ 3030; omega⟩ (fun ad24 h9 => ?_)
                  have hax9 := h9.1
                  have hax := hax.trans9 hN0 hax9
                  try rw [← hax9 0 _ (ex_obj rfl (vp_lt p18)) (by decide)]
                  try rw [← hax9 9 _ (ex_obj rfl (vp_lt p3)) (by decide)]
                  try rw [← hax9 11 0 (ex_obj rfl h11) (by decide)]
                  have hN9 := h9.2
                  have hN0 := fun k => Nat.le_trans (hN0 k) (hN9 k)
                  have h11 := Nat.lt_of_lt_of_le h11 (hN9 11)
                  have p3 := vp_mono p3 (hN9 9)
                  have p18 := vp_mono p18 (hN9 0)
                  clear hax9 hN9 h9
                  refine z_pop X dX11_buy_163 rfl ?_
                  refine z_iload X dX11_buy_164 rfl ?_
                  obtain rfl := Option.some.inj h
                  refine zx_ret ?_
                  refine zz.widen (k := 4) (n := 3030) (by omega) (by omega) ?_
                  exact z_iret X hr rfl (fun t hG hF _ => ⟨⟨_, (_, ad24), rfl, ⟨rfl, ⟨rfl, ⟨hax, hN0⟩⟩⟩, hG⟩, hF⟩) dX11_buy_166
                · have h := zn q h
                  obtain rfl := Option.some.inj h
                  exact z_throwS (k := 3) (ik := 82) (is := 163) (ic := 86) (text := "too little free money, or too many bundles") X hnil cx_grow (by decide) g_417 g_21 hat_3 (by decide) dX11_buy_93 dX11_buy_96 dX11_buy_97 dX11_buy_99 dX11_buy_102 ⟨Nat.le_of_ble_eq_true rfl, Nat.le_of_ble_eq_true rfl, by show _ ≤ 4; omega, by show _ ≤ 3030; omega⟩ (fun t hG hF => ⟨3, rfl, ⟨rfl, hG⟩, hF⟩) (by omega) (by omega)
            · have h := zn q h
              obtain rfl := Option.some.inj h
              exact z_throwS (k := 2) (ik := 71) (is := 157) (ic := 75) (text := "zones, seconds, days, rank or price is out of range") X hnil cx_grow (by decide) g_397 g_20 hat_2 (by decide) dX11_buy_61 dX11_buy_64 dX11_buy_65 dX11_buy_67 dX11_buy_70 ⟨Nat.le_of_ble_eq_true rfl, Nat.le_of_ble_eq_true rfl, by show _ ≤ 4; omega, by show _ ≤ 3030; omega⟩ (fun t hG hF => ⟨2, rfl, ⟨rfl, hG⟩, hF⟩) (by omega) (by omega)
          · have h := zn q h
            obtain rfl := Option.some.inj h
            exact z_throwS (k := 2) (ik := 71) (is := 157) (ic := 75) (text := "zones, seconds, days, rank or price is out of range") X hnil cx_grow (by decide) g_397 g_20 hat_2 (by decide) dX11_buy_61 dX11_buy_64 dX11_buy_65 dX11_buy_67 dX11_buy_70 ⟨Nat.le_of_ble_eq_true rfl, Nat.le_of_ble_eq_true rfl, by show _ ≤ 4; omega, by show _ ≤ 3030; omega⟩ (fun t hG hF => ⟨2, rfl, ⟨rfl, hG⟩, hF⟩) (by omega) (by omega)
        · have h := zn q h
          obtain rfl := Option.some.inj h
          exact z_throwS (k := 2) (ik := 71) (is := 157) (ic := 75) (text := "zones, seconds, days, rank or price is out of range") X hnil cx_grow (by decide) g_397 g_20 hat_2 (by decide) dX11_buy_61 dX11_buy_64 dX11_buy_65 dX11_buy_67 dX11_buy_70 ⟨Nat.le_of_ble_eq_true rfl, Nat.le_of_ble_eq_true rfl, by show _ ≤ 4; omega, by show _ ≤ 3030; omega⟩ (fun t hG hF => ⟨2, rfl, ⟨rfl, hG⟩, hF⟩) (by omega) (by omega)
      · have h := zn q h
        obtain rfl := Option.some.inj h
        exact z_throwS (k := 2) (ik := 71) (is := 157) (ic := 75) (text := "zones, seconds, days, rank or price is out of range") X hnil cx_grow (by decide) g_397 g_20 hat_2 (by decide) dX11_buy_61 dX11_buy_64 dX11_buy_65 dX11_buy_67 dX11_buy_70 ⟨Nat.le_of_ble_eq_true rfl, Nat.le_of_ble_eq_true rfl, by show _ ≤ 4; omega, by show _ ≤ 3030; omega⟩ (fun t hG hF => ⟨2, rfl, ⟨rfl, hG⟩, hF⟩) (by omega) (by omega)
    · have h := zn q h
      obtain rfl := Option.some.inj h
      exact z_throwS (k := 2) (ik := 71) (is := 157) (ic := 75) (text := "zones, seconds, days, rank or price is out of range") X hnil cx_grow (by decide) g_397 g_20 hat_2 (by decide) dX11_buy_61 dX11_buy_64 dX11_buy_65 dX11_buy_67 dX11_buy_70 ⟨Nat.le_of_ble_eq_true rfl, Nat.le_of_ble_eq_true rfl, by show _ ≤ 4; omega, by show _ ≤ 3030; omega⟩ (fun t hG hF => ⟨2, rfl, ⟨rfl, hG⟩, hF⟩) (by omega) (by omega)
theorem cc_buy (l : Launch) {D : va_G} {dA : Nat → ClassId} {A : Nat → Prop} {n : Nat} (hst : l.stackTraces = false) (hA : ∀ q, n ≤ q → A q) {V : Rho} {L : Lst} {N : Cnt} {ad : Adr} {xs : va_W} (h11 : 0 < N 11) {a1 : Int32} {a2 : Int32} {a3 : Int32} {a4 : Int32} {a5 : Int32} {a6 : Int32} {o : (CW × Int32) ⊕ Nat} (h : fc_buy V L N a1 a2 a3 a4 a5 a6 = some o) : vx_Met l yX11_buy (.code yX11_buy cX11_buy 10 (some .int) :: gT) ({ frames := 10, cells := 4, slots := 3030, locals := 420 } : Room) (va_Pc [.ref (ad 11 0), .int a1, .int a2, .int a3, .int a4, .int a5, .int a6] (zB D dA A n (cx D dA A V L N ad xs))) (va_Qi (fun r (w9 : (CW × Int32) × Adr) => r = w9.1.2 ∧ o = .inl w9.1 ∧ axt N ad w9.2 ∧ (∀ k, N k ≤ w9.1.1.2.2 k)) (fun (w9 : (CW × Int32) × Adr) t => cx D dA A w9.1.1.1 w9.1.1.2.1 w9.1.1.2.2 w9.2 xs t.heap) A) (vx_X (fun (u : Nat) => o = .inr u) (fun E u t => E = exn u ∧ cx D dA A V L N ad xs t.heap) A) 4 3030 A :=
  zx_met (by decide) hA hst (Nat.le_of_ble_eq_true rfl) rfl rfl (fun p e s m below meth c X hml hr hnil => bc_buy X hml hr hnil ⟨by omega, by omega⟩ h11 h)
-- MeshBiller$Leg.keepEvent(IILMeshBiller$Cell;)V
def fc_Leg_keepEvent (V : Rho) (L : Lst) (N : Cnt) (a0 : Int32) (a1 : Int32) (a2 : Int32) (a3 : Int32) : Option (CW) := (some (nI (L 18 a0.toNatClampNeg).length)).bind fun x1 => (if 600 ≤ x1 then some (V, L, N)
  else if 100000 ≤ (N 3) then none else (some (cs (cs (cs V 60 (N 3) a1) 61 (N 3) a2) 62 (N 3) a3)).bind fun V3 => (some (nup N 3)).bind fun N5 => (some (nI (N 3))).bind fun x4 => if 1000 ≤ (L 18 a0.toNatClampNeg).length then none else (some (lput L 18 a0.toNatClampNeg ((L 18 a0.toNatClampNeg) ++ [x4]))).bind fun L10 => some (V3, L10, N5))
set_option maxRecDepth 100000 in
set_option maxHeartbeats 4000000 in
theorem bc_Leg_keepEvent {p : Program} {l : Launch} {e : Env} {s : State} {m : MethodId} {args : Array Value} {below : List Frame} {meth : Method} {c : Code} {D : va_G} {dA : Nat → ClassId} {A : Nat → Prop} {xs : va_W} {o : CW} (X : zc p l s m args meth c cX4_keepEvent RX4 D dA A) (hml : c.maxLocals = 4) (hr : meth.sig.returnType = none) {cells slots : Nat} (hcs : cells + 2 ≤ 2 ∧ slots + 913 ≤ 913) {V : Rho} {L : Lst} {N : Cnt} {ad : Adr} (h11 : 0 < N 11) {a0 : Int32} {a1 : Int32} {a2 : Int32} {a3 : Int32} (va0 : vp_in a0 (N 4)) (va3 : vp_in a3 (N 2)) (h : fc_Leg_keepEvent V L N a0 a1 a2 a3 = some o) : zz p l e ({ frames := 9, cells := 2, slots := 913, locals := 378 } : Room) s m args below meth c A (cx D dA A V L N ad xs) cells slots (MQ below (va_Qv (fun (w9 : Adr) => axt N ad w9 ∧ (∀ k, N k ≤ o.2.2 k)) (fun (w9 : Adr) t => cx D dA A o.1 o.2.1 o.2.2 w9 xs t.heap) A) args s 2 913 A) 0 [(0, .ref (ad 4 a0.toNatClampNeg)), (1, .int a1), (2, .int a2), (3, .ref (ad 2 a3.toNatClampNeg))] [] [] := by
  obtain ⟨hcs1, hcs2⟩ := hcs
  have hax := axt.rf N ad
  have hN0 := fun k => Nat.le_refl (N k)
  unfold fc_Leg_keepEvent at h
  refine z_aload_n X dX4_keepEvent_0 rfl rfl ?_
  refine c_get X 4 6 (v := .ref (ad 18 a0.toNatClampNeg)) rx4_ws rfl rfl rfl (vp_lt va0) g_937 rfl dX4_keepEvent_1 ?_
  obtain ⟨x1, ex1, h⟩ := zb h
  refine z_callVi (As := []) (rest := []) (nA := 0) (mc := 0) (ms := 0) (rm := ({ frames := 8, cells := 0, slots := 0, locals := 336 } : Room)) (r0 := (nI (L 18 a0.toNatClampNeg).length)) (pu := fun (_ : Unit) => True) (G1 := fun _ => cx D dA A V L N ad xs) X (cl_size l X.2.2.2.2.2.2.2.2 X.2.2.2.2.2.2.1 (k := 18) (i := a0.toNatClampNeg) rfl rfl (vp_lt va0)) g_979 g_309 g_310 g_4 g_311 hd_yJx4a65c_size_8abf5 ⟨rfl, rfl, Nat.le_of_ble_eq_true rfl, Nat.le_of_ble_eq_true rfl⟩ rfl (fun _ hG => cx_recvL X (k := 18) rfl rfl (vp_lt va0) hG) rfl (Nat.le_of_ble_eq_true rfl) dX4_keepEvent_4 ⟨by show _ ≤ 2; omega, by show _ ≤ 913; omega⟩ (fun _ _ => ?_)
  rw [ex1]
  refine z_sipush (v := 600) X dX4_keepEvent_7 (by decide) ?_
  refine z_icmp_ge (tgt := 31) X dX4_keepEvent_10 (by decide) (fun q => ?_) (fun q => ?_)
  · have h := zp q h
    obtain rfl := Option.some.inj h
    refine zz.widen (k := 2) (n := 913) (by omega) (by omega) ?_
    exact z_vret X hr (fun t hG hF _ => ⟨⟨ad, rfl, ⟨hax, hN0⟩, hG⟩, hF⟩) dX4_keepEvent_31
  · have h := zn q h
    refine z_aload_n X dX4_keepEvent_13 rfl rfl ?_
    refine c_get X 4 6 (v := .ref (ad 18 a0.toNatClampNeg)) rx4_ws rfl rfl rfl (vp_lt va0) g_937 rfl dX4_keepEvent_14 ?_
    refine c_new X 6 (fs := [.int 0, .int 0, .null]) tyX3 rx3_ws rfl tyX3_ok g_980 g_981 g_35 (fun j hj => by rcases (show j = 0 ∨ j = 1 ∨ j = 2 by omega) with rfl | rfl | rfl <;> rfl) ⟨by show _ ≤ 2; omega, by show _ ≤ 913; omega⟩ dX4_keepEvent_17 (fun q2 => ?_)
    refine z_dup X dX4_keepEvent_20 rfl ?_
    refine z_iload_n X dX4_keepEvent_21 rfl rfl ?_
    refine z_iload_n X dX4_keepEvent_22 rfl rfl ?_
    refine z_aload_n X dX4_keepEvent_23 rfl rfl ?_
    refine z_callI (As := [.int a1, .int a2, .ref (ad 2 a3.toNatClampNeg)]) (rest := [.ref q2, .ref (ad 18 a0.toNatClampNeg)]) (nA := 3) (mc := 0) (ms := 0) (rm := ({ frames := 1, cells := 0, slots := 0, locals := 42 } : Room)) (pu := fun (u : Unit) => True) (G1 := fun u => cx D dA A V L N ad (xs ++ [(q2, .inr (6, [.int a1, .int a2, .ref (ad 2 a3.toNatClampNeg)]))])) X (ck_Event l X.2.2.2.2.2.2.2.2 X.2.2.2.2.2.2.1 va3) g_982 g_983 g_35 g_984 hd_yX3_init ⟨rfl, rfl, Nat.le_of_ble_eq_true rfl, Nat.le_of_ble_eq_true rfl⟩ rfl rfl (Nat.le_of_ble_eq_true rfl) dX4_keepEvent_24 ⟨by show _ ≤ 2; omega, by show _ ≤ 913; omega⟩ (fun u _ => ?_)
    obtain ⟨q8, h⟩ := zg h
    obtain ⟨V3, eV3, h⟩ := zb h
    obtain ⟨N5, eN5, h⟩ := zb h
    obtain ⟨x4, ex4, h⟩ := zb h
    obtain ⟨ad6, ead6⟩ : ∃ z, z = adu ad 3 (N 3) q2 := ⟨_, rfl⟩
    have p7 : vp_in x4 (N5 3) := by rw [← ex4, ← eN5]; exact vp_new q8 |>.1
    have hq9 : ad6 3 x4.toNatClampNeg = q2 := by rw [← ex4, nI_clamp (by omega), ead6, adu_self]
    have h9 : axt N ad ad6 ∧ ∀ k, N k ≤ N5 k := ⟨by rw [ead6]; exact axt_adu (by decide), fun k => by rw [← eN5]; exact nup_le⟩
    refine zz.conseq (fun H hG => mk_Event q8 va3 eV3 eN5 ead6 hG) ?_
    rw [← hq9]
    clear hq9 ead6
    have hax9 := h9.1
    have hax := hax.trans9 hN0 hax9
    try rw [← hax9 4 _ (ex_obj rfl (vp_lt va0)) (by decide)]
    try rw [← hax9 2 _ (ex_obj rfl (vp_lt va3)) (by decide)]
    try rw [← hax9 18 _ (ex_list rfl rfl (vp_lt va0)) (by decide)]
    have hN9 := h9.2
    have hN0 := fun k => Nat.le_trans (hN0 k) (hN9 k)
    have h11 := Nat.lt_of_lt_of_le h11 (hN9 11)
    have va0 := vp_mono va0 (hN9 4)
    have va3 := vp_mono va3 (hN9 2)
    clear hax9 hN9 h9
    obtain ⟨q9, h⟩ := zg h
    obtain ⟨L10, eL10, h⟩ := zb h
    refine z_callVi (As := [.ref (ad6 3 x4.toNatClampNeg)]) (rest := []) (nA := 1) (mc := 1) (ms := 910) (rm := ({ frames := 8, cells := 1, slots := 910, locals := 336 } : Room)) (r0 := 1) (pu := fun (u : Adr) => axt N5 ad6 u ∧ (∀ k, N5 k ≤ N5 k)) (G1 := fun u => cx D dA A V3 L10 N5 u xs) X (cl_add l X.2.2.2.2.2.2.2.2 X.2.2.2.2.2.2.1 (k := 18) (i := a0.toNatClampNeg) (x := x4) rfl rfl (vp_lt va0) p7 q9 (b := 910) (len600 (by assumption) (by assumption) q9) eL10) g_1002 g_107 g_108 g_4 g_109 hd_yJx4a65c_add_9ea2d ⟨rfl, rfl, Nat.le_of_ble_eq_true rfl, Nat.le_of_ble_eq_true rfl⟩ rfl (fun _ hG => cx_recvL X (k := 18) rfl rfl (vp_lt va0) hG) rfl (Nat.le_of_ble_eq_true rfl) dX4_keepEvent_27 ⟨by show _ ≤ 2; omega, by show _ ≤ 913; omega⟩ (fun ad11 h9 => ?_)
    have hax9 := h9.1
    have hax := hax.trans9 hN0 hax9
    try rw [← hax9 4 _ (ex_obj rfl (vp_lt va0)) (by decide)]
    try rw [← hax9 2 _ (ex_obj rfl (vp_lt va3)) (by decide)]
    have hN9 := h9.2
    have hN0 := fun k => Nat.le_trans (hN0 k) (hN9 k)
    have h11 := Nat.lt_of_lt_of_le h11 (hN9 11)
    have va0 := vp_mono va0 (hN9 4)
    have va3 := vp_mono va3 (hN9 2)
    have p7 := vp_mono p7 (hN9 3)
    clear hax9 hN9 h9
    refine z_pop X dX4_keepEvent_30 rfl ?_
    obtain rfl := Option.some.inj h
    refine zz.widen (k := 2) (n := 913) (by omega) (by omega) ?_
    exact z_vret X hr (fun t hG hF _ => ⟨⟨ad11, rfl, ⟨hax, hN0⟩, hG⟩, hF⟩) dX4_keepEvent_31
theorem cc_Leg_keepEvent (l : Launch) {D : va_G} {dA : Nat → ClassId} {A : Nat → Prop} {n : Nat} (hst : l.stackTraces = false) (hA : ∀ q, n ≤ q → A q) {V : Rho} {L : Lst} {N : Cnt} {ad : Adr} {xs : va_W} (h11 : 0 < N 11) {a0 : Int32} {a1 : Int32} {a2 : Int32} {a3 : Int32} (va0 : vp_in a0 (N 4)) (va3 : vp_in a3 (N 2)) {o : CW} (h : fc_Leg_keepEvent V L N a0 a1 a2 a3 = some o) : Met l yX4_keepEvent (.code yX4_keepEvent cX4_keepEvent 4 none :: gT) ({ frames := 9, cells := 2, slots := 913, locals := 378 } : Room) (va_Pc [.ref (ad 4 a0.toNatClampNeg), .int a1, .int a2, .ref (ad 2 a3.toNatClampNeg)] (zB D dA A n (cx D dA A V L N ad xs))) (va_Qv (fun (w9 : Adr) => axt N ad w9 ∧ (∀ k, N k ≤ o.2.2 k)) (fun (w9 : Adr) t => cx D dA A o.1 o.2.1 o.2.2 w9 xs t.heap) A) 2 913 A :=
  z_met (by decide) hA hst (Nat.le_of_ble_eq_true rfl) rfl rfl (fun p e s m below meth c X hml hr _ => bc_Leg_keepEvent X hml hr ⟨by omega, by omega⟩ h11 va0 va3 h)
-- MeshBiller.openLeg(LMeshBiller$Phone;LMeshBiller$Call;Z)LMeshBiller$Leg;
def fc_openLeg_18 (V : Rho) (L : Lst) (N : Cnt) (v1 : Int32) (v2 : Int32) (s0 : Int32) : Option (CW × Int32) := (some (nI (L 14 0).length)).bind fun x2 => if 100000 ≤ (N 4) ∨ ¬ N 8 = (N 4) then none else (some (cs (cs (cs (cs (cs (cs (cs (cs (cs (cs (cs (cs (cs V 160 (N 4) 0) 161 (N 4) 0) 162 (N 4) (-1)) 80 (N 4) x2) 81 (N 4) v1) 82 (N 4) v2) 83 (N 4) s0) 84 (N 4) (V 228 0)) 87 (N 4) 0) 88 (N 4) 0) 89 (N 4) 0) 90 (N 4) 0) 91 (N 4) (V 100 v1.toNatClampNeg).toInt8.toInt32)).bind fun V3 => (some (nup (nup N 8) 4)).bind fun N5 => (some (nI (N 4))).bind fun x4 => (some (lput L 18 (N 4) [])).bind fun L9 => (fc_Leg_keepEvent V3 L9 N5 x4 0 (V3 228 0) (V3 101 v1.toNatClampNeg)).bind fun o11 => (some (cs o11.1 104 v1.toNatClampNeg x4)).bind fun V13 => if 1000 ≤ (o11.2.1 17 v2.toNatClampNeg).length then none else (some (lput o11.2.1 17 v2.toNatClampNeg ((o11.2.1 17 v2.toNatClampNeg) ++ [x4]))).bind fun L15 => if 1000 ≤ (L15 14 0).length then none else (some (lput L15 14 0 ((L15 14 0) ++ [x4]))).bind fun L18 => some ((V13, L18, o11.2.2), x4)
set_option maxRecDepth 100000 in
set_option maxHeartbeats 4000000 in
theorem bc_openLeg_18 {p : Program} {l : Launch} {e : Env} {s : State} {m : MethodId} {args : Array Value} {below : List Frame} {meth : Method} {c : Code} {D : va_G} {dA : Nat → ClassId} {A : Nat → Prop} {xs : va_W} {o : CW × Int32} {N0 : Cnt} {ad0 : Adr} (X : zc p l s m args meth c cX11_openLeg RX11 D dA A) (hml : c.maxLocals = 6) (hr : meth.sig.returnType = (some (.object "MeshBiller$Leg"))) {cells slots : Nat} (hcs : cells + 7 ≤ 7 ∧ slots + 3951 ≤ 3951) {V : Rho} {L : Lst} {N : Cnt} {ad : Adr} (h11 : 0 < N 11) (hax : axt N0 ad0 ad) (hN0 : ∀ k, N0 k ≤ N k) {v1 : Int32} {v2 : Int32} {s0 : Int32} (fv1 : vp_in v1 (N 5)) (fv2 : vp_in v2 (N 1)) (fs0 : vp_in s0 (N 9)) (h : fc_openLeg_18 V L N v1 v2 s0 = some o) : zz p l e ({ frames := 10, cells := 7, slots := 3951, locals := 420 } : Room) s m args below meth c A (cx D dA A V L N ad xs) cells slots (MQ below (va_Qq (fun r (w9 : Adr) => r = some (w9 4 o.2.toNatClampNeg) ∧ axt N0 ad0 w9 ∧ (∀ k, N0 k ≤ o.1.2.2 k) ∧ vp_in o.2 (o.1.2.2 4)) (fun (w9 : Adr) t => cx D dA A o.1.1 o.1.2.1 o.1.2.2 w9 xs t.heap) A) args s 7 3951 A) 18 [(0, .ref (ad 11 0)), (1, .ref (ad 5 v1.toNatClampNeg)), (2, .ref (ad 1 v2.toNatClampNeg))] [] [.ref (ad 9 s0.toNatClampNeg)] := by
  obtain ⟨hcs1, hcs2⟩ := hcs
  unfold fc_openLeg_18 at h
  refine z_astore (lo' := [(4, .ref (ad 9 s0.toNatClampNeg)), (0, .ref (ad 11 0)), (1, .ref (ad 5 v1.toNatClampNeg)), (2, .ref (ad 1 v2.toNatClampNeg))]) X dX11_openLeg_18 (by rw [hml]; decide) rfl rfl ?_
  refine c_new X 7 (fs := [.int 0, .null, .null, .null, .int 0, .null, .null, .int 0, .int 0, .int 0, .int 0, .int 0]) tyX4 rx4_ws rfl tyX4_ok g_897 g_898 g_33 (fun j hj => by rcases (show j = 0 ∨ j = 1 ∨ j = 2 ∨ j = 3 ∨ j = 4 ∨ j = 5 ∨ j = 6 ∨ j = 7 ∨ j = 8 ∨ j = 9 ∨ j = 10 ∨ j = 11 by omega) with rfl | rfl | rfl | rfl | rfl | rfl | rfl | rfl | rfl | rfl | rfl | rfl <;> rfl) ⟨by show _ ≤ 7; omega, by show _ ≤ 3951; omega⟩ dX11_openLeg_20 (fun q1 => ?_)
  refine z_dup X dX11_openLeg_23 rfl ?_
  refine z_aload_n X dX11_openLeg_24 rfl rfl ?_
  refine c_get X 11 6 (v := .ref (ad 14 0)) rx11_ws rfl rfl rfl h11 g_278 rfl dX11_openLeg_25 ?_
  obtain ⟨x2, ex2, h⟩ := zb h
  refine z_callVi (As := []) (rest := [.ref q1, .ref q1]) (nA := 0) (mc := 0) (ms := 0) (rm := ({ frames := 8, cells := 0, slots := 0, locals := 336 } : Room)) (r0 := (nI (L 14 0).length)) (pu := fun (_ : Unit) => True) (G1 := fun _ => cx D dA A V L N ad (xs ++ [(q1, .inr (7, [.int 0, .null, .null, .null, .int 0, .null, .null, .int 0, .int 0, .int 0, .int 0, .int 0]))])) X (cl_size l X.2.2.2.2.2.2.2.2 X.2.2.2.2.2.2.1 (k := 14) (i := 0) rfl rfl h11) g_308 g_309 g_310 g_4 g_311 hd_yJx4a65c_size_8abf5 ⟨rfl, rfl, Nat.le_of_ble_eq_true rfl, Nat.le_of_ble_eq_true rfl⟩ rfl (fun _ hG => cx_recvL X (k := 14) rfl rfl h11 hG) rfl (Nat.le_of_ble_eq_true rfl) dX11_openLeg_28 ⟨by show _ ≤ 7; omega, by show _ ≤ 3951; omega⟩ (fun _ _ => ?_)
  rw [ex2]
  refine z_aload_n X dX11_openLeg_31 rfl rfl ?_
  refine z_aload_n X dX11_openLeg_32 rfl rfl ?_
  refine z_aload X dX11_openLeg_33 rfl ?_
  refine z_aload_n X dX11_openLeg_35 rfl rfl ?_
  refine c_get X 11 8 (v := .int (V 228 0)) rx11_ws rfl rfl rfl h11 g_280 rfl dX11_openLeg_36 ?_
  refine z_callI (As := [.int x2, .ref (ad 5 v1.toNatClampNeg), .ref (ad 1 v2.toNatClampNeg), .ref (ad 9 s0.toNatClampNeg), .int (V 228 0)]) (rest := [.ref q1]) (nA := 5) (mc := 2) (ms := 6) (rm := ({ frames := 4, cells := 2, slots := 6, locals := 168 } : Room)) (pu := fun (u : Nat × Nat) => True) (G1 := fun u => cx D dA A V L N ad (xs ++ [(q1, .inr (7, [.int x2, .ref (ad 5 v1.toNatClampNeg), .ref (ad 1 v2.toNatClampNeg), .ref (ad 9 s0.toNatClampNeg), .int (V 228 0), .ref u.1, .ref u.2, .int 0, .int 0, .int 0, .int 0, .int (V 100 v1.toNatClampNeg).toInt8.toInt32]))] ++ [(u.1, .inr (11, [.int 0, .int 0, .null]))] ++ [(u.2, .inr (2, [.int 0, .ref (dA 99), .int 0]))])) X (ck_Leg l X.2.2.2.2.2.2.2.2 X.2.2.2.2.2.2.1 fv1 fv2 fs0) g_899 g_900 g_33 g_901 hd_yX4_init ⟨rfl, rfl, Nat.le_of_ble_eq_true rfl, Nat.le_of_ble_eq_true rfl⟩ rfl rfl (Nat.le_of_ble_eq_true rfl) dX11_openLeg_39 ⟨by show _ ≤ 7; omega, by show _ ≤ 3951; omega⟩ (fun u _ => ?_)
  obtain ⟨q8, h⟩ := zg h
  obtain ⟨V3, eV3, h⟩ := zb h
  obtain ⟨N5, eN5, h⟩ := zb h
  obtain ⟨x4, ex4, h⟩ := zb h
  obtain ⟨L9, eL9, h⟩ := zb h
  obtain ⟨ad6, ead6⟩ : ∃ z, z = adu (adu (adu ad 8 (N 4) u.1) 4 (N 4) q1) 18 (N 4) u.2 := ⟨_, rfl⟩
  have p7 : vp_in x4 (N5 4) := by rw [← ex4, ← eN5]; exact vp_new4 (fun z => q8 (Or.inl z))
  have hq9 : ad6 4 x4.toNatClampNeg = q1 := by rw [← ex4, nI_clamp (by omega), ead6, adu_ne (fun z => by omega), adu_self]
  have h9 : axt N ad ad6 ∧ ∀ k, N k ≤ N5 k := ⟨by rw [ead6]; exact axt_leg q8, fun k => by rw [← eN5]; exact Nat.le_trans nup_le nup_le⟩
  refine zz.conseq (fun H hG => mk_Leg q8 fv1 fv2 fs0 eV3 eL9 eN5 ead6 hG) ?_
  rw [← hq9]
  clear hq9 ead6
  have hax9 := h9.1
  have hax := hax.trans9 hN0 hax9
  try rw [← hax9 9 _ (ex_obj rfl (vp_lt fs0)) (by decide)]
  try rw [← hax9 11 0 (ex_obj rfl h11) (by decide)]
  try rw [← hax9 5 _ (ex_obj rfl (vp_lt fv1)) (by decide)]
  try rw [← hax9 1 _ (ex_obj rfl (vp_lt fv2)) (by decide)]
  have hN9 := h9.2
  have hN0 := fun k => Nat.le_trans (hN0 k) (hN9 k)
  have h11 := Nat.lt_of_lt_of_le h11 (hN9 11)
  have fv1 := vp_mono fv1 (hN9 5)
  have fv2 := vp_mono fv2 (hN9 1)
  have fs0 := vp_mono fs0 (hN9 9)
  clear hax9 hN9 h9
  refine z_astore (lo' := [(5, .ref (ad6 4 x4.toNatClampNeg)), (4, .ref (ad6 9 s0.toNatClampNeg)), (0, .ref (ad6 11 0)), (1, .ref (ad6 5 v1.toNatClampNeg)), (2, .ref (ad6 1 v2.toNatClampNeg))]) X dX11_openLeg_42 (by rw [hml]; decide) rfl rfl ?_
  refine z_aload X dX11_openLeg_44 rfl ?_
  refine z_iconst (v := 0) X dX11_openLeg_46 (by decide) ?_
  refine z_aload_n X dX11_openLeg_47 rfl rfl ?_
  refine c_get X 11 8 (v := .int (V3 228 0)) rx11_ws rfl rfl rfl h11 g_280 rfl dX11_openLeg_48 ?_
  refine z_aload_n X dX11_openLeg_51 rfl rfl ?_
  refine c_get X 5 1 (v := .ref (ad6 2 (V3 101 v1.toNatClampNeg).toNatClampNeg)) rx5_ws rfl rfl rfl (vp_lt fv1) g_248 rfl dX11_openLeg_52 ?_
  refine zz.pre (fun H hG => cx_fact (k := 5) (i := v1.toNatClampNeg) (f := 1) rfl (vp_lt fv1) rfl hG) (fun (p10 : vp_in (V3 101 v1.toNatClampNeg) (N5 2)) => ?_)
  obtain ⟨o11, co11, h⟩ := zb2 h
  refine z_callVv (As := [.int 0, .int (V3 228 0), .ref (ad6 2 (V3 101 v1.toNatClampNeg).toNatClampNeg)]) (rest := []) (nA := 3) (mc := 2) (ms := 913) (rm := ({ frames := 9, cells := 2, slots := 913, locals := 378 } : Room)) (pu := fun (u : Adr) => axt N5 ad6 u ∧ (∀ k, N5 k ≤ o11.2.2 k)) (G1 := fun u => cx D dA A o11.1 o11.2.1 o11.2.2 u xs) X (cc_Leg_keepEvent l X.2.2.2.2.2.2.2.2 X.2.2.2.2.2.2.1 h11 p7 p10 co11) g_975 g_976 g_977 g_33 g_978 hd_yX4_keepEvent ⟨rfl, rfl, Nat.le_of_ble_eq_true rfl, Nat.le_of_ble_eq_true rfl⟩ rfl (fun _ hG => cx_recv X (k := 4) (n := 12) rfl rfl (vp_lt p7) hG) rfl (Nat.le_of_ble_eq_true rfl) dX11_openLeg_55 ⟨by show _ ≤ 7; omega, by show _ ≤ 3951; omega⟩ (fun ad12 h9 => ?_)
  have hax9 := h9.1
  have hax := hax.trans9 hN0 hax9
  try rw [← hax9 4 _ (ex_obj rfl (vp_lt p7)) (by decide)]
  try rw [← hax9 9 _ (ex_obj rfl (vp_lt fs0)) (by decide)]
  try rw [← hax9 11 0 (ex_obj rfl h11) (by decide)]
  try rw [← hax9 5 _ (ex_obj rfl (vp_lt fv1)) (by decide)]
  try rw [← hax9 1 _ (ex_obj rfl (vp_lt fv2)) (by decide)]
  have hN9 := h9.2
  have hN0 := fun k => Nat.le_trans (hN0 k) (hN9 k)
  have h11 := Nat.lt_of_lt_of_le h11 (hN9 11)
  have fv1 := vp_mono fv1 (hN9 5)
  have fv2 := vp_mono fv2 (hN9 1)
  have fs0 := vp_mono fs0 (hN9 9)
  have p7 := vp_mono p7 (hN9 4)
  have p10 := vp_mono p10 (hN9 2)
  clear hax9 hN9 h9
  refine z_aload_n X dX11_openLeg_58 rfl rfl ?_
  refine z_aload X dX11_openLeg_59 rfl ?_
  obtain ⟨V13, eV13, h⟩ := zb h
  refine c_put X 5 4 (x := x4) (v := .ref (ad12 4 x4.toNatClampNeg)) (ty := (.object "MeshBiller$Leg")) rx5_ws rfl tyX5_ok nmX5 rfl rfl (vp_lt fv1) rfl g_254 (qn_ref (vp_ne p7)) (Or.inr p7) rfl rfl rfl eV13 dX11_openLeg_61 ?_
  refine z_aload_n X dX11_openLeg_64 rfl rfl ?_
  refine c_get X 1 2 (v := .ref (ad12 17 v2.toNatClampNeg)) rx1_ws rfl rfl rfl (vp_lt fv2) g_885 rfl dX11_openLeg_65 ?_
  refine z_aload X dX11_openLeg_68 rfl ?_
  obtain ⟨q14, h⟩ := zg h
  obtain ⟨L15, eL15, h⟩ := zb h
  refine z_callVi (As := [.ref (ad12 4 x4.toNatClampNeg)]) (rest := []) (nA := 1) (mc := 1) (ms := 1510) (rm := ({ frames := 8, cells := 1, slots := 1510, locals := 336 } : Room)) (r0 := 1) (pu := fun (u : Adr) => axt o11.2.2 ad12 u ∧ (∀ k, o11.2.2 k ≤ o11.2.2 k)) (G1 := fun u => cx D dA A V13 L15 o11.2.2 u xs) X (cl_add l X.2.2.2.2.2.2.2.2 X.2.2.2.2.2.2.1 (k := 17) (i := v2.toNatClampNeg) (x := x4) rfl rfl (vp_lt fv2) p7 q14 (b := 1510) (by omega) eL15) g_818 g_107 g_108 g_4 g_109 hd_yJx4a65c_add_9ea2d ⟨rfl, rfl, Nat.le_of_ble_eq_true rfl, Nat.le_of_ble_eq_true rfl⟩ rfl (fun _ hG => cx_recvL X (k := 17) rfl rfl (vp_lt fv2) hG) rfl (Nat.le_of_ble_eq_true rfl) dX11_openLeg_70 ⟨by show _ ≤ 7; omega, by show _ ≤ 3951; omega⟩ (fun ad16 h9 => ?_)
  have hax9 := h9.1
  have hax := hax.trans9 hN0 hax9
  try rw [← hax9 4 _ (ex_obj rfl (vp_lt p7)) (by decide)]
  try rw [← hax9 9 _ (ex_obj rfl (vp_lt fs0)) (by decide)]
  try rw [← hax9 11 0 (ex_obj rfl h11) (by decide)]
  try rw [← hax9 5 _ (ex_obj rfl (vp_lt fv1)) (by decide)]
  try rw [← hax9 1 _ (ex_obj rfl (vp_lt fv2)) (by decide)]
  have hN9 := h9.2
  have hN0 := fun k => Nat.le_trans (hN0 k) (hN9 k)
  have h11 := Nat.lt_of_lt_of_le h11 (hN9 11)
  have fv1 := vp_mono fv1 (hN9 5)
  have fv2 := vp_mono fv2 (hN9 1)
  have fs0 := vp_mono fs0 (hN9 9)
  have p7 := vp_mono p7 (hN9 4)
  have p10 := vp_mono p10 (hN9 2)
  clear hax9 hN9 h9
  refine z_pop X dX11_openLeg_73 rfl ?_
  refine z_aload_n X dX11_openLeg_74 rfl rfl ?_
  refine c_get X 11 6 (v := .ref (ad16 14 0)) rx11_ws rfl rfl rfl h11 g_278 rfl dX11_openLeg_75 ?_
  refine z_aload X dX11_openLeg_78 rfl ?_
  obtain ⟨q17, h⟩ := zg h
  obtain ⟨L18, eL18, h⟩ := zb h
  refine z_callVi (As := [.ref (ad16 4 x4.toNatClampNeg)]) (rest := []) (nA := 1) (mc := 1) (ms := 1510) (rm := ({ frames := 8, cells := 1, slots := 1510, locals := 336 } : Room)) (r0 := 1) (pu := fun (u : Adr) => axt o11.2.2 ad16 u ∧ (∀ k, o11.2.2 k ≤ o11.2.2 k)) (G1 := fun u => cx D dA A V13 L18 o11.2.2 u xs) X (cl_add l X.2.2.2.2.2.2.2.2 X.2.2.2.2.2.2.1 (k := 14) (i := 0) (x := x4) rfl rfl h11 p7 q17 (b := 1510) (by omega) eL18) g_818 g_107 g_108 g_4 g_109 hd_yJx4a65c_add_9ea2d ⟨rfl, rfl, Nat.le_of_ble_eq_true rfl, Nat.le_of_ble_eq_true rfl⟩ rfl (fun _ hG => cx_recvL X (k := 14) rfl rfl h11 hG) rfl (Nat.le_of_ble_eq_true rfl) dX11_openLeg_80 ⟨by show _ ≤ 7; omega, by show _ ≤ 3951; omega⟩ (fun ad19 h9 => ?_)
  have hax9 := h9.1
  have hax := hax.trans9 hN0 hax9
  try rw [← hax9 4 _ (ex_obj rfl (vp_lt p7)) (by decide)]
  try rw [← hax9 9 _ (ex_obj rfl (vp_lt fs0)) (by decide)]
  try rw [← hax9 11 0 (ex_obj rfl h11) (by decide)]
  try rw [← hax9 5 _ (ex_obj rfl (vp_lt fv1)) (by decide)]
  try rw [← hax9 1 _ (ex_obj rfl (vp_lt fv2)) (by decide)]
  have hN9 := h9.2
  have hN0 := fun k => Nat.le_trans (hN0 k) (hN9 k)
  have h11 := Nat.lt_of_lt_of_le h11 (hN9 11)
  have fv1 := vp_mono fv1 (hN9 5)
  have fv2 := vp_mono fv2 (hN9 1)
  have fs0 := vp_mono fs0 (hN9 9)
  have p7 := vp_mono p7 (hN9 4)
  have p10 := vp_mono p10 (hN9 2)
  clear hax9 hN9 h9
  refine z_pop X dX11_openLeg_83 rfl ?_
  refine z_aload X dX11_openLeg_84 rfl ?_
  obtain rfl := Option.some.inj h
  refine zz.widen (k := 7) (n := 3951) (by omega) (by omega) ?_
  exact z_aret (o := some (ad19 4 x4.toNatClampNeg)) X hr (Or.inl ⟨_, rfl⟩) (fun t hG hF _ => ⟨⟨_, ad19, rfl, ⟨rfl, ⟨hax, hN0, p7⟩⟩, hG⟩, hF⟩) dX11_openLeg_86
def fc_openLeg (V : Rho) (L : Lst) (N : Cnt) (a1 : Int32) (a2 : Int32) (a3 : Int32) : Option (CW × Int32) := (if a3 = 0 then fc_openLeg_18 V L N a1 a2 (V 102 a1.toNatClampNeg)
  else fc_openLeg_18 V L N a1 a2 (V 102 (V 21 a2.toNatClampNeg).toNatClampNeg))
set_option maxRecDepth 100000 in
set_option maxHeartbeats 4000000 in
theorem bc_openLeg {p : Program} {l : Launch} {e : Env} {s : State} {m : MethodId} {args : Array Value} {below : List Frame} {meth : Method} {c : Code} {D : va_G} {dA : Nat → ClassId} {A : Nat → Prop} {xs : va_W} {o : CW × Int32} (X : zc p l s m args meth c cX11_openLeg RX11 D dA A) (hml : c.maxLocals = 6) (hr : meth.sig.returnType = (some (.object "MeshBiller$Leg"))) {cells slots : Nat} (hcs : cells + 7 ≤ 7 ∧ slots + 3951 ≤ 3951) {V : Rho} {L : Lst} {N : Cnt} {ad : Adr} (h11 : 0 < N 11) {a1 : Int32} {a2 : Int32} {a3 : Int32} (va1 : vp_in a1 (N 5)) (va2 : vp_in a2 (N 1)) (h : fc_openLeg V L N a1 a2 a3 = some o) : zz p l e ({ frames := 10, cells := 7, slots := 3951, locals := 420 } : Room) s m args below meth c A (cx D dA A V L N ad xs) cells slots (MQ below (va_Qq (fun r (w9 : Adr) => r = some (w9 4 o.2.toNatClampNeg) ∧ axt N ad w9 ∧ (∀ k, N k ≤ o.1.2.2 k) ∧ vp_in o.2 (o.1.2.2 4)) (fun (w9 : Adr) t => cx D dA A o.1.1 o.1.2.1 o.1.2.2 w9 xs t.heap) A) args s 7 3951 A) 0 [(0, .ref (ad 11 0)), (1, .ref (ad 5 a1.toNatClampNeg)), (2, .ref (ad 1 a2.toNatClampNeg)), (3, .int a3)] [] [] := by
  obtain ⟨hcs1, hcs2⟩ := hcs
  have hax := axt.rf N ad
  have hN0 := fun k => Nat.le_refl (N k)
  unfold fc_openLeg at h
  refine z_iload_n X dX11_openLeg_0 rfl rfl ?_
  refine z_if_eq (tgt := 14) X dX11_openLeg_1 (by decide) (fun q => ?_) (fun q => ?_)
  · have h := zp q h
    refine z_aload_n X dX11_openLeg_14 rfl rfl ?_
    refine c_get X 5 2 (v := .ref (ad 9 (V 102 a1.toNatClampNeg).toNatClampNeg)) rx5_ws rfl rfl rfl (vp_lt va1) g_250 rfl dX11_openLeg_15 ?_
    refine zz.pre (fun H hG => cx_fact (k := 5) (i := a1.toNatClampNeg) (f := 2) rfl (vp_lt va1) rfl hG) (fun (p1 : vp_in (V 102 a1.toNatClampNeg) (N 9)) => ?_)
    refine zz.pick (lo' := [(0, .ref (ad 11 0)), (1, .ref (ad 5 a1.toNatClampNeg)), (2, .ref (ad 1 a2.toNatClampNeg))]) [0, 1, 2] rfl ?_
    exact bc_openLeg_18 X hml hr ⟨by omega, by omega⟩ h11 hax hN0 va1 va2 p1 h
  · have h := zn q h
    refine z_aload_n X dX11_openLeg_4 rfl rfl ?_
    refine c_get X 1 1 (v := .ref (ad 5 (V 21 a2.toNatClampNeg).toNatClampNeg)) rx1_ws rfl rfl rfl (vp_lt va2) g_883 rfl dX11_openLeg_5 ?_
    refine zz.pre (fun H hG => cx_fact (k := 1) (i := a2.toNatClampNeg) (f := 1) rfl (vp_lt va2) rfl hG) (fun (p2 : vp_in (V 21 a2.toNatClampNeg) (N 5)) => ?_)
    refine c_get X 5 2 (v := .ref (ad 9 (V 102 (V 21 a2.toNatClampNeg).toNatClampNeg).toNatClampNeg)) rx5_ws rfl rfl rfl (vp_lt p2) g_250 rfl dX11_openLeg_8 ?_
    refine zz.pre (fun H hG => cx_fact (k := 5) (i := (V 21 a2.toNatClampNeg).toNatClampNeg) (f := 2) rfl (vp_lt p2) rfl hG) (fun (p3 : vp_in (V 102 (V 21 a2.toNatClampNeg).toNatClampNeg) (N 9)) => ?_)
    refine z_goto (tgt := 18) X dX11_openLeg_11 (by decide) ?_
    refine zz.pick (lo' := [(0, .ref (ad 11 0)), (1, .ref (ad 5 a1.toNatClampNeg)), (2, .ref (ad 1 a2.toNatClampNeg))]) [0, 1, 2] rfl ?_
    exact bc_openLeg_18 X hml hr ⟨by omega, by omega⟩ h11 hax hN0 va1 va2 p3 h
theorem cc_openLeg (l : Launch) {D : va_G} {dA : Nat → ClassId} {A : Nat → Prop} {n : Nat} (hst : l.stackTraces = false) (hA : ∀ q, n ≤ q → A q) {V : Rho} {L : Lst} {N : Cnt} {ad : Adr} {xs : va_W} (h11 : 0 < N 11) {a1 : Int32} {a2 : Int32} {a3 : Int32} (va1 : vp_in a1 (N 5)) (va2 : vp_in a2 (N 1)) {o : CW × Int32} (h : fc_openLeg V L N a1 a2 a3 = some o) : Met l yX11_openLeg (.code yX11_openLeg cX11_openLeg 6 (some (.object "MeshBiller$Leg")) :: gT) ({ frames := 10, cells := 7, slots := 3951, locals := 420 } : Room) (va_Pc [.ref (ad 11 0), .ref (ad 5 a1.toNatClampNeg), .ref (ad 1 a2.toNatClampNeg), .int a3] (zB D dA A n (cx D dA A V L N ad xs))) (va_Qq (fun r (w9 : Adr) => r = some (w9 4 o.2.toNatClampNeg) ∧ axt N ad w9 ∧ (∀ k, N k ≤ o.1.2.2 k) ∧ vp_in o.2 (o.1.2.2 4)) (fun (w9 : Adr) t => cx D dA A o.1.1 o.1.2.1 o.1.2.2 w9 xs t.heap) A) 7 3951 A :=
  z_met (by decide) hA hst (Nat.le_of_ble_eq_true rfl) rfl rfl (fun p e s m below meth c X hml hr _ => bc_openLeg X hml hr ⟨by omega, by omega⟩ h11 va1 va2 h)
-- MeshBiller.finishLeg(LMeshBiller$Leg;I)V
def fc_finishLeg (V : Rho) (L : Lst) (N : Cnt) (a1 : Int32) (a2 : Int32) : Option (CW) := (fc_giveBack V L N a1).bind fun o1 => (fc_Leg_firstUnratedSecond o1 L N a1).bind fun o2 => (fc_Leg_keepEvent o1 L N a1 2 o2 (o1 101 (o1 81 a1.toNatClampNeg).toNatClampNeg)).bind fun o5 => (some (cs o5.1 87 a1.toNatClampNeg a2)).bind fun V7 => (some (cs V7 104 (V7 81 a1.toNatClampNeg).toNatClampNeg (-1))).bind fun V9 => some (V9, o5.2.1, o5.2.2)
set_option maxRecDepth 100000 in
set_option maxHeartbeats 4000000 in
theorem bc_finishLeg {p : Program} {l : Launch} {e : Env} {s : State} {m : MethodId} {args : Array Value} {below : List Frame} {meth : Method} {c : Code} {D : va_G} {dA : Nat → ClassId} {A : Nat → Prop} {xs : va_W} {o : CW} (X : zc p l s m args meth c cX11_finishLeg RX11 D dA A) (hml : c.maxLocals = 3) (hr : meth.sig.returnType = none) {cells slots : Nat} (hcs : cells + 2 ≤ 2 ∧ slots + 913 ≤ 913) {V : Rho} {L : Lst} {N : Cnt} {ad : Adr} (h11 : 0 < N 11) {a1 : Int32} {a2 : Int32} (va1 : vp_in a1 (N 4)) (h : fc_finishLeg V L N a1 a2 = some o) : zz p l e ({ frames := 10, cells := 2, slots := 913, locals := 420 } : Room) s m args below meth c A (cx D dA A V L N ad xs) cells slots (MQ below (va_Qv (fun (w9 : Adr) => axt N ad w9 ∧ (∀ k, N k ≤ o.2.2 k)) (fun (w9 : Adr) t => cx D dA A o.1 o.2.1 o.2.2 w9 xs t.heap) A) args s 2 913 A) 0 [(0, .ref (ad 11 0)), (1, .ref (ad 4 a1.toNatClampNeg)), (2, .int a2)] [] [] := by
  obtain ⟨hcs1, hcs2⟩ := hcs
  have hax := axt.rf N ad
  have hN0 := fun k => Nat.le_refl (N k)
  unfold fc_finishLeg at h
  refine z_aload_n X dX11_finishLeg_0 rfl rfl ?_
  refine z_aload_n X dX11_finishLeg_1 rfl rfl ?_
  obtain ⟨o1, co1, h⟩ := zb2 h
  refine z_callVv (As := [.ref (ad 4 a1.toNatClampNeg)]) (rest := []) (nA := 1) (mc := 0) (ms := 0) (rm := ({ frames := 2, cells := 0, slots := 0, locals := 84 } : Room)) (pu := fun (_ : Unit) => True) (G1 := fun _ => cx D dA A o1 L N ad xs) X (cc_giveBack l X.2.2.2.2.2.2.2.2 X.2.2.2.2.2.2.1 h11 va1 co1) g_1057 g_1059 gs_19 g_1 g_1060 hd_yX11_giveBack ⟨rfl, rfl, Nat.le_of_ble_eq_true rfl, Nat.le_of_ble_eq_true rfl⟩ rfl (fun _ hG => cx_recv X (k := 11) (n := 9) rfl rfl h11 hG) rfl (Nat.le_of_ble_eq_true rfl) dX11_finishLeg_2 ⟨by show _ ≤ 2; omega, by show _ ≤ 913; omega⟩ (fun _ _ => ?_)
  refine z_aload_n X dX11_finishLeg_5 rfl rfl ?_
  refine z_iconst (v := 2) X dX11_finishLeg_6 (by decide) ?_
  refine z_aload_n X dX11_finishLeg_7 rfl rfl ?_
  obtain ⟨o2, co2, h⟩ := zb2 h
  refine z_callVi (As := []) (rest := [.int 2, .ref (ad 4 a1.toNatClampNeg)]) (nA := 0) (mc := 0) (ms := 0) (rm := ({ frames := 1, cells := 0, slots := 0, locals := 42 } : Room)) (r0 := o2) (pu := fun (_ : Unit) => True) (G1 := fun _ => cx D dA A o1 L N ad xs) X (cc_Leg_firstUnratedSecond l X.2.2.2.2.2.2.2.2 X.2.2.2.2.2.2.1 h11 va1 co2) g_1061 g_1062 g_1063 g_33 g_1064 hd_yX4_firstUnratedSecond ⟨rfl, rfl, Nat.le_of_ble_eq_true rfl, Nat.le_of_ble_eq_true rfl⟩ rfl (fun _ hG => cx_recv X (k := 4) (n := 12) rfl rfl (vp_lt va1) hG) rfl (Nat.le_of_ble_eq_true rfl) dX11_finishLeg_8 ⟨by show _ ≤ 2; omega, by show _ ≤ 913; omega⟩ (fun _ _ => ?_)
  refine z_aload_n X dX11_finishLeg_11 rfl rfl ?_
  refine c_get X 4 1 (v := .ref (ad 5 (o1 81 a1.toNatClampNeg).toNatClampNeg)) rx4_ws rfl rfl rfl (vp_lt va1) g_929 rfl dX11_finishLeg_12 ?_
  refine zz.pre (fun H hG => cx_fact (k := 4) (i := a1.toNatClampNeg) (f := 1) rfl (vp_lt va1) rfl hG) (fun (p3 : vp_in (o1 81 a1.toNatClampNeg) (N 5)) => ?_)
  refine c_get X 5 1 (v := .ref (ad 2 (o1 101 (o1 81 a1.toNatClampNeg).toNatClampNeg).toNatClampNeg)) rx5_ws rfl rfl rfl (vp_lt p3) g_248 rfl dX11_finishLeg_15 ?_
  refine zz.pre (fun H hG => cx_fact (k := 5) (i := (o1 81 a1.toNatClampNeg).toNatClampNeg) (f := 1) rfl (vp_lt p3) rfl hG) (fun (p4 : vp_in (o1 101 (o1 81 a1.toNatClampNeg).toNatClampNeg) (N 2)) => ?_)
  obtain ⟨o5, co5, h⟩ := zb2 h
  refine z_callVv (As := [.int 2, .int o2, .ref (ad 2 (o1 101 (o1 81 a1.toNatClampNeg).toNatClampNeg).toNatClampNeg)]) (rest := []) (nA := 3) (mc := 2) (ms := 913) (rm := ({ frames := 9, cells := 2, slots := 913, locals := 378 } : Room)) (pu := fun (u : Adr) => axt N ad u ∧ (∀ k, N k ≤ o5.2.2 k)) (G1 := fun u => cx D dA A o5.1 o5.2.1 o5.2.2 u xs) X (cc_Leg_keepEvent l X.2.2.2.2.2.2.2.2 X.2.2.2.2.2.2.1 h11 va1 p4 co5) g_975 g_976 g_977 g_33 g_978 hd_yX4_keepEvent ⟨rfl, rfl, Nat.le_of_ble_eq_true rfl, Nat.le_of_ble_eq_true rfl⟩ rfl (fun _ hG => cx_recv X (k := 4) (n := 12) rfl rfl (vp_lt va1) hG) rfl (Nat.le_of_ble_eq_true rfl) dX11_finishLeg_18 ⟨by show _ ≤ 2; omega, by show _ ≤ 913; omega⟩ (fun ad6 h9 => ?_)
  have hax9 := h9.1
  have hax := hax.trans9 hN0 hax9
  try rw [← hax9 11 0 (ex_obj rfl h11) (by decide)]
  try rw [← hax9 4 _ (ex_obj rfl (vp_lt va1)) (by decide)]
  have hN9 := h9.2
  have hN0 := fun k => Nat.le_trans (hN0 k) (hN9 k)
  have h11 := Nat.lt_of_lt_of_le h11 (hN9 11)
  have va1 := vp_mono va1 (hN9 4)
  have p3 := vp_mono p3 (hN9 5)
  have p4 := vp_mono p4 (hN9 2)
  clear hax9 hN9 h9
  refine z_aload_n X dX11_finishLeg_21 rfl rfl ?_
  refine z_iload_n X dX11_finishLeg_22 rfl rfl ?_
  obtain ⟨V7, eV7, h⟩ := zb h
  refine c_put X 4 7 (x := a2) (v := .int a2) (ty := .int) rx4_ws rfl tyX4_ok nmX4 rfl rfl (vp_lt va1) rfl g_941 rfl trivial rfl rfl rfl eV7 dX11_finishLeg_23 ?_
  refine z_aload_n X dX11_finishLeg_26 rfl rfl ?_
  refine c_get X 4 1 (v := .ref (ad6 5 (V7 81 a1.toNatClampNeg).toNatClampNeg)) rx4_ws rfl rfl rfl (vp_lt va1) g_929 rfl dX11_finishLeg_27 ?_
  refine zz.pre (fun H hG => cx_fact (k := 4) (i := a1.toNatClampNeg) (f := 1) rfl (vp_lt va1) rfl hG) (fun (p8 : vp_in (V7 81 a1.toNatClampNeg) (o5.2.2 5)) => ?_)
  refine z_null X dX11_finishLeg_30 ?_
  obtain ⟨V9, eV9, h⟩ := zb h
  refine c_put X 5 4 (x := (-1)) (v := .null) (ty := (.object "MeshBiller$Leg")) rx5_ws rfl tyX5_ok nmX5 rfl rfl (vp_lt p8) rfl g_254 (qn_nullv (ad6 4)) (Or.inl rfl) rfl rfl rfl eV9 dX11_finishLeg_31 ?_
  obtain rfl := Option.some.inj h
  refine zz.widen (k := 2) (n := 913) (by omega) (by omega) ?_
  exact z_vret X hr (fun t hG hF _ => ⟨⟨ad6, rfl, ⟨hax, hN0⟩, hG⟩, hF⟩) dX11_finishLeg_34
theorem cc_finishLeg (l : Launch) {D : va_G} {dA : Nat → ClassId} {A : Nat → Prop} {n : Nat} (hst : l.stackTraces = false) (hA : ∀ q, n ≤ q → A q) {V : Rho} {L : Lst} {N : Cnt} {ad : Adr} {xs : va_W} (h11 : 0 < N 11) {a1 : Int32} {a2 : Int32} (va1 : vp_in a1 (N 4)) {o : CW} (h : fc_finishLeg V L N a1 a2 = some o) : Met l yX11_finishLeg (.code yX11_finishLeg cX11_finishLeg 3 none :: gT) ({ frames := 10, cells := 2, slots := 913, locals := 420 } : Room) (va_Pc [.ref (ad 11 0), .ref (ad 4 a1.toNatClampNeg), .int a2] (zB D dA A n (cx D dA A V L N ad xs))) (va_Qv (fun (w9 : Adr) => axt N ad w9 ∧ (∀ k, N k ≤ o.2.2 k)) (fun (w9 : Adr) t => cx D dA A o.1 o.2.1 o.2.2 w9 xs t.heap) A) 2 913 A :=
  z_met (by decide) hA hst (Nat.le_of_ble_eq_true rfl) rfl rfl (fun p e s m below meth c X hml hr _ => bc_finishLeg X hml hr ⟨by omega, by omega⟩ h11 va1 h)
-- MeshBiller.closeLeg(LMeshBiller$Leg;I)V
def fc_closeLeg (V : Rho) (L : Lst) (N : Cnt) (a1 : Int32) (a2 : Int32) : Option (CW) := (fc_finishLeg V L N a1 a2).bind fun o1 => (fc_Call_findOnlyParty o1.1 o1.2.1 o1.2.2 (o1.1 82 a1.toNatClampNeg)).bind fun o4 => (if o4 = -1 then some (o1.1, o1.2.1, o1.2.2)
  else (fc_finishLeg o1.1 o1.2.1 o1.2.2 o4 1).bind fun o7 => some (o7.1, o7.2.1, o7.2.2))
set_option maxRecDepth 100000 in
set_option maxHeartbeats 4000000 in
theorem bc_closeLeg {p : Program} {l : Launch} {e : Env} {s : State} {m : MethodId} {args : Array Value} {below : List Frame} {meth : Method} {c : Code} {D : va_G} {dA : Nat → ClassId} {A : Nat → Prop} {xs : va_W} {o : CW} (X : zc p l s m args meth c cX11_closeLeg RX11 D dA A) (hml : c.maxLocals = 4) (hr : meth.sig.returnType = none) {cells slots : Nat} (hcs : cells + 4 ≤ 4 ∧ slots + 1826 ≤ 1826) {V : Rho} {L : Lst} {N : Cnt} {ad : Adr} (h11 : 0 < N 11) {a1 : Int32} {a2 : Int32} (va1 : vp_in a1 (N 4)) (h : fc_closeLeg V L N a1 a2 = some o) : zz p l e ({ frames := 11, cells := 4, slots := 1826, locals := 462 } : Room) s m args below meth c A (cx D dA A V L N ad xs) cells slots (MQ below (va_Qv (fun (w9 : Adr) => axt N ad w9 ∧ (∀ k, N k ≤ o.2.2 k)) (fun (w9 : Adr) t => cx D dA A o.1 o.2.1 o.2.2 w9 xs t.heap) A) args s 4 1826 A) 0 [(0, .ref (ad 11 0)), (1, .ref (ad 4 a1.toNatClampNeg)), (2, .int a2)] [] [] := by
  obtain ⟨hcs1, hcs2⟩ := hcs
  have hax := axt.rf N ad
  have hN0 := fun k => Nat.le_refl (N k)
  unfold fc_closeLeg at h
  refine z_aload_n X dX11_closeLeg_0 rfl rfl ?_
  refine z_aload_n X dX11_closeLeg_1 rfl rfl ?_
  refine z_iload_n X dX11_closeLeg_2 rfl rfl ?_
  obtain ⟨o1, co1, h⟩ := zb2 h
  refine z_callVv (As := [.ref (ad 4 a1.toNatClampNeg), .int a2]) (rest := []) (nA := 2) (mc := 2) (ms := 913) (rm := ({ frames := 10, cells := 2, slots := 913, locals := 420 } : Room)) (pu := fun (u : Adr) => axt N ad u ∧ (∀ k, N k ≤ o1.2.2 k)) (G1 := fun u => cx D dA A o1.1 o1.2.1 o1.2.2 u xs) X (cc_finishLeg l X.2.2.2.2.2.2.2.2 X.2.2.2.2.2.2.1 h11 va1 co1) g_1053 g_1055 gs_18 g_1 g_1056 hd_yX11_finishLeg ⟨rfl, rfl, Nat.le_of_ble_eq_true rfl, Nat.le_of_ble_eq_true rfl⟩ rfl (fun _ hG => cx_recv X (k := 11) (n := 9) rfl rfl h11 hG) rfl (Nat.le_of_ble_eq_true rfl) dX11_closeLeg_3 ⟨by show _ ≤ 4; omega, by show _ ≤ 1826; omega⟩ (fun ad2 h9 => ?_)
  have hax9 := h9.1
  have hax := hax.trans9 hN0 hax9
  try rw [← hax9 11 0 (ex_obj rfl h11) (by decide)]
  try rw [← hax9 4 _ (ex_obj rfl (vp_lt va1)) (by decide)]
  have hN9 := h9.2
  have hN0 := fun k => Nat.le_trans (hN0 k) (hN9 k)
  have h11 := Nat.lt_of_lt_of_le h11 (hN9 11)
  have va1 := vp_mono va1 (hN9 4)
  clear hax9 hN9 h9
  refine z_aload_n X dX11_closeLeg_6 rfl rfl ?_
  refine c_get X 4 2 (v := .ref (ad2 1 (o1.1 82 a1.toNatClampNeg).toNatClampNeg)) rx4_ws rfl rfl rfl (vp_lt va1) g_931 rfl dX11_closeLeg_7 ?_
  refine zz.pre (fun H hG => cx_fact (k := 4) (i := a1.toNatClampNeg) (f := 2) rfl (vp_lt va1) rfl hG) (fun (p3 : vp_in (o1.1 82 a1.toNatClampNeg) (o1.2.2 1)) => ?_)
  obtain ⟨o4, co4, h⟩ := zb2 h
  refine z_callVq (As := []) (rest := []) (nA := 0) (mc := 0) (ms := 0) (rm := ({ frames := 9, cells := 0, slots := 0, locals := 378 } : Room)) (ro := fun _ => qn (ad2 4) o4) (pu := fun (_ : Unit) => (o4 = -1 ∨ vp_in o4 (o1.2.2 4))) (G1 := fun _ => cx D dA A o1.1 o1.2.1 o1.2.2 ad2 xs) X (cc_Call_findOnlyParty l X.2.2.2.2.2.2.2.2 X.2.2.2.2.2.2.1 h11 p3 co4) g_1065 g_1066 g_1067 g_32 g_1068 hd_yX1_findOnlyParty ⟨rfl, rfl, Nat.le_of_ble_eq_true rfl, Nat.le_of_ble_eq_true rfl⟩ rfl (fun _ hG => cx_recv X (k := 1) (n := 3) rfl rfl (vp_lt p3) hG) rfl (Nat.le_of_ble_eq_true rfl) dX11_closeLeg_10 ⟨by show _ ≤ 4; omega, by show _ ≤ 1826; omega⟩ (fun _ p5 => ?_)
  refine z_astoreq_n (lo' := [(3, va_rf (qn (ad2 4) o4)), (0, .ref (ad2 11 0)), (1, .ref (ad2 4 a1.toNatClampNeg)), (2, .int a2)]) X dX11_closeLeg_13 rfl (by rw [hml]; decide) rfl rfl ?_
  refine z_aloadq_n X dX11_closeLeg_14 rfl rfl ?_
  refine c_ifnull (tgt := 24) X dX11_closeLeg_15 (by decide) (fun q => ?_) (fun q => ?_)
  · have h := zp q h
    obtain rfl := Option.some.inj h
    refine zz.widen (k := 4) (n := 1826) (by omega) (by omega) ?_
    exact z_vret X hr (fun t hG hF _ => ⟨⟨ad2, rfl, ⟨hax, hN0⟩, hG⟩, hF⟩) dX11_closeLeg_24
  · have h := zn q h
    have p6 := p5.resolve_left q
    rw [qn_ref q]
    refine z_aload_n X dX11_closeLeg_18 rfl rfl ?_
    refine z_aload_n X dX11_closeLeg_19 rfl rfl ?_
    refine z_iconst (v := 1) X dX11_closeLeg_20 (by decide) ?_
    obtain ⟨o7, co7, h⟩ := zb2 h
    refine z_callVv (As := [.ref (ad2 4 o4.toNatClampNeg), .int 1]) (rest := []) (nA := 2) (mc := 2) (ms := 913) (rm := ({ frames := 10, cells := 2, slots := 913, locals := 420 } : Room)) (pu := fun (u : Adr) => axt o1.2.2 ad2 u ∧ (∀ k, o1.2.2 k ≤ o7.2.2 k)) (G1 := fun u => cx D dA A o7.1 o7.2.1 o7.2.2 u xs) X (cc_finishLeg l X.2.2.2.2.2.2.2.2 X.2.2.2.2.2.2.1 h11 p6 co7) g_1053 g_1055 gs_18 g_1 g_1056 hd_yX11_finishLeg ⟨rfl, rfl, Nat.le_of_ble_eq_true rfl, Nat.le_of_ble_eq_true rfl⟩ rfl (fun _ hG => cx_recv X (k := 11) (n := 9) rfl rfl h11 hG) rfl (Nat.le_of_ble_eq_true rfl) dX11_closeLeg_21 ⟨by show _ ≤ 4; omega, by show _ ≤ 1826; omega⟩ (fun ad8 h9 => ?_)
    have hax9 := h9.1
    have hax := hax.trans9 hN0 hax9
    try rw [← hax9 4 _ (ex_obj rfl (vp_lt p6)) (by decide)]
    try rw [← hax9 11 0 (ex_obj rfl h11) (by decide)]
    try rw [← hax9 4 _ (ex_obj rfl (vp_lt va1)) (by decide)]
    have hN9 := h9.2
    have hN0 := fun k => Nat.le_trans (hN0 k) (hN9 k)
    have h11 := Nat.lt_of_lt_of_le h11 (hN9 11)
    have va1 := vp_mono va1 (hN9 4)
    have p3 := vp_mono p3 (hN9 1)
    have p5 := p5.imp_right (fun z => vp_mono z (hN9 4))
    have p6 := vp_mono p6 (hN9 4)
    clear hax9 hN9 h9
    obtain rfl := Option.some.inj h
    refine zz.widen (k := 4) (n := 1826) (by omega) (by omega) ?_
    exact z_vret X hr (fun t hG hF _ => ⟨⟨ad8, rfl, ⟨hax, hN0⟩, hG⟩, hF⟩) dX11_closeLeg_24
theorem cc_closeLeg (l : Launch) {D : va_G} {dA : Nat → ClassId} {A : Nat → Prop} {n : Nat} (hst : l.stackTraces = false) (hA : ∀ q, n ≤ q → A q) {V : Rho} {L : Lst} {N : Cnt} {ad : Adr} {xs : va_W} (h11 : 0 < N 11) {a1 : Int32} {a2 : Int32} (va1 : vp_in a1 (N 4)) {o : CW} (h : fc_closeLeg V L N a1 a2 = some o) : Met l yX11_closeLeg (.code yX11_closeLeg cX11_closeLeg 4 none :: gT) ({ frames := 11, cells := 4, slots := 1826, locals := 462 } : Room) (va_Pc [.ref (ad 11 0), .ref (ad 4 a1.toNatClampNeg), .int a2] (zB D dA A n (cx D dA A V L N ad xs))) (va_Qv (fun (w9 : Adr) => axt N ad w9 ∧ (∀ k, N k ≤ o.2.2 k)) (fun (w9 : Adr) t => cx D dA A o.1 o.2.1 o.2.2 w9 xs t.heap) A) 4 1826 A :=
  z_met (by decide) hA hst (Nat.le_of_ble_eq_true rfl) rfl rfl (fun p e s m below meth c X hml hr _ => bc_closeLeg X hml hr ⟨by omega, by omega⟩ h11 va1 h)
-- MeshBiller.takeSliceOrCut(LMeshBiller$Leg;)V
def fc_takeSliceOrCut (V : Rho) (L : Lst) (N : Cnt) (a1 : Int32) : Option (CW) := (fc_takeSlice V L N a1).bind fun o1 => (if o1.2 = 0 then (fc_closeLeg o1.1 L N a1 2).bind fun o2 => some (o2.1, o2.2.1, o2.2.2)
  else some (o1.1, L, N))
set_option maxRecDepth 100000 in
set_option maxHeartbeats 4000000 in
theorem bc_takeSliceOrCut {p : Program} {l : Launch} {e : Env} {s : State} {m : MethodId} {args : Array Value} {below : List Frame} {meth : Method} {c : Code} {D : va_G} {dA : Nat → ClassId} {A : Nat → Prop} {xs : va_W} {o : CW} (X : zc p l s m args meth c cX11_takeSliceOrCut RX11 D dA A) (hml : c.maxLocals = 2) (hr : meth.sig.returnType = none) {cells slots : Nat} (hcs : cells + 4 ≤ 4 ∧ slots + 1826 ≤ 1826) {V : Rho} {L : Lst} {N : Cnt} {ad : Adr} (h11 : 0 < N 11) {a1 : Int32} (va1 : vp_in a1 (N 4)) (h : fc_takeSliceOrCut V L N a1 = some o) : zz p l e ({ frames := 12, cells := 4, slots := 1826, locals := 504 } : Room) s m args below meth c A (cx D dA A V L N ad xs) cells slots (MQ below (va_Qv (fun (w9 : Adr) => axt N ad w9 ∧ (∀ k, N k ≤ o.2.2 k)) (fun (w9 : Adr) t => cx D dA A o.1 o.2.1 o.2.2 w9 xs t.heap) A) args s 4 1826 A) 0 [(0, .ref (ad 11 0)), (1, .ref (ad 4 a1.toNatClampNeg))] [] [] := by
  obtain ⟨hcs1, hcs2⟩ := hcs
  have hax := axt.rf N ad
  have hN0 := fun k => Nat.le_refl (N k)
  unfold fc_takeSliceOrCut at h
  refine z_aload_n X dX11_takeSliceOrCut_0 rfl rfl ?_
  refine z_aload_n X dX11_takeSliceOrCut_1 rfl rfl ?_
  obtain ⟨o1, co1, h⟩ := zb2 h
  refine z_callVi (As := [.ref (ad 4 a1.toNatClampNeg)]) (rest := []) (nA := 1) (mc := 0) (ms := 0) (rm := ({ frames := 10, cells := 0, slots := 0, locals := 420 } : Room)) (r0 := o1.2) (pu := fun (_ : Unit) => True) (G1 := fun _ => cx D dA A o1.1 L N ad xs) X (cc_takeSlice l X.2.2.2.2.2.2.2.2 X.2.2.2.2.2.2.1 h11 va1 co1) g_1007 g_1009 gs_13 g_1 g_1010 hd_yX11_takeSlice ⟨rfl, rfl, Nat.le_of_ble_eq_true rfl, Nat.le_of_ble_eq_true rfl⟩ rfl (fun _ hG => cx_recv X (k := 11) (n := 9) rfl rfl h11 hG) rfl (Nat.le_of_ble_eq_true rfl) dX11_takeSliceOrCut_2 ⟨by show _ ≤ 4; omega, by show _ ≤ 1826; omega⟩ (fun _ _ => ?_)
  refine z_if_ne (tgt := 14) X dX11_takeSliceOrCut_5 (by decide) (fun q => ?_) (fun q => ?_)
  · have h := zp q h
    refine z_aload_n X dX11_takeSliceOrCut_8 rfl rfl ?_
    refine z_aload_n X dX11_takeSliceOrCut_9 rfl rfl ?_
    refine z_iconst (v := 2) X dX11_takeSliceOrCut_10 (by decide) ?_
    obtain ⟨o2, co2, h⟩ := zb2 h
    refine z_callVv (As := [.ref (ad 4 a1.toNatClampNeg), .int 2]) (rest := []) (nA := 2) (mc := 4) (ms := 1826) (rm := ({ frames := 11, cells := 4, slots := 1826, locals := 462 } : Room)) (pu := fun (u : Adr) => axt N ad u ∧ (∀ k, N k ≤ o2.2.2 k)) (G1 := fun u => cx D dA A o2.1 o2.2.1 o2.2.2 u xs) X (cc_closeLeg l X.2.2.2.2.2.2.2.2 X.2.2.2.2.2.2.1 h11 va1 co2) g_1049 g_1051 gs_17 g_1 g_1052 hd_yX11_closeLeg ⟨rfl, rfl, Nat.le_of_ble_eq_true rfl, Nat.le_of_ble_eq_true rfl⟩ rfl (fun _ hG => cx_recv X (k := 11) (n := 9) rfl rfl h11 hG) rfl (Nat.le_of_ble_eq_true rfl) dX11_takeSliceOrCut_11 ⟨by show _ ≤ 4; omega, by show _ ≤ 1826; omega⟩ (fun ad3 h9 => ?_)
    have hax9 := h9.1
    have hax := hax.trans9 hN0 hax9
    try rw [← hax9 11 0 (ex_obj rfl h11) (by decide)]
    try rw [← hax9 4 _ (ex_obj rfl (vp_lt va1)) (by decide)]
    have hN9 := h9.2
    have hN0 := fun k => Nat.le_trans (hN0 k) (hN9 k)
    have h11 := Nat.lt_of_lt_of_le h11 (hN9 11)
    have va1 := vp_mono va1 (hN9 4)
    clear hax9 hN9 h9
    obtain rfl := Option.some.inj h
    refine zz.widen (k := 4) (n := 1826) (by omega) (by omega) ?_
    exact z_vret X hr (fun t hG hF _ => ⟨⟨ad3, rfl, ⟨hax, hN0⟩, hG⟩, hF⟩) dX11_takeSliceOrCut_14
  · have h := zn q h
    obtain rfl := Option.some.inj h
    refine zz.widen (k := 4) (n := 1826) (by omega) (by omega) ?_
    exact z_vret X hr (fun t hG hF _ => ⟨⟨ad, rfl, ⟨hax, hN0⟩, hG⟩, hF⟩) dX11_takeSliceOrCut_14
theorem cc_takeSliceOrCut (l : Launch) {D : va_G} {dA : Nat → ClassId} {A : Nat → Prop} {n : Nat} (hst : l.stackTraces = false) (hA : ∀ q, n ≤ q → A q) {V : Rho} {L : Lst} {N : Cnt} {ad : Adr} {xs : va_W} (h11 : 0 < N 11) {a1 : Int32} (va1 : vp_in a1 (N 4)) {o : CW} (h : fc_takeSliceOrCut V L N a1 = some o) : Met l yX11_takeSliceOrCut (.code yX11_takeSliceOrCut cX11_takeSliceOrCut 2 none :: gT) ({ frames := 12, cells := 4, slots := 1826, locals := 504 } : Room) (va_Pc [.ref (ad 11 0), .ref (ad 4 a1.toNatClampNeg)] (zB D dA A n (cx D dA A V L N ad xs))) (va_Qv (fun (w9 : Adr) => axt N ad w9 ∧ (∀ k, N k ≤ o.2.2 k)) (fun (w9 : Adr) t => cx D dA A o.1 o.2.1 o.2.2 w9 xs t.heap) A) 4 1826 A :=
  z_met (by decide) hA hst (Nat.le_of_ble_eq_true rfl) rfl rfl (fun p e s m below meth c X hml hr _ => bc_takeSliceOrCut X hml hr ⟨by omega, by omega⟩ h11 va1 h)
-- MeshBiller.begin(IIZ)I
def fc_begin_73 (V : Rho) (L : Lst) (N : Cnt) (v3 : Int32) (v4 : Int32) (v5 : Int32) (s0 : Int32) : Option ((CW × Int32) ⊕ Nat) := (fc_openChannels V L N (V 101 v4.toNatClampNeg)).bind fun o2 => (if o2 < s0 then some (.inr 3)
  else (fc_openChannels V L N (V 101 v5.toNatClampNeg)).bind fun o4 => (if s0 ≤ o4 then (some (nI (L 13 0).length)).bind fun x5 => (if 40 ≤ x5 then some (.inr 3)
  else (some (nI (L 14 0).length)).bind fun x6 => (if (x6 + 2) ≤ 80 then (some (nI (L 13 0).length)).bind fun x8 => if 100000 ≤ (N 1) then none else (some (cs (cs V 20 (N 1) x8) 21 (N 1) v4)).bind fun V9 => (some (nup N 1)).bind fun N11 => (some (nI (N 1))).bind fun x10 => (some (lput L 17 (N 1) [])).bind fun L15 => if 1000 ≤ (L15 13 0).length then none else (some (lput L15 13 0 ((L15 13 0) ++ [x10]))).bind fun L17 => (fc_openLeg V9 L17 N11 v4 x10 0).bind fun o19 => (fc_openLeg o19.1.1 o19.1.2.1 o19.1.2.2 v5 x10 v3).bind fun o22 => (fc_takeSliceOrCut o22.1.1 o22.1.2.1 o22.1.2.2 o19.2).bind fun o25 => (if (o25.1 87 o22.2.toNatClampNeg) = 0 then (fc_takeSliceOrCut o25.1 o25.2.1 o25.2.2 o22.2).bind fun o27 => some (.inl ((o27.1, o27.2.1, o27.2.2), (o27.1 20 x10.toNatClampNeg)))
  else some (.inl ((o25.1, o25.2.1, o25.2.2), (o25.1 20 x10.toNatClampNeg))))
  else some (.inr 3)))
  else some (.inr 3)))
set_option maxRecDepth 100000 in
set_option maxHeartbeats 4000000 in
theorem bc_begin_73 {p : Program} {l : Launch} {e : Env} {s : State} {m : MethodId} {args : Array Value} {below : List Frame} {meth : Method} {c : Code} {D : va_G} {dA : Nat → ClassId} {A : Nat → Prop} {xs : va_W} {o : (CW × Int32) ⊕ Nat} (X : zc p l s m args meth c cX11_begin RX11 D dA A) (hml : c.maxLocals = 10) (hr : meth.sig.returnType = (some .int)) (hnil : ∀ x ∈ c.exceptionTable.toList, False) {cells slots : Nat} (hcs : cells + 25 ≤ 27 ∧ slots + 13070 ≤ 13082) {V : Rho} {L : Lst} {N : Cnt} {ad : Adr} (h11 : 0 < N 11) (hax : axt N ad ad) (hN0 : ∀ k, N k ≤ N k) {v3 : Int32} {v4 : Int32} {v5 : Int32} {s0 : Int32} (fv4 : vp_in v4 (N 5)) (fv5 : vp_in v5 (N 5)) (h : fc_begin_73 V L N v3 v4 v5 s0 = some o) : zz p l e ({ frames := 13, cells := 27, slots := 13082, locals := 546 } : Room) s m args below meth c A (cx D dA A V L N ad xs) cells slots (vx_MQ below (va_Qi (fun r (w9 : (CW × Int32) × Adr) => r = w9.1.2 ∧ o = .inl w9.1 ∧ axt N ad w9.2 ∧ (∀ k, N k ≤ w9.1.1.2.2 k)) (fun (w9 : (CW × Int32) × Adr) t => cx D dA A w9.1.1.1 w9.1.1.2.1 w9.1.1.2.2 w9.2 xs t.heap) A) (vx_X (fun (u : Nat) => o = .inr u) (fun E u t => E = exn u ∧ cx D dA A V L N ad xs t.heap) A) args s 27 13082 A) 73 [(0, .ref (ad 11 0)), (3, .int v3), (4, .ref (ad 5 v4.toNatClampNeg)), (5, .ref (ad 5 v5.toNatClampNeg))] [] [.int s0] := by
  obtain ⟨hcs1, hcs2⟩ := hcs
  unfold fc_begin_73 at h
  refine z_istore (lo' := [(6, .int s0), (0, .ref (ad 11 0)), (3, .int v3), (4, .ref (ad 5 v4.toNatClampNeg)), (5, .ref (ad 5 v5.toNatClampNeg))]) X dX11_begin_73 (by rw [hml]; decide) rfl rfl ?_
  refine z_aload_n X dX11_begin_75 rfl rfl ?_
  refine z_aload X dX11_begin_76 rfl ?_
  refine c_get X 5 1 (v := .ref (ad 2 (V 101 v4.toNatClampNeg).toNatClampNeg)) rx5_ws rfl rfl rfl (vp_lt fv4) g_248 rfl dX11_begin_78 ?_
  refine zz.pre (fun H hG => cx_fact (k := 5) (i := v4.toNatClampNeg) (f := 1) rfl (vp_lt fv4) rfl hG) (fun (p1 : vp_in (V 101 v4.toNatClampNeg) (N 2)) => ?_)
  obtain ⟨o2, co2, h⟩ := zb2 h
  refine z_callVi (As := [.ref (ad 2 (V 101 v4.toNatClampNeg).toNatClampNeg)]) (rest := []) (nA := 1) (mc := 0) (ms := 0) (rm := ({ frames := 2, cells := 0, slots := 0, locals := 84 } : Room)) (r0 := o2) (pu := fun (_ : Unit) => True) (G1 := fun _ => cx D dA A V L N ad xs) X (cc_openChannels l X.2.2.2.2.2.2.2.2 X.2.2.2.2.2.2.1 h11 p1 co2) g_866 g_868 gs_10 g_1 g_869 hd_yX11_openChannels ⟨rfl, rfl, Nat.le_of_ble_eq_true rfl, Nat.le_of_ble_eq_true rfl⟩ rfl (fun _ hG => cx_recv X (k := 11) (n := 9) rfl rfl h11 hG) rfl (Nat.le_of_ble_eq_true rfl) dX11_begin_81 ⟨by show _ ≤ 27; omega, by show _ ≤ 13082; omega⟩ (fun _ _ => ?_)
  refine z_iload X dX11_begin_84 rfl ?_
  refine z_icmp_lt (tgt := 103) X dX11_begin_86 (by decide) (fun q => ?_) (fun q => ?_)
  · have h := zp q h
    obtain rfl := Option.some.inj h
    exact z_throwS (k := 3) (ik := 82) (is := 226) (ic := 86) (text := "there are no channels for both") X hnil cx_grow (by decide) g_417 g_21 hat_3 (by decide) dX11_begin_103 dX11_begin_106 dX11_begin_107 dX11_begin_109 dX11_begin_112 ⟨Nat.le_of_ble_eq_true rfl, Nat.le_of_ble_eq_true rfl, by show _ ≤ 27; omega, by show _ ≤ 13082; omega⟩ (fun t hG hF => ⟨3, rfl, ⟨rfl, hG⟩, hF⟩) (by omega) (by omega)
  · have h := zn q h
    refine z_aload_n X dX11_begin_89 rfl rfl ?_
    refine z_aload X dX11_begin_90 rfl ?_
    refine c_get X 5 1 (v := .ref (ad 2 (V 101 v5.toNatClampNeg).toNatClampNeg)) rx5_ws rfl rfl rfl (vp_lt fv5) g_248 rfl dX11_begin_92 ?_
    refine zz.pre (fun H hG => cx_fact (k := 5) (i := v5.toNatClampNeg) (f := 1) rfl (vp_lt fv5) rfl hG) (fun (p3 : vp_in (V 101 v5.toNatClampNeg) (N 2)) => ?_)
    obtain ⟨o4, co4, h⟩ := zb2 h
    refine z_callVi (As := [.ref (ad 2 (V 101 v5.toNatClampNeg).toNatClampNeg)]) (rest := []) (nA := 1) (mc := 0) (ms := 0) (rm := ({ frames := 2, cells := 0, slots := 0, locals := 84 } : Room)) (r0 := o4) (pu := fun (_ : Unit) => True) (G1 := fun _ => cx D dA A V L N ad xs) X (cc_openChannels l X.2.2.2.2.2.2.2.2 X.2.2.2.2.2.2.1 h11 p3 co4) g_866 g_868 gs_10 g_1 g_869 hd_yX11_openChannels ⟨rfl, rfl, Nat.le_of_ble_eq_true rfl, Nat.le_of_ble_eq_true rfl⟩ rfl (fun _ hG => cx_recv X (k := 11) (n := 9) rfl rfl h11 hG) rfl (Nat.le_of_ble_eq_true rfl) dX11_begin_95 ⟨by show _ ≤ 27; omega, by show _ ≤ 13082; omega⟩ (fun _ _ => ?_)
    refine z_iload X dX11_begin_98 rfl ?_
    refine z_icmp_ge (tgt := 113) X dX11_begin_100 (by decide) (fun q => ?_) (fun q => ?_)
    · have h := zp q h
      refine z_aload_n X dX11_begin_113 rfl rfl ?_
      refine c_get X 11 5 (v := .ref (ad 13 0)) rx11_ws rfl rfl rfl h11 g_277 rfl dX11_begin_114 ?_
      obtain ⟨x5, ex5, h⟩ := zb h
      refine z_callVi (As := []) (rest := []) (nA := 0) (mc := 0) (ms := 0) (rm := ({ frames := 8, cells := 0, slots := 0, locals := 336 } : Room)) (r0 := (nI (L 13 0).length)) (pu := fun (_ : Unit) => True) (G1 := fun _ => cx D dA A V L N ad xs) X (cl_size l X.2.2.2.2.2.2.2.2 X.2.2.2.2.2.2.1 (k := 13) (i := 0) rfl rfl h11) g_308 g_309 g_310 g_4 g_311 hd_yJx4a65c_size_8abf5 ⟨rfl, rfl, Nat.le_of_ble_eq_true rfl, Nat.le_of_ble_eq_true rfl⟩ rfl (fun _ hG => cx_recvL X (k := 13) rfl rfl h11 hG) rfl (Nat.le_of_ble_eq_true rfl) dX11_begin_117 ⟨by show _ ≤ 27; omega, by show _ ≤ 13082; omega⟩ (fun _ _ => ?_)
      rw [ex5]
      refine z_bipush (v := 40) X dX11_begin_120 (by decide) ?_
      refine z_icmp_ge (tgt := 139) X dX11_begin_122 (by decide) (fun q => ?_) (fun q => ?_)
      · have h := zp q h
        obtain rfl := Option.some.inj h
        exact z_throwS (k := 3) (ik := 82) (is := 228) (ic := 86) (text := "too many calls or legs") X hnil cx_grow (by decide) g_417 g_21 hat_3 (by decide) dX11_begin_139 dX11_begin_142 dX11_begin_143 dX11_begin_145 dX11_begin_148 ⟨Nat.le_of_ble_eq_true rfl, Nat.le_of_ble_eq_true rfl, by show _ ≤ 27; omega, by show _ ≤ 13082; omega⟩ (fun t hG hF => ⟨3, rfl, ⟨rfl, hG⟩, hF⟩) (by omega) (by omega)
      · have h := zn q h
        refine z_aload_n X dX11_begin_125 rfl rfl ?_
        refine c_get X 11 6 (v := .ref (ad 14 0)) rx11_ws rfl rfl rfl h11 g_278 rfl dX11_begin_126 ?_
        obtain ⟨x6, ex6, h⟩ := zb h
        refine z_callVi (As := []) (rest := []) (nA := 0) (mc := 0) (ms := 0) (rm := ({ frames := 8, cells := 0, slots := 0, locals := 336 } : Room)) (r0 := (nI (L 14 0).length)) (pu := fun (_ : Unit) => True) (G1 := fun _ => cx D dA A V L N ad xs) X (cl_size l X.2.2.2.2.2.2.2.2 X.2.2.2.2.2.2.1 (k := 14) (i := 0) rfl rfl h11) g_308 g_309 g_310 g_4 g_311 hd_yJx4a65c_size_8abf5 ⟨rfl, rfl, Nat.le_of_ble_eq_true rfl, Nat.le_of_ble_eq_true rfl⟩ rfl (fun _ hG => cx_recvL X (k := 14) rfl rfl h11 hG) rfl (Nat.le_of_ble_eq_true rfl) dX11_begin_129 ⟨by show _ ≤ 27; omega, by show _ ≤ 13082; omega⟩ (fun _ _ => ?_)
        rw [ex6]
        refine z_iconst (v := 2) X dX11_begin_132 (by decide) ?_
        refine z_iadd X dX11_begin_133 ?_
        refine z_bipush (v := 80) X dX11_begin_134 (by decide) ?_
        refine z_icmp_le (tgt := 149) X dX11_begin_136 (by decide) (fun q => ?_) (fun q => ?_)
        · have h := zp q h
          refine c_new X 4 (fs := [.int 0, .null, .null]) tyX1 rx1_ws rfl tyX1_ok g_872 g_873 g_32 (fun j hj => by rcases (show j = 0 ∨ j = 1 ∨ j = 2 by omega) with rfl | rfl | rfl <;> rfl) ⟨by show _ ≤ 27; omega, by show _ ≤ 13082; omega⟩ dX11_begin_149 (fun q7 => ?_)
          refine z_dup X dX11_begin_152 rfl ?_
          refine z_aload_n X dX11_begin_153 rfl rfl ?_
          refine c_get X 11 5 (v := .ref (ad 13 0)) rx11_ws rfl rfl rfl h11 g_277 rfl dX11_begin_154 ?_
          obtain ⟨x8, ex8, h⟩ := zb h
          refine z_callVi (As := []) (rest := [.ref q7, .ref q7]) (nA := 0) (mc := 0) (ms := 0) (rm := ({ frames := 8, cells := 0, slots := 0, locals := 336 } : Room)) (r0 := (nI (L 13 0).length)) (pu := fun (_ : Unit) => True) (G1 := fun _ => cx D dA A V L N ad (xs ++ [(q7, .inr (4, [.int 0, .null, .null]))])) X (cl_size l X.2.2.2.2.2.2.2.2 X.2.2.2.2.2.2.1 (k := 13) (i := 0) rfl rfl h11) g_308 g_309 g_310 g_4 g_311 hd_yJx4a65c_size_8abf5 ⟨rfl, rfl, Nat.le_of_ble_eq_true rfl, Nat.le_of_ble_eq_true rfl⟩ rfl (fun _ hG => cx_recvL X (k := 13) rfl rfl h11 hG) rfl (Nat.le_of_ble_eq_true rfl) dX11_begin_157 ⟨by show _ ≤ 27; omega, by show _ ≤ 13082; omega⟩ (fun _ _ => ?_)
          rw [ex8]
          refine z_aload X dX11_begin_160 rfl ?_
          refine z_callI (As := [.int x8, .ref (ad 5 v4.toNatClampNeg)]) (rest := [.ref q7]) (nA := 2) (mc := 1) (ms := 3) (rm := ({ frames := 4, cells := 1, slots := 3, locals := 168 } : Room)) (pu := fun (u : Nat) => True) (G1 := fun u => cx D dA A V L N ad (xs ++ [(q7, .inr (4, [.int x8, .ref (ad 5 v4.toNatClampNeg), .ref u]))] ++ [(u, .inr (2, [.int 0, .ref (dA 99), .int 0]))])) X (ck_Call l X.2.2.2.2.2.2.2.2 X.2.2.2.2.2.2.1 fv4) g_874 g_875 g_32 g_876 hd_yX1_init ⟨rfl, rfl, Nat.le_of_ble_eq_true rfl, Nat.le_of_ble_eq_true rfl⟩ rfl rfl (Nat.le_of_ble_eq_true rfl) dX11_begin_162 ⟨by show _ ≤ 27; omega, by show _ ≤ 13082; omega⟩ (fun u _ => ?_)
          obtain ⟨q14, h⟩ := zg h
          obtain ⟨V9, eV9, h⟩ := zb h
          obtain ⟨N11, eN11, h⟩ := zb h
          obtain ⟨x10, ex10, h⟩ := zb h
          obtain ⟨L15, eL15, h⟩ := zb h
          obtain ⟨ad12, ead12⟩ : ∃ z, z = adu (adu ad 1 (N 1) q7) 17 (N 1) u := ⟨_, rfl⟩
          have p13 : vp_in x10 (N11 1) := by rw [← ex10, ← eN11]; exact vp_new q14 |>.1
          have hq9 : ad12 1 x10.toNatClampNeg = q7 := by rw [← ex10, nI_clamp (by omega), ead12, adu_ne (fun z => by omega), adu_self]
          have h9 : axt N ad ad12 ∧ ∀ k, N k ≤ N11 k := ⟨by rw [ead12]; exact axt_adu2 (by omega), fun k => by rw [← eN11]; exact nup_le⟩
          refine zz.conseq (fun H hG => mk_Call q14 fv4 eV9 eL15 eN11 ead12 hG) ?_
          rw [← hq9]
          clear hq9 ead12
          have hax9 := h9.1
          have hax := hax.trans9 hN0 hax9
          try rw [← hax9 11 0 (ex_obj rfl h11) (by decide)]
          try rw [← hax9 5 _ (ex_obj rfl (vp_lt fv4)) (by decide)]
          try rw [← hax9 5 _ (ex_obj rfl (vp_lt fv5)) (by decide)]
          have hN9 := h9.2
          have hN0 := fun k => Nat.le_trans (hN0 k) (hN9 k)
          have h11 := Nat.lt_of_lt_of_le h11 (hN9 11)
          have fv4 := vp_mono fv4 (hN9 5)
          have fv5 := vp_mono fv5 (hN9 5)
          have p1 := vp_mono p1 (hN9 2)
          have p3 := vp_mono p3 (hN9 2)
          clear hax9 hN9 h9
          refine z_astore (lo' := [(7, .ref (ad12 1 x10.toNatClampNeg)), (6, .int s0), (0, .ref (ad12 11 0)), (3, .int v3), (4, .ref (ad12 5 v4.toNatClampNeg)), (5, .ref (ad12 5 v5.toNatClampNeg))]) X dX11_begin_165 (by rw [hml]; decide) rfl rfl ?_
          refine z_aload_n X dX11_begin_167 rfl rfl ?_
          refine c_get X 11 5 (v := .ref (ad12 13 0)) rx11_ws rfl rfl rfl h11 g_277 rfl dX11_begin_168 ?_
          refine z_aload X dX11_begin_171 rfl ?_
          obtain ⟨q16, h⟩ := zg h
          obtain ⟨L17, eL17, h⟩ := zb h
          refine z_callVi (As := [.ref (ad12 1 x10.toNatClampNeg)]) (rest := []) (nA := 1) (mc := 1) (ms := 1510) (rm := ({ frames := 8, cells := 1, slots := 1510, locals := 336 } : Room)) (r0 := 1) (pu := fun (u : Adr) => axt N11 ad12 u ∧ (∀ k, N11 k ≤ N11 k)) (G1 := fun u => cx D dA A V9 L17 N11 u xs) X (cl_add l X.2.2.2.2.2.2.2.2 X.2.2.2.2.2.2.1 (k := 13) (i := 0) (x := x10) rfl rfl h11 p13 q16 (b := 1510) (by omega) eL17) g_818 g_107 g_108 g_4 g_109 hd_yJx4a65c_add_9ea2d ⟨rfl, rfl, Nat.le_of_ble_eq_true rfl, Nat.le_of_ble_eq_true rfl⟩ rfl (fun _ hG => cx_recvL X (k := 13) rfl rfl h11 hG) rfl (Nat.le_of_ble_eq_true rfl) dX11_begin_173 ⟨by show _ ≤ 27; omega, by show _ ≤ 13082; omega⟩ (fun ad18 h9 => ?_)
          have hax9 := h9.1
          have hax := hax.trans9 hN0 hax9
          try rw [← hax9 1 _ (ex_obj rfl (vp_lt p13)) (by decide)]
          try rw [← hax9 11 0 (ex_obj rfl h11) (by decide)]
          try rw [← hax9 5 _ (ex_obj rfl (vp_lt fv4)) (by decide)]
          try rw [← hax9 5 _ (ex_obj rfl (vp_lt fv5)) (by decide)]
          have hN9 := h9.2
          have hN0 := fun k => Nat.le_trans (hN0 k) (hN9 k)
          have h11 := Nat.lt_of_lt_of_le h11 (hN9 11)
          have fv4 := vp_mono fv4 (hN9 5)
          have fv5 := vp_mono fv5 (hN9 5)
          have p1 := vp_mono p1 (hN9 2)
          have p3 := vp_mono p3 (hN9 2)
          have p13 := vp_mono p13 (hN9 1)
          clear hax9 hN9 h9
          refine z_pop X dX11_begin_176 rfl ?_
          refine z_aload_n X dX11_begin_177 rfl rfl ?_
          refine z_aload X dX11_begin_178 rfl ?_
          refine z_aload X dX11_begin_180 rfl ?_
          refine z_iconst (v := 0) X dX11_begin_182 (by decide) ?_
          obtain ⟨o19, co19, h⟩ := zb2 h
          refine z_callVq (As := [.ref (ad18 5 v4.toNatClampNeg), .ref (ad18 1 x10.toNatClampNeg), .int 0]) (rest := []) (nA := 3) (mc := 7) (ms := 3951) (rm := ({ frames := 10, cells := 7, slots := 3951, locals := 420 } : Room)) (ro := fun u => some (u 4 o19.2.toNatClampNeg)) (pu := fun (u : Adr) => axt N11 ad18 u ∧ (∀ k, N11 k ≤ o19.1.2.2 k) ∧ vp_in o19.2 (o19.1.2.2 4)) (G1 := fun u => cx D dA A o19.1.1 o19.1.2.1 o19.1.2.2 u xs) X (cc_openLeg l X.2.2.2.2.2.2.2.2 X.2.2.2.2.2.2.1 h11 fv4 p13 co19) g_893 g_895 gs_11 g_1 g_896 hd_yX11_openLeg ⟨rfl, rfl, Nat.le_of_ble_eq_true rfl, Nat.le_of_ble_eq_true rfl⟩ rfl (fun _ hG => cx_recv X (k := 11) (n := 9) rfl rfl h11 hG) rfl (Nat.le_of_ble_eq_true rfl) dX11_begin_183 ⟨by show _ ≤ 27; omega, by show _ ≤ 13082; omega⟩ (fun ad21 h9 => ?_)
          have p20 := h9.2.2
          have h9 := And.intro h9.1 h9.2.1
          have hax9 := h9.1
          have hax := hax.trans9 hN0 hax9
          try rw [← hax9 1 _ (ex_obj rfl (vp_lt p13)) (by decide)]
          try rw [← hax9 11 0 (ex_obj rfl h11) (by decide)]
          try rw [← hax9 5 _ (ex_obj rfl (vp_lt fv4)) (by decide)]
          try rw [← hax9 5 _ (ex_obj rfl (vp_lt fv5)) (by decide)]
          have hN9 := h9.2
          have hN0 := fun k => Nat.le_trans (hN0 k) (hN9 k)
          have h11 := Nat.lt_of_lt_of_le h11 (hN9 11)
          have fv4 := vp_mono fv4 (hN9 5)
          have fv5 := vp_mono fv5 (hN9 5)
          have p1 := vp_mono p1 (hN9 2)
          have p3 := vp_mono p3 (hN9 2)
          have p13 := vp_mono p13 (hN9 1)
          clear hax9 hN9 h9
          refine z_astore (lo' := [(8, .ref (ad21 4 o19.2.toNatClampNeg)), (7, .ref (ad21 1 x10.toNatClampNeg)), (6, .int s0), (0, .ref (ad21 11 0)), (3, .int v3), (4, .ref (ad21 5 v4.toNatClampNeg)), (5, .ref (ad21 5 v5.toNatClampNeg))]) X dX11_begin_186 (by rw [hml]; decide) rfl rfl ?_
          refine z_aload_n X dX11_begin_188 rfl rfl ?_
          refine z_aload X dX11_begin_189 rfl ?_
          refine z_aload X dX11_begin_191 rfl ?_
          refine z_iload_n X dX11_begin_193 rfl rfl ?_
          obtain ⟨o22, co22, h⟩ := zb2 h
          refine z_callVq (As := [.ref (ad21 5 v5.toNatClampNeg), .ref (ad21 1 x10.toNatClampNeg), .int v3]) (rest := []) (nA := 3) (mc := 7) (ms := 3951) (rm := ({ frames := 10, cells := 7, slots := 3951, locals := 420 } : Room)) (ro := fun u => some (u 4 o22.2.toNatClampNeg)) (pu := fun (u : Adr) => axt o19.1.2.2 ad21 u ∧ (∀ k, o19.1.2.2 k ≤ o22.1.2.2 k) ∧ vp_in o22.2 (o22.1.2.2 4)) (G1 := fun u => cx D dA A o22.1.1 o22.1.2.1 o22.1.2.2 u xs) X (cc_openLeg l X.2.2.2.2.2.2.2.2 X.2.2.2.2.2.2.1 h11 fv5 p13 co22) g_893 g_895 gs_11 g_1 g_896 hd_yX11_openLeg ⟨rfl, rfl, Nat.le_of_ble_eq_true rfl, Nat.le_of_ble_eq_true rfl⟩ rfl (fun _ hG => cx_recv X (k := 11) (n := 9) rfl rfl h11 hG) rfl (Nat.le_of_ble_eq_true rfl) dX11_begin_194 ⟨by show _ ≤ 27; omega, by show _ ≤ 13082; omega⟩ (fun ad24 h9 => ?_)
          have p23 := h9.2.2
          have h9 := And.intro h9.1 h9.2.1
          have hax9 := h9.1
          have hax := hax.trans9 hN0 hax9
          try rw [← hax9 4 _ (ex_obj rfl (vp_lt p20)) (by decide)]
          try rw [← hax9 1 _ (ex_obj rfl (vp_lt p13)) (by decide)]
          try rw [← hax9 11 0 (ex_obj rfl h11) (by decide)]
          try rw [← hax9 5 _ (ex_obj rfl (vp_lt fv4)) (by decide)]
          try rw [← hax9 5 _ (ex_obj rfl (vp_lt fv5)) (by decide)]
          have hN9 := h9.2
          have hN0 := fun k => Nat.le_trans (hN0 k) (hN9 k)
          have h11 := Nat.lt_of_lt_of_le h11 (hN9 11)
          have fv4 := vp_mono fv4 (hN9 5)
          have fv5 := vp_mono fv5 (hN9 5)
          have p1 := vp_mono p1 (hN9 2)
          have p3 := vp_mono p3 (hN9 2)
          have p13 := vp_mono p13 (hN9 1)
          have p20 := vp_mono p20 (hN9 4)
          clear hax9 hN9 h9
          refine z_astore (lo' := [(9, .ref (ad24 4 o22.2.toNatClampNeg)), (8, .ref (ad24 4 o19.2.toNatClampNeg)), (7, .ref (ad24 1 x10.toNatClampNeg)), (6, .int s0), (0, .ref (ad24 11 0)), (3, .int v3), (4, .ref (ad24 5 v4.toNatClampNeg)), (5, .ref (ad24 5 v5.toNatClampNeg))]) X dX11_begin_197 (by rw [hml]; decide) rfl rfl ?_
          refine z_aload_n X dX11_begin_199 rfl rfl ?_
          refine z_aload X dX11_begin_200 rfl ?_
          obtain ⟨o25, co25, h⟩ := zb2 h
          refine z_callVv (As := [.ref (ad24 4 o19.2.toNatClampNeg)]) (rest := []) (nA := 1) (mc := 4) (ms := 1826) (rm := ({ frames := 12, cells := 4, slots := 1826, locals := 504 } : Room)) (pu := fun (u : Adr) => axt o22.1.2.2 ad24 u ∧ (∀ k, o22.1.2.2 k ≤ o25.2.2 k)) (G1 := fun u => cx D dA A o25.1 o25.2.1 o25.2.2 u xs) X (cc_takeSliceOrCut l X.2.2.2.2.2.2.2.2 X.2.2.2.2.2.2.1 h11 p20 co25) g_1003 g_1005 gs_12 g_1 g_1006 hd_yX11_takeSliceOrCut ⟨rfl, rfl, Nat.le_of_ble_eq_true rfl, Nat.le_of_ble_eq_true rfl⟩ rfl (fun _ hG => cx_recv X (k := 11) (n := 9) rfl rfl h11 hG) rfl (Nat.le_of_ble_eq_true rfl) dX11_begin_202 ⟨by show _ ≤ 27; omega, by show _ ≤ 13082; omega⟩ (fun ad26 h9 => ?_)
          have hax9 := h9.1
          have hax := hax.trans9 hN0 hax9
          try rw [← hax9 4 _ (ex_obj rfl (vp_lt p23)) (by decide)]
          try rw [← hax9 4 _ (ex_obj rfl (vp_lt p20)) (by decide)]
          try rw [← hax9 1 _ (ex_obj rfl (vp_lt p13)) (by decide)]
          try rw [← hax9 11 0 (ex_obj rfl h11) (by decide)]
          try rw [← hax9 5 _ (ex_obj rfl (vp_lt fv4)) (by decide)]
          try rw [← hax9 5 _ (ex_obj rfl (vp_lt fv5)) (by decide)]
          have hN9 := h9.2
          have hN0 := fun k => Nat.le_trans (hN0 k) (hN9 k)
          have h11 := Nat.lt_of_lt_of_le h11 (hN9 11)
          have fv4 := vp_mono fv4 (hN9 5)
          have fv5 := vp_mono fv5 (hN9 5)
          have p1 := vp_mono p1 (hN9 2)
          have p3 := vp_mono p3 (hN9 2)
          have p13 := vp_mono p13 (hN9 1)
          have p20 := vp_mono p20 (hN9 4)
          have p23 := vp_mono p23 (hN9 4)
          clear hax9 hN9 h9
          refine z_aload X dX11_begin_205 rfl ?_
          refine c_get X 4 7 (v := .int (o25.1 87 o22.2.toNatClampNeg)) rx4_ws rfl rfl rfl (vp_lt p23) g_941 rfl dX11_begin_207 ?_
          refine z_if_ne (tgt := 219) X dX11_begin_210 (by decide) (fun q => ?_) (fun q => ?_)
          · have h := zp q h
            refine z_aload_n X dX11_begin_213 rfl rfl ?_
            refine z_aload X dX11_begin_214 rfl ?_
            obtain ⟨o27, co27, h⟩ := zb2 h
            refine z_callVv (As := [.ref (ad26 4 o22.2.toNatClampNeg)]) (rest := []) (nA := 1) (mc := 4) (ms := 1826) (rm := ({ frames := 12, cells := 4, slots := 1826, locals := 504 } : Room)) (pu := fun (u : Adr) => axt o25.2.2 ad26 u ∧ (∀ k, o25.2.2 k ≤ o27.2.2 k)) (G1 := fun u => cx D dA A o27.1 o27.2.1 o27.2.2 u xs) X (cc_takeSliceOrCut l X.2.2.2.2.2.2.2.2 X.2.2.2.2.2.2.1 h11 p23 co27) g_1003 g_1005 gs_12 g_1 g_1006 hd_yX11_takeSliceOrCut ⟨rfl, rfl, Nat.le_of_ble_eq_true rfl, Nat.le_of_ble_eq_true rfl⟩ rfl (fun _ hG => cx_recv X (k := 11) (n := 9) rfl rfl h11 hG) rfl (Nat.le_of_ble_eq_true rfl) dX11_begin_216 ⟨by show _ ≤ 27; omega, by show _ ≤ 13082; omega⟩ (fun ad28 h9 => ?_)
            have hax9 := h9.1
            have hax := hax.trans9 hN0 hax9
            try rw [← hax9 4 _ (ex_obj rfl (vp_lt p23)) (by decide)]
            try rw [← hax9 4 _ (ex_obj rfl (vp_lt p20)) (by decide)]
            try rw [← hax9 1 _ (ex_obj rfl (vp_lt p13)) (by decide)]
            try rw [← hax9 11 0 (ex_obj rfl h11) (by decide)]
            try rw [← hax9 5 _ (ex_obj rfl (vp_lt fv4)) (by decide)]
            try rw [← hax9 5 _ (ex_obj rfl (vp_lt fv5)) (by decide)]
            have hN9 := h9.2
            have hN0 := fun k => Nat.le_trans (hN0 k) (hN9 k)
            have h11 := Nat.lt_of_lt_of_le h11 (hN9 11)
            have fv4 := vp_mono fv4 (hN9 5)
            have fv5 := vp_mono fv5 (hN9 5)
            have p1 := vp_mono p1 (hN9 2)
            have p3 := vp_mono p3 (hN9 2)
            have p13 := vp_mono p13 (hN9 1)
            have p20 := vp_mono p20 (hN9 4)
            have p23 := vp_mono p23 (hN9 4)
            clear hax9 hN9 h9
            refine z_aload X dX11_begin_219 rfl ?_
            refine c_get X 1 0 (v := .int (o27.1 20 x10.toNatClampNeg)) rx1_ws rfl rfl rfl (vp_lt p13) g_881 rfl dX11_begin_221 ?_
            obtain rfl := Option.some.inj h
            refine zx_ret ?_
            refine zz.widen (k := 27) (n := 13082) (by omega) (by omega) ?_
            exact z_iret X hr rfl (fun t hG hF _ => ⟨⟨_, (_, ad28), rfl, ⟨rfl, ⟨rfl, ⟨hax, hN0⟩⟩⟩, hG⟩, hF⟩) dX11_begin_224
          · have h := zn q h
            refine z_aload X dX11_begin_219 rfl ?_
            refine c_get X 1 0 (v := .int (o25.1 20 x10.toNatClampNeg)) rx1_ws rfl rfl rfl (vp_lt p13) g_881 rfl dX11_begin_221 ?_
            obtain rfl := Option.some.inj h
            refine zx_ret ?_
            refine zz.widen (k := 27) (n := 13082) (by omega) (by omega) ?_
            exact z_iret X hr rfl (fun t hG hF _ => ⟨⟨_, (_, ad26), rfl, ⟨rfl, ⟨rfl, ⟨hax, hN0⟩⟩⟩, hG⟩, hF⟩) dX11_begin_224
        · have h := zn q h
          obtain rfl := Option.some.inj h
          exact z_throwS (k := 3) (ik := 82) (is := 228) (ic := 86) (text := "too many calls or legs") X hnil cx_grow (by decide) g_417 g_21 hat_3 (by decide) dX11_begin_139 dX11_begin_142 dX11_begin_143 dX11_begin_145 dX11_begin_148 ⟨Nat.le_of_ble_eq_true rfl, Nat.le_of_ble_eq_true rfl, by show _ ≤ 27; omega, by show _ ≤ 13082; omega⟩ (fun t hG hF => ⟨3, rfl, ⟨rfl, hG⟩, hF⟩) (by omega) (by omega)
    · have h := zn q h
      obtain rfl := Option.some.inj h
      exact z_throwS (k := 3) (ik := 82) (is := 226) (ic := 86) (text := "there are no channels for both") X hnil cx_grow (by decide) g_417 g_21 hat_3 (by decide) dX11_begin_103 dX11_begin_106 dX11_begin_107 dX11_begin_109 dX11_begin_112 ⟨Nat.le_of_ble_eq_true rfl, Nat.le_of_ble_eq_true rfl, by show _ ≤ 27; omega, by show _ ≤ 13082; omega⟩ (fun t hG hF => ⟨3, rfl, ⟨rfl, hG⟩, hF⟩) (by omega) (by omega)
def fc_begin (V : Rho) (L : Lst) (N : Cnt) (a1 : Int32) (a2 : Int32) (a3 : Int32) : Option ((CW × Int32) ⊕ Nat) := (fc_phoneAt V L N a1).bind fun o1 => Sum.elim (fun u2 => (fc_phoneAt V L N a2).bind fun o4 => Sum.elim (fun u5 => (if a1 = a2 then some (.inr 2)
  else (if (V 104 u2.toNatClampNeg) = -1 then (if (V 104 u5.toNatClampNeg) = -1 then (if (V 101 u2.toNatClampNeg) = (V 101 u5.toNatClampNeg) then fc_begin_73 V L N a3 u2 u5 2
  else fc_begin_73 V L N a3 u2 u5 1)
  else some (.inr 3))
  else some (.inr 3)))) (fun e9 => some (.inr e9)) o4) (fun e9 => some (.inr e9)) o1
set_option maxRecDepth 100000 in
set_option maxHeartbeats 4000000 in
theorem bc_begin {p : Program} {l : Launch} {e : Env} {s : State} {m : MethodId} {args : Array Value} {below : List Frame} {meth : Method} {c : Code} {D : va_G} {dA : Nat → ClassId} {A : Nat → Prop} {xs : va_W} {o : (CW × Int32) ⊕ Nat} (X : zc p l s m args meth c cX11_begin RX11 D dA A) (hml : c.maxLocals = 10) (hr : meth.sig.returnType = (some .int)) (hnil : ∀ x ∈ c.exceptionTable.toList, False) {cells slots : Nat} (hcs : cells + 27 ≤ 27 ∧ slots + 13082 ≤ 13082) {V : Rho} {L : Lst} {N : Cnt} {ad : Adr} (h11 : 0 < N 11) {a1 : Int32} {a2 : Int32} {a3 : Int32} (h : fc_begin V L N a1 a2 a3 = some o) : zz p l e ({ frames := 13, cells := 27, slots := 13082, locals := 546 } : Room) s m args below meth c A (cx D dA A V L N ad xs) cells slots (vx_MQ below (va_Qi (fun r (w9 : (CW × Int32) × Adr) => r = w9.1.2 ∧ o = .inl w9.1 ∧ axt N ad w9.2 ∧ (∀ k, N k ≤ w9.1.1.2.2 k)) (fun (w9 : (CW × Int32) × Adr) t => cx D dA A w9.1.1.1 w9.1.1.2.1 w9.1.1.2.2 w9.2 xs t.heap) A) (vx_X (fun (u : Nat) => o = .inr u) (fun E u t => E = exn u ∧ cx D dA A V L N ad xs t.heap) A) args s 27 13082 A) 0 [(0, .ref (ad 11 0)), (1, .int a1), (2, .int a2), (3, .int a3)] [] [] := by
  obtain ⟨hcs1, hcs2⟩ := hcs
  have hax := axt.rf N ad
  have hN0 := fun k => Nat.le_refl (N k)
  unfold fc_begin at h
  refine z_aload_n X dX11_begin_0 rfl rfl ?_
  refine z_iload_n X dX11_begin_1 rfl rfl ?_
  obtain ⟨o1, co1, h⟩ := zb2 h
  refine z_xVq (As := [.int a1]) (rest := []) (nA := 1) (mc := 1) (ms := 6) (rm := ({ frames := 6, cells := 1, slots := 6, locals := 252 } : Room)) (S := Int32) (r0 := fun u => some (ad 5 u.toNatClampNeg)) (pu := fun u => o1 = .inl u ∧ vp_in u (N 5)) (G1 := fun u => cx D dA A V L N ad xs) X hnil (cc_phoneAt l X.2.2.2.2.2.2.2.2 X.2.2.2.2.2.2.1 h11 co1) g_477 g_479 gs_6 g_1 g_480 hd_yX11_phoneAt ⟨rfl, rfl, Nat.le_of_ble_eq_true rfl, Nat.le_of_ble_eq_true rfl⟩ rfl (fun _ hG => cx_recv X (k := 11) (n := 9) rfl rfl h11 hG)  rfl (Nat.le_of_ble_eq_true rfl) dX11_begin_2 ⟨by show _ ≤ 27; omega, by show _ ≤ 13082; omega⟩ ⟨by omega, by omega⟩ (fun u hu t hG hF => ?_) (fun u2 hu => ?_)
  · rw [hu] at h
    obtain rfl := Option.some.inj h
    exact ⟨u, rfl, ⟨rfl, hG⟩, hF⟩
  · rw [hu.1] at h
    have p3 := hu.2
    simp only [Sum.elim_inl] at h
    refine z_astore (lo' := [(4, .ref (ad 5 u2.toNatClampNeg)), (0, .ref (ad 11 0)), (1, .int a1), (2, .int a2), (3, .int a3)]) X dX11_begin_5 (by rw [hml]; decide) rfl rfl ?_
    refine z_aload_n X dX11_begin_7 rfl rfl ?_
    refine z_iload_n X dX11_begin_8 rfl rfl ?_
    obtain ⟨o4, co4, h⟩ := zb2 h
    refine z_xVq (As := [.int a2]) (rest := []) (nA := 1) (mc := 1) (ms := 6) (rm := ({ frames := 6, cells := 1, slots := 6, locals := 252 } : Room)) (S := Int32) (r0 := fun u => some (ad 5 u.toNatClampNeg)) (pu := fun u => o4 = .inl u ∧ vp_in u (N 5)) (G1 := fun u => cx D dA A V L N ad xs) X hnil (cc_phoneAt l X.2.2.2.2.2.2.2.2 X.2.2.2.2.2.2.1 h11 co4) g_477 g_479 gs_6 g_1 g_480 hd_yX11_phoneAt ⟨rfl, rfl, Nat.le_of_ble_eq_true rfl, Nat.le_of_ble_eq_true rfl⟩ rfl (fun _ hG => cx_recv X (k := 11) (n := 9) rfl rfl h11 hG)  rfl (Nat.le_of_ble_eq_true rfl) dX11_begin_9 ⟨by show _ ≤ 27; omega, by show _ ≤ 13082; omega⟩ ⟨by omega, by omega⟩ (fun u hu t hG hF => ?_) (fun u5 hu => ?_)
    · rw [hu] at h
      obtain rfl := Option.some.inj h
      exact ⟨u, rfl, ⟨rfl, hG⟩, hF⟩
    · rw [hu.1] at h
      have p6 := hu.2
      simp only [Sum.elim_inl] at h
      refine z_astore (lo' := [(5, .ref (ad 5 u5.toNatClampNeg)), (4, .ref (ad 5 u2.toNatClampNeg)), (0, .ref (ad 11 0)), (1, .int a1), (2, .int a2), (3, .int a3)]) X dX11_begin_12 (by rw [hml]; decide) rfl rfl ?_
      refine z_iload_n X dX11_begin_14 rfl rfl ?_
      refine z_iload_n X dX11_begin_15 rfl rfl ?_
      refine z_icmp_ne (tgt := 29) X dX11_begin_16 (by decide) (fun q => ?_) (fun q => ?_)
      · have h := zp q h
        obtain rfl := Option.some.inj h
        exact z_throwS (k := 2) (ik := 71) (is := 215) (ic := 75) (text := "both phones are the same") X hnil cx_grow (by decide) g_397 g_20 hat_2 (by decide) dX11_begin_19 dX11_begin_22 dX11_begin_23 dX11_begin_25 dX11_begin_28 ⟨Nat.le_of_ble_eq_true rfl, Nat.le_of_ble_eq_true rfl, by show _ ≤ 27; omega, by show _ ≤ 13082; omega⟩ (fun t hG hF => ⟨2, rfl, ⟨rfl, hG⟩, hF⟩) (by omega) (by omega)
      · have h := zn q h
        refine z_aload X dX11_begin_29 rfl ?_
        refine c_get X 5 4 (v := va_rf (qn (ad 4) (V 104 u2.toNatClampNeg))) rx5_ws rfl rfl rfl (vp_lt p3) g_254 rfl dX11_begin_31 ?_
        refine zz.pre (fun H hG => cx_fact (k := 5) (i := u2.toNatClampNeg) (f := 4) rfl (vp_lt p3) rfl hG) (fun (p7 : (V 104 u2.toNatClampNeg) = -1 ∨ vp_in (V 104 u2.toNatClampNeg) (N 4)) => ?_)
        refine c_ifnonnull (tgt := 45) X dX11_begin_34 (by decide) (fun q => ?_) (fun q => ?_)
        · have h := zp q h
          refine z_aload X dX11_begin_37 rfl ?_
          refine c_get X 5 4 (v := va_rf (qn (ad 4) (V 104 u5.toNatClampNeg))) rx5_ws rfl rfl rfl (vp_lt p6) g_254 rfl dX11_begin_39 ?_
          refine zz.pre (fun H hG => cx_fact (k := 5) (i := u5.toNatClampNeg) (f := 4) rfl (vp_lt p6) rfl hG) (fun (p9 : (V 104 u5.toNatClampNeg) = -1 ∨ vp_in (V 104 u5.toNatClampNeg) (N 4)) => ?_)
          refine c_ifnull (tgt := 55) X dX11_begin_42 (by decide) (fun q => ?_) (fun q => ?_)
          · have h := zp q h
            refine z_aload X dX11_begin_55 rfl ?_
            refine c_get X 5 1 (v := .ref (ad 2 (V 101 u2.toNatClampNeg).toNatClampNeg)) rx5_ws rfl rfl rfl (vp_lt p3) g_248 rfl dX11_begin_57 ?_
            refine zz.pre (fun H hG => cx_fact (k := 5) (i := u2.toNatClampNeg) (f := 1) rfl (vp_lt p3) rfl hG) (fun (p11 : vp_in (V 101 u2.toNatClampNeg) (N 2)) => ?_)
            refine z_aload X dX11_begin_60 rfl ?_
            refine c_get X 5 1 (v := .ref (ad 2 (V 101 u5.toNatClampNeg).toNatClampNeg)) rx5_ws rfl rfl rfl (vp_lt p6) g_248 rfl dX11_begin_62 ?_
            refine zz.pre (fun H hG => cx_fact (k := 5) (i := u5.toNatClampNeg) (f := 1) rfl (vp_lt p6) rfl hG) (fun (p12 : vp_in (V 101 u5.toNatClampNeg) (N 2)) => ?_)
            refine c_acmp_ne (tgt := 72) X (k := 2) rfl p11 p12 dX11_begin_65 (by decide) (fun q => ?_) (fun q => ?_)
            · have h := zp q h
              refine z_iconst (v := 2) X dX11_begin_68 (by decide) ?_
              refine z_goto (tgt := 73) X dX11_begin_69 (by decide) ?_
              refine zz.pick (lo' := [(0, .ref (ad 11 0)), (3, .int a3), (4, .ref (ad 5 u2.toNatClampNeg)), (5, .ref (ad 5 u5.toNatClampNeg))]) [0, 3, 4, 5] rfl ?_
              exact bc_begin_73 X hml hr hnil ⟨by omega, by omega⟩ h11 hax hN0 p3 p6 h
            · have h := zn q h
              refine z_iconst (v := 1) X dX11_begin_72 (by decide) ?_
              refine zz.pick (lo' := [(0, .ref (ad 11 0)), (3, .int a3), (4, .ref (ad 5 u2.toNatClampNeg)), (5, .ref (ad 5 u5.toNatClampNeg))]) [0, 3, 4, 5] rfl ?_
              exact bc_begin_73 X hml hr hnil ⟨by omega, by omega⟩ h11 hax hN0 p3 p6 h
          · have h := zn q h
            have p10 := p9.resolve_left q
            obtain rfl := Option.some.inj h
            exact z_throwS (k := 3) (ik := 82) (is := 217) (ic := 86) (text := "one of both is in a call") X hnil cx_grow (by decide) g_417 g_21 hat_3 (by decide) dX11_begin_45 dX11_begin_48 dX11_begin_49 dX11_begin_51 dX11_begin_54 ⟨Nat.le_of_ble_eq_true rfl, Nat.le_of_ble_eq_true rfl, by show _ ≤ 27; omega, by show _ ≤ 13082; omega⟩ (fun t hG hF => ⟨3, rfl, ⟨rfl, hG⟩, hF⟩) (by omega) (by omega)
        · have h := zn q h
          have p8 := p7.resolve_left q
          obtain rfl := Option.some.inj h
          exact z_throwS (k := 3) (ik := 82) (is := 217) (ic := 86) (text := "one of both is in a call") X hnil cx_grow (by decide) g_417 g_21 hat_3 (by decide) dX11_begin_45 dX11_begin_48 dX11_begin_49 dX11_begin_51 dX11_begin_54 ⟨Nat.le_of_ble_eq_true rfl, Nat.le_of_ble_eq_true rfl, by show _ ≤ 27; omega, by show _ ≤ 13082; omega⟩ (fun t hG hF => ⟨3, rfl, ⟨rfl, hG⟩, hF⟩) (by omega) (by omega)
theorem cc_begin (l : Launch) {D : va_G} {dA : Nat → ClassId} {A : Nat → Prop} {n : Nat} (hst : l.stackTraces = false) (hA : ∀ q, n ≤ q → A q) {V : Rho} {L : Lst} {N : Cnt} {ad : Adr} {xs : va_W} (h11 : 0 < N 11) {a1 : Int32} {a2 : Int32} {a3 : Int32} {o : (CW × Int32) ⊕ Nat} (h : fc_begin V L N a1 a2 a3 = some o) : vx_Met l yX11_begin (.code yX11_begin cX11_begin 10 (some .int) :: gT) ({ frames := 13, cells := 27, slots := 13082, locals := 546 } : Room) (va_Pc [.ref (ad 11 0), .int a1, .int a2, .int a3] (zB D dA A n (cx D dA A V L N ad xs))) (va_Qi (fun r (w9 : (CW × Int32) × Adr) => r = w9.1.2 ∧ o = .inl w9.1 ∧ axt N ad w9.2 ∧ (∀ k, N k ≤ w9.1.1.2.2 k)) (fun (w9 : (CW × Int32) × Adr) t => cx D dA A w9.1.1.1 w9.1.1.2.1 w9.1.1.2.2 w9.2 xs t.heap) A) (vx_X (fun (u : Nat) => o = .inr u) (fun E u t => E = exn u ∧ cx D dA A V L N ad xs t.heap) A) 27 13082 A :=
  zx_met (by decide) hA hst (Nat.le_of_ble_eq_true rfl) rfl rfl (fun p e s m below meth c X hml hr hnil => bc_begin X hml hr hnil ⟨by omega, by omega⟩ h11 h)
-- MeshBiller.join(IIZ)I
def fc_join (V : Rho) (L : Lst) (N : Cnt) (a1 : Int32) (a2 : Int32) (a3 : Int32) : Option ((CW × Int32) ⊕ Nat) := (fc_phoneAt V L N a1).bind fun o1 => Sum.elim (fun u2 => (fc_callAt V L N a2).bind fun o4 => Sum.elim (fun u5 => (fc_Call_countParties V L N u5).bind fun o7 => (if (V 104 u2.toNatClampNeg) = -1 then (if o7 = 0 then some (.inr 3)
  else (if o7 < 4 then (fc_openChannels V L N (V 101 u2.toNatClampNeg)).bind fun o11 => (if o11 < 1 then some (.inr 3)
  else (some (nI (L 14 0).length)).bind fun x12 => (if x12 < 80 then (fc_openLeg V L N u2 u5 a3).bind fun o13 => (fc_takeSliceOrCut o13.1.1 o13.1.2.1 o13.1.2.2 o13.2).bind fun o16 => some (.inl ((o16.1, o16.2.1, o16.2.2), (o16.1 80 o13.2.toNatClampNeg)))
  else some (.inr 3)))
  else some (.inr 3)))
  else some (.inr 3))) (fun e9 => some (.inr e9)) o4) (fun e9 => some (.inr e9)) o1
set_option maxRecDepth 100000 in
set_option maxHeartbeats 4000000 in
theorem bc_join {p : Program} {l : Launch} {e : Env} {s : State} {m : MethodId} {args : Array Value} {below : List Frame} {meth : Method} {c : Code} {D : va_G} {dA : Nat → ClassId} {A : Nat → Prop} {xs : va_W} {o : (CW × Int32) ⊕ Nat} (X : zc p l s m args meth c cX11_join RX11 D dA A) (hml : c.maxLocals = 8) (hr : meth.sig.returnType = (some .int)) (hnil : ∀ x ∈ c.exceptionTable.toList, False) {cells slots : Nat} (hcs : cells + 13 ≤ 13 ∧ slots + 5789 ≤ 5789) {V : Rho} {L : Lst} {N : Cnt} {ad : Adr} (h11 : 0 < N 11) {a1 : Int32} {a2 : Int32} {a3 : Int32} (h : fc_join V L N a1 a2 a3 = some o) : zz p l e ({ frames := 13, cells := 13, slots := 5789, locals := 546 } : Room) s m args below meth c A (cx D dA A V L N ad xs) cells slots (vx_MQ below (va_Qi (fun r (w9 : (CW × Int32) × Adr) => r = w9.1.2 ∧ o = .inl w9.1 ∧ axt N ad w9.2 ∧ (∀ k, N k ≤ w9.1.1.2.2 k)) (fun (w9 : (CW × Int32) × Adr) t => cx D dA A w9.1.1.1 w9.1.1.2.1 w9.1.1.2.2 w9.2 xs t.heap) A) (vx_X (fun (u : Nat) => o = .inr u) (fun E u t => E = exn u ∧ cx D dA A V L N ad xs t.heap) A) args s 13 5789 A) 0 [(0, .ref (ad 11 0)), (1, .int a1), (2, .int a2), (3, .int a3)] [] [] := by
  obtain ⟨hcs1, hcs2⟩ := hcs
  have hax := axt.rf N ad
  have hN0 := fun k => Nat.le_refl (N k)
  unfold fc_join at h
  refine z_aload_n X dX11_join_0 rfl rfl ?_
  refine z_iload_n X dX11_join_1 rfl rfl ?_
  obtain ⟨o1, co1, h⟩ := zb2 h
  refine z_xVq (As := [.int a1]) (rest := []) (nA := 1) (mc := 1) (ms := 6) (rm := ({ frames := 6, cells := 1, slots := 6, locals := 252 } : Room)) (S := Int32) (r0 := fun u => some (ad 5 u.toNatClampNeg)) (pu := fun u => o1 = .inl u ∧ vp_in u (N 5)) (G1 := fun u => cx D dA A V L N ad xs) X hnil (cc_phoneAt l X.2.2.2.2.2.2.2.2 X.2.2.2.2.2.2.1 h11 co1) g_477 g_479 gs_6 g_1 g_480 hd_yX11_phoneAt ⟨rfl, rfl, Nat.le_of_ble_eq_true rfl, Nat.le_of_ble_eq_true rfl⟩ rfl (fun _ hG => cx_recv X (k := 11) (n := 9) rfl rfl h11 hG)  rfl (Nat.le_of_ble_eq_true rfl) dX11_join_2 ⟨by show _ ≤ 13; omega, by show _ ≤ 5789; omega⟩ ⟨by omega, by omega⟩ (fun u hu t hG hF => ?_) (fun u2 hu => ?_)
  · rw [hu] at h
    obtain rfl := Option.some.inj h
    exact ⟨u, rfl, ⟨rfl, hG⟩, hF⟩
  · rw [hu.1] at h
    have p3 := hu.2
    simp only [Sum.elim_inl] at h
    refine z_astore (lo' := [(4, .ref (ad 5 u2.toNatClampNeg)), (0, .ref (ad 11 0)), (1, .int a1), (2, .int a2), (3, .int a3)]) X dX11_join_5 (by rw [hml]; decide) rfl rfl ?_
    refine z_aload_n X dX11_join_7 rfl rfl ?_
    refine z_iload_n X dX11_join_8 rfl rfl ?_
    obtain ⟨o4, co4, h⟩ := zb2 h
    refine z_xVq (As := [.int a2]) (rest := []) (nA := 1) (mc := 1) (ms := 6) (rm := ({ frames := 9, cells := 1, slots := 6, locals := 378 } : Room)) (S := Int32) (r0 := fun u => some (ad 1 u.toNatClampNeg)) (pu := fun u => o4 = .inl u ∧ vp_in u (N 1)) (G1 := fun u => cx D dA A V L N ad xs) X hnil (cc_callAt l X.2.2.2.2.2.2.2.2 X.2.2.2.2.2.2.1 h11 co4) g_1079 g_1081 gs_20 g_1 g_1082 hd_yX11_callAt ⟨rfl, rfl, Nat.le_of_ble_eq_true rfl, Nat.le_of_ble_eq_true rfl⟩ rfl (fun _ hG => cx_recv X (k := 11) (n := 9) rfl rfl h11 hG)  rfl (Nat.le_of_ble_eq_true rfl) dX11_join_9 ⟨by show _ ≤ 13; omega, by show _ ≤ 5789; omega⟩ ⟨by omega, by omega⟩ (fun u hu t hG hF => ?_) (fun u5 hu => ?_)
    · rw [hu] at h
      obtain rfl := Option.some.inj h
      exact ⟨u, rfl, ⟨rfl, hG⟩, hF⟩
    · rw [hu.1] at h
      have p6 := hu.2
      simp only [Sum.elim_inl] at h
      refine z_astore (lo' := [(5, .ref (ad 1 u5.toNatClampNeg)), (4, .ref (ad 5 u2.toNatClampNeg)), (0, .ref (ad 11 0)), (1, .int a1), (2, .int a2), (3, .int a3)]) X dX11_join_12 (by rw [hml]; decide) rfl rfl ?_
      refine z_aload X dX11_join_14 rfl ?_
      obtain ⟨o7, co7, h⟩ := zb2 h
      refine z_callVi (As := []) (rest := []) (nA := 0) (mc := 0) (ms := 0) (rm := ({ frames := 9, cells := 0, slots := 0, locals := 378 } : Room)) (r0 := o7) (pu := fun (_ : Unit) => True) (G1 := fun _ => cx D dA A V L N ad xs) X (cc_Call_countParties l X.2.2.2.2.2.2.2.2 X.2.2.2.2.2.2.1 h11 p6 co7) g_1084 g_1085 g_1086 g_32 g_1087 hd_yX1_countParties ⟨rfl, rfl, Nat.le_of_ble_eq_true rfl, Nat.le_of_ble_eq_true rfl⟩ rfl (fun _ hG => cx_recv X (k := 1) (n := 3) rfl rfl (vp_lt p6) hG) rfl (Nat.le_of_ble_eq_true rfl) dX11_join_16 ⟨by show _ ≤ 13; omega, by show _ ≤ 5789; omega⟩ (fun _ _ => ?_)
      refine z_istore (lo' := [(6, .int o7), (5, .ref (ad 1 u5.toNatClampNeg)), (4, .ref (ad 5 u2.toNatClampNeg)), (0, .ref (ad 11 0)), (1, .int a1), (2, .int a2), (3, .int a3)]) X dX11_join_19 (by rw [hml]; decide) rfl rfl ?_
      refine z_aload X dX11_join_21 rfl ?_
      refine c_get X 5 4 (v := va_rf (qn (ad 4) (V 104 u2.toNatClampNeg))) rx5_ws rfl rfl rfl (vp_lt p3) g_254 rfl dX11_join_23 ?_
      refine zz.pre (fun H hG => cx_fact (k := 5) (i := u2.toNatClampNeg) (f := 4) rfl (vp_lt p3) rfl hG) (fun (p8 : (V 104 u2.toNatClampNeg) = -1 ∨ vp_in (V 104 u2.toNatClampNeg) (N 4)) => ?_)
      refine c_ifnonnull (tgt := 40) X dX11_join_26 (by decide) (fun q => ?_) (fun q => ?_)
      · have h := zp q h
        refine z_iload X dX11_join_29 rfl ?_
        refine z_if_eq (tgt := 40) X dX11_join_31 (by decide) (fun q => ?_) (fun q => ?_)
        · have h := zp q h
          obtain rfl := Option.some.inj h
          exact z_throwS (k := 3) (ik := 82) (is := 254) (ic := 86) (text := "the phone is in a call, or the call is over or full") X hnil cx_grow (by decide) g_417 g_21 hat_3 (by decide) dX11_join_40 dX11_join_43 dX11_join_44 dX11_join_46 dX11_join_49 ⟨Nat.le_of_ble_eq_true rfl, Nat.le_of_ble_eq_true rfl, by show _ ≤ 13; omega, by show _ ≤ 5789; omega⟩ (fun t hG hF => ⟨3, rfl, ⟨rfl, hG⟩, hF⟩) (by omega) (by omega)
        · have h := zn q h
          refine z_iload X dX11_join_34 rfl ?_
          refine z_iconst (v := 4) X dX11_join_36 (by decide) ?_
          refine z_icmp_lt (tgt := 50) X dX11_join_37 (by decide) (fun q => ?_) (fun q => ?_)
          · have h := zp q h
            refine z_aload_n X dX11_join_50 rfl rfl ?_
            refine z_aload X dX11_join_51 rfl ?_
            refine c_get X 5 1 (v := .ref (ad 2 (V 101 u2.toNatClampNeg).toNatClampNeg)) rx5_ws rfl rfl rfl (vp_lt p3) g_248 rfl dX11_join_53 ?_
            refine zz.pre (fun H hG => cx_fact (k := 5) (i := u2.toNatClampNeg) (f := 1) rfl (vp_lt p3) rfl hG) (fun (p10 : vp_in (V 101 u2.toNatClampNeg) (N 2)) => ?_)
            obtain ⟨o11, co11, h⟩ := zb2 h
            refine z_callVi (As := [.ref (ad 2 (V 101 u2.toNatClampNeg).toNatClampNeg)]) (rest := []) (nA := 1) (mc := 0) (ms := 0) (rm := ({ frames := 2, cells := 0, slots := 0, locals := 84 } : Room)) (r0 := o11) (pu := fun (_ : Unit) => True) (G1 := fun _ => cx D dA A V L N ad xs) X (cc_openChannels l X.2.2.2.2.2.2.2.2 X.2.2.2.2.2.2.1 h11 p10 co11) g_866 g_868 gs_10 g_1 g_869 hd_yX11_openChannels ⟨rfl, rfl, Nat.le_of_ble_eq_true rfl, Nat.le_of_ble_eq_true rfl⟩ rfl (fun _ hG => cx_recv X (k := 11) (n := 9) rfl rfl h11 hG) rfl (Nat.le_of_ble_eq_true rfl) dX11_join_56 ⟨by show _ ≤ 13; omega, by show _ ≤ 5789; omega⟩ (fun _ _ => ?_)
            refine z_iconst (v := 1) X dX11_join_59 (by decide) ?_
            refine z_icmp_lt (tgt := 75) X dX11_join_60 (by decide) (fun q => ?_) (fun q => ?_)
            · have h := zp q h
              obtain rfl := Option.some.inj h
              exact z_throwSW (k := 3) (ik := 82) (is := 256) (ic := 86) (text := "there is no channel, or there are too many legs") X hnil cx_grow (by decide) g_417 g_21 hat_3 (by decide) dX11_join_75 dX11_join_78 dX11_join_79 dX11_join_82 dX11_join_85 ⟨Nat.le_of_ble_eq_true rfl, Nat.le_of_ble_eq_true rfl, by show _ ≤ 13; omega, by show _ ≤ 5789; omega⟩ (fun t hG hF => ⟨3, rfl, ⟨rfl, hG⟩, hF⟩) (by omega) (by omega)
            · have h := zn q h
              refine z_aload_n X dX11_join_63 rfl rfl ?_
              refine c_get X 11 6 (v := .ref (ad 14 0)) rx11_ws rfl rfl rfl h11 g_278 rfl dX11_join_64 ?_
              obtain ⟨x12, ex12, h⟩ := zb h
              refine z_callVi (As := []) (rest := []) (nA := 0) (mc := 0) (ms := 0) (rm := ({ frames := 8, cells := 0, slots := 0, locals := 336 } : Room)) (r0 := (nI (L 14 0).length)) (pu := fun (_ : Unit) => True) (G1 := fun _ => cx D dA A V L N ad xs) X (cl_size l X.2.2.2.2.2.2.2.2 X.2.2.2.2.2.2.1 (k := 14) (i := 0) rfl rfl h11) g_308 g_309 g_310 g_4 g_311 hd_yJx4a65c_size_8abf5 ⟨rfl, rfl, Nat.le_of_ble_eq_true rfl, Nat.le_of_ble_eq_true rfl⟩ rfl (fun _ hG => cx_recvL X (k := 14) rfl rfl h11 hG) rfl (Nat.le_of_ble_eq_true rfl) dX11_join_67 ⟨by show _ ≤ 13; omega, by show _ ≤ 5789; omega⟩ (fun _ _ => ?_)
              rw [ex12]
              refine z_bipush (v := 80) X dX11_join_70 (by decide) ?_
              refine z_icmp_lt (tgt := 86) X dX11_join_72 (by decide) (fun q => ?_) (fun q => ?_)
              · have h := zp q h
                refine z_aload_n X dX11_join_86 rfl rfl ?_
                refine z_aload X dX11_join_87 rfl ?_
                refine z_aload X dX11_join_89 rfl ?_
                refine z_iload_n X dX11_join_91 rfl rfl ?_
                obtain ⟨o13, co13, h⟩ := zb2 h
                refine z_callVq (As := [.ref (ad 5 u2.toNatClampNeg), .ref (ad 1 u5.toNatClampNeg), .int a3]) (rest := []) (nA := 3) (mc := 7) (ms := 3951) (rm := ({ frames := 10, cells := 7, slots := 3951, locals := 420 } : Room)) (ro := fun u => some (u 4 o13.2.toNatClampNeg)) (pu := fun (u : Adr) => axt N ad u ∧ (∀ k, N k ≤ o13.1.2.2 k) ∧ vp_in o13.2 (o13.1.2.2 4)) (G1 := fun u => cx D dA A o13.1.1 o13.1.2.1 o13.1.2.2 u xs) X (cc_openLeg l X.2.2.2.2.2.2.2.2 X.2.2.2.2.2.2.1 h11 p3 p6 co13) g_893 g_895 gs_11 g_1 g_896 hd_yX11_openLeg ⟨rfl, rfl, Nat.le_of_ble_eq_true rfl, Nat.le_of_ble_eq_true rfl⟩ rfl (fun _ hG => cx_recv X (k := 11) (n := 9) rfl rfl h11 hG) rfl (Nat.le_of_ble_eq_true rfl) dX11_join_92 ⟨by show _ ≤ 13; omega, by show _ ≤ 5789; omega⟩ (fun ad15 h9 => ?_)
                have p14 := h9.2.2
                have h9 := And.intro h9.1 h9.2.1
                have hax9 := h9.1
                have hax := hax.trans9 hN0 hax9
                try rw [← hax9 1 _ (ex_obj rfl (vp_lt p6)) (by decide)]
                try rw [← hax9 5 _ (ex_obj rfl (vp_lt p3)) (by decide)]
                try rw [← hax9 11 0 (ex_obj rfl h11) (by decide)]
                have hN9 := h9.2
                have hN0 := fun k => Nat.le_trans (hN0 k) (hN9 k)
                have h11 := Nat.lt_of_lt_of_le h11 (hN9 11)
                have p3 := vp_mono p3 (hN9 5)
                have p6 := vp_mono p6 (hN9 1)
                have p8 := p8.imp_right (fun z => vp_mono z (hN9 4))
                have p10 := vp_mono p10 (hN9 2)
                clear hax9 hN9 h9
                refine z_astore (lo' := [(7, .ref (ad15 4 o13.2.toNatClampNeg)), (6, .int o7), (5, .ref (ad15 1 u5.toNatClampNeg)), (4, .ref (ad15 5 u2.toNatClampNeg)), (0, .ref (ad15 11 0)), (1, .int a1), (2, .int a2), (3, .int a3)]) X dX11_join_95 (by rw [hml]; decide) rfl rfl ?_
                refine z_aload_n X dX11_join_97 rfl rfl ?_
                refine z_aload X dX11_join_98 rfl ?_
                obtain ⟨o16, co16, h⟩ := zb2 h
                refine z_callVv (As := [.ref (ad15 4 o13.2.toNatClampNeg)]) (rest := []) (nA := 1) (mc := 4) (ms := 1826) (rm := ({ frames := 12, cells := 4, slots := 1826, locals := 504 } : Room)) (pu := fun (u : Adr) => axt o13.1.2.2 ad15 u ∧ (∀ k, o13.1.2.2 k ≤ o16.2.2 k)) (G1 := fun u => cx D dA A o16.1 o16.2.1 o16.2.2 u xs) X (cc_takeSliceOrCut l X.2.2.2.2.2.2.2.2 X.2.2.2.2.2.2.1 h11 p14 co16) g_1003 g_1005 gs_12 g_1 g_1006 hd_yX11_takeSliceOrCut ⟨rfl, rfl, Nat.le_of_ble_eq_true rfl, Nat.le_of_ble_eq_true rfl⟩ rfl (fun _ hG => cx_recv X (k := 11) (n := 9) rfl rfl h11 hG) rfl (Nat.le_of_ble_eq_true rfl) dX11_join_100 ⟨by show _ ≤ 13; omega, by show _ ≤ 5789; omega⟩ (fun ad17 h9 => ?_)
                have hax9 := h9.1
                have hax := hax.trans9 hN0 hax9
                try rw [← hax9 4 _ (ex_obj rfl (vp_lt p14)) (by decide)]
                try rw [← hax9 1 _ (ex_obj rfl (vp_lt p6)) (by decide)]
                try rw [← hax9 5 _ (ex_obj rfl (vp_lt p3)) (by decide)]
                try rw [← hax9 11 0 (ex_obj rfl h11) (by decide)]
                have hN9 := h9.2
                have hN0 := fun k => Nat.le_trans (hN0 k) (hN9 k)
                have h11 := Nat.lt_of_lt_of_le h11 (hN9 11)
                have p3 := vp_mono p3 (hN9 5)
                have p6 := vp_mono p6 (hN9 1)
                have p8 := p8.imp_right (fun z => vp_mono z (hN9 4))
                have p10 := vp_mono p10 (hN9 2)
                have p14 := vp_mono p14 (hN9 4)
                clear hax9 hN9 h9
                refine z_aload X dX11_join_103 rfl ?_
                refine c_get X 4 0 (v := .int (o16.1 80 o13.2.toNatClampNeg)) rx4_ws rfl rfl rfl (vp_lt p14) g_927 rfl dX11_join_105 ?_
                obtain rfl := Option.some.inj h
                refine zx_ret ?_
                refine zz.widen (k := 13) (n := 5789) (by omega) (by omega) ?_
                exact z_iret X hr rfl (fun t hG hF _ => ⟨⟨_, (_, ad17), rfl, ⟨rfl, ⟨rfl, ⟨hax, hN0⟩⟩⟩, hG⟩, hF⟩) dX11_join_108
              · have h := zn q h
                obtain rfl := Option.some.inj h
                exact z_throwSW (k := 3) (ik := 82) (is := 256) (ic := 86) (text := "there is no channel, or there are too many legs") X hnil cx_grow (by decide) g_417 g_21 hat_3 (by decide) dX11_join_75 dX11_join_78 dX11_join_79 dX11_join_82 dX11_join_85 ⟨Nat.le_of_ble_eq_true rfl, Nat.le_of_ble_eq_true rfl, by show _ ≤ 13; omega, by show _ ≤ 5789; omega⟩ (fun t hG hF => ⟨3, rfl, ⟨rfl, hG⟩, hF⟩) (by omega) (by omega)
          · have h := zn q h
            obtain rfl := Option.some.inj h
            exact z_throwS (k := 3) (ik := 82) (is := 254) (ic := 86) (text := "the phone is in a call, or the call is over or full") X hnil cx_grow (by decide) g_417 g_21 hat_3 (by decide) dX11_join_40 dX11_join_43 dX11_join_44 dX11_join_46 dX11_join_49 ⟨Nat.le_of_ble_eq_true rfl, Nat.le_of_ble_eq_true rfl, by show _ ≤ 13; omega, by show _ ≤ 5789; omega⟩ (fun t hG hF => ⟨3, rfl, ⟨rfl, hG⟩, hF⟩) (by omega) (by omega)
      · have h := zn q h
        have p9 := p8.resolve_left q
        obtain rfl := Option.some.inj h
        exact z_throwS (k := 3) (ik := 82) (is := 254) (ic := 86) (text := "the phone is in a call, or the call is over or full") X hnil cx_grow (by decide) g_417 g_21 hat_3 (by decide) dX11_join_40 dX11_join_43 dX11_join_44 dX11_join_46 dX11_join_49 ⟨Nat.le_of_ble_eq_true rfl, Nat.le_of_ble_eq_true rfl, by show _ ≤ 13; omega, by show _ ≤ 5789; omega⟩ (fun t hG hF => ⟨3, rfl, ⟨rfl, hG⟩, hF⟩) (by omega) (by omega)
theorem cc_join (l : Launch) {D : va_G} {dA : Nat → ClassId} {A : Nat → Prop} {n : Nat} (hst : l.stackTraces = false) (hA : ∀ q, n ≤ q → A q) {V : Rho} {L : Lst} {N : Cnt} {ad : Adr} {xs : va_W} (h11 : 0 < N 11) {a1 : Int32} {a2 : Int32} {a3 : Int32} {o : (CW × Int32) ⊕ Nat} (h : fc_join V L N a1 a2 a3 = some o) : vx_Met l yX11_join (.code yX11_join cX11_join 8 (some .int) :: gT) ({ frames := 13, cells := 13, slots := 5789, locals := 546 } : Room) (va_Pc [.ref (ad 11 0), .int a1, .int a2, .int a3] (zB D dA A n (cx D dA A V L N ad xs))) (va_Qi (fun r (w9 : (CW × Int32) × Adr) => r = w9.1.2 ∧ o = .inl w9.1 ∧ axt N ad w9.2 ∧ (∀ k, N k ≤ w9.1.1.2.2 k)) (fun (w9 : (CW × Int32) × Adr) t => cx D dA A w9.1.1.1 w9.1.1.2.1 w9.1.1.2.2 w9.2 xs t.heap) A) (vx_X (fun (u : Nat) => o = .inr u) (fun E u t => E = exn u ∧ cx D dA A V L N ad xs t.heap) A) 13 5789 A :=
  zx_met (by decide) hA hst (Nat.le_of_ble_eq_true rfl) rfl rfl (fun p e s m below meth c X hml hr hnil => bc_join X hml hr hnil ⟨by omega, by omega⟩ h11 h)
-- MeshBiller.leave(I)I
def fc_leave (V : Rho) (L : Lst) (N : Cnt) (a1 : Int32) : Option ((CW × Int32) ⊕ Nat) := (fc_phoneAt V L N a1).bind fun o1 => Sum.elim (fun u2 => (if (V 104 u2.toNatClampNeg) = -1 then some (.inr 3)
  else (fc_closeLeg V L N (V 104 u2.toNatClampNeg) 1).bind fun o6 => (fc_Call_countParties o6.1 o6.2.1 o6.2.2 (o6.1 82 (V 104 u2.toNatClampNeg).toNatClampNeg)).bind fun o9 => some (.inl ((o6.1, o6.2.1, o6.2.2), o9)))) (fun e9 => some (.inr e9)) o1
set_option maxRecDepth 100000 in
set_option maxHeartbeats 4000000 in
theorem bc_leave {p : Program} {l : Launch} {e : Env} {s : State} {m : MethodId} {args : Array Value} {below : List Frame} {meth : Method} {c : Code} {D : va_G} {dA : Nat → ClassId} {A : Nat → Prop} {xs : va_W} {o : (CW × Int32) ⊕ Nat} (X : zc p l s m args meth c cX11_leave RX11 D dA A) (hml : c.maxLocals = 3) (hr : meth.sig.returnType = (some .int)) (hnil : ∀ x ∈ c.exceptionTable.toList, False) {cells slots : Nat} (hcs : cells + 5 ≤ 5 ∧ slots + 1832 ≤ 1832) {V : Rho} {L : Lst} {N : Cnt} {ad : Adr} (h11 : 0 < N 11) {a1 : Int32} (h : fc_leave V L N a1 = some o) : zz p l e ({ frames := 12, cells := 5, slots := 1832, locals := 504 } : Room) s m args below meth c A (cx D dA A V L N ad xs) cells slots (vx_MQ below (va_Qi (fun r (w9 : (CW × Int32) × Adr) => r = w9.1.2 ∧ o = .inl w9.1 ∧ axt N ad w9.2 ∧ (∀ k, N k ≤ w9.1.1.2.2 k)) (fun (w9 : (CW × Int32) × Adr) t => cx D dA A w9.1.1.1 w9.1.1.2.1 w9.1.1.2.2 w9.2 xs t.heap) A) (vx_X (fun (u : Nat) => o = .inr u) (fun E u t => E = exn u ∧ cx D dA A V L N ad xs t.heap) A) args s 5 1832 A) 0 [(0, .ref (ad 11 0)), (1, .int a1)] [] [] := by
  obtain ⟨hcs1, hcs2⟩ := hcs
  have hax := axt.rf N ad
  have hN0 := fun k => Nat.le_refl (N k)
  unfold fc_leave at h
  refine z_aload_n X dX11_leave_0 rfl rfl ?_
  refine z_iload_n X dX11_leave_1 rfl rfl ?_
  obtain ⟨o1, co1, h⟩ := zb2 h
  refine z_xVq (As := [.int a1]) (rest := []) (nA := 1) (mc := 1) (ms := 6) (rm := ({ frames := 6, cells := 1, slots := 6, locals := 252 } : Room)) (S := Int32) (r0 := fun u => some (ad 5 u.toNatClampNeg)) (pu := fun u => o1 = .inl u ∧ vp_in u (N 5)) (G1 := fun u => cx D dA A V L N ad xs) X hnil (cc_phoneAt l X.2.2.2.2.2.2.2.2 X.2.2.2.2.2.2.1 h11 co1) g_477 g_479 gs_6 g_1 g_480 hd_yX11_phoneAt ⟨rfl, rfl, Nat.le_of_ble_eq_true rfl, Nat.le_of_ble_eq_true rfl⟩ rfl (fun _ hG => cx_recv X (k := 11) (n := 9) rfl rfl h11 hG)  rfl (Nat.le_of_ble_eq_true rfl) dX11_leave_2 ⟨by show _ ≤ 5; omega, by show _ ≤ 1832; omega⟩ ⟨by omega, by omega⟩ (fun u hu t hG hF => ?_) (fun u2 hu => ?_)
  · rw [hu] at h
    obtain rfl := Option.some.inj h
    exact ⟨u, rfl, ⟨rfl, hG⟩, hF⟩
  · rw [hu.1] at h
    have p3 := hu.2
    simp only [Sum.elim_inl] at h
    refine c_get X 5 4 (v := va_rf (qn (ad 4) (V 104 u2.toNatClampNeg))) rx5_ws rfl rfl rfl (vp_lt p3) g_254 rfl dX11_leave_5 ?_
    refine zz.pre (fun H hG => cx_fact (k := 5) (i := u2.toNatClampNeg) (f := 4) rfl (vp_lt p3) rfl hG) (fun (p4 : (V 104 u2.toNatClampNeg) = -1 ∨ vp_in (V 104 u2.toNatClampNeg) (N 4)) => ?_)
    refine z_astoreq_n (lo' := [(2, va_rf (qn (ad 4) (V 104 u2.toNatClampNeg))), (0, .ref (ad 11 0)), (1, .int a1)]) X dX11_leave_8 rfl (by rw [hml]; decide) rfl rfl ?_
    refine z_aloadq_n X dX11_leave_9 rfl rfl ?_
    refine c_ifnonnull (tgt := 24) X dX11_leave_10 (by decide) (fun q => ?_) (fun q => ?_)
    · have h := zp q h
      obtain rfl := Option.some.inj h
      exact z_throwSW (k := 3) (ik := 82) (is := 259) (ic := 86) (text := "the phone is in no call") X hnil cx_grow (by decide) g_417 g_21 hat_3 (by decide) dX11_leave_13 dX11_leave_16 dX11_leave_17 dX11_leave_20 dX11_leave_23 ⟨Nat.le_of_ble_eq_true rfl, Nat.le_of_ble_eq_true rfl, by show _ ≤ 5; omega, by show _ ≤ 1832; omega⟩ (fun t hG hF => ⟨3, rfl, ⟨rfl, hG⟩, hF⟩) (by omega) (by omega)
    · have h := zn q h
      have p5 := p4.resolve_left q
      rw [qn_ref q]
      refine z_aload_n X dX11_leave_24 rfl rfl ?_
      refine z_aload_n X dX11_leave_25 rfl rfl ?_
      refine z_iconst (v := 1) X dX11_leave_26 (by decide) ?_
      obtain ⟨o6, co6, h⟩ := zb2 h
      refine z_callVv (As := [.ref (ad 4 (V 104 u2.toNatClampNeg).toNatClampNeg), .int 1]) (rest := []) (nA := 2) (mc := 4) (ms := 1826) (rm := ({ frames := 11, cells := 4, slots := 1826, locals := 462 } : Room)) (pu := fun (u : Adr) => axt N ad u ∧ (∀ k, N k ≤ o6.2.2 k)) (G1 := fun u => cx D dA A o6.1 o6.2.1 o6.2.2 u xs) X (cc_closeLeg l X.2.2.2.2.2.2.2.2 X.2.2.2.2.2.2.1 h11 p5 co6) g_1049 g_1051 gs_17 g_1 g_1052 hd_yX11_closeLeg ⟨rfl, rfl, Nat.le_of_ble_eq_true rfl, Nat.le_of_ble_eq_true rfl⟩ rfl (fun _ hG => cx_recv X (k := 11) (n := 9) rfl rfl h11 hG) rfl (Nat.le_of_ble_eq_true rfl) dX11_leave_27 ⟨by show _ ≤ 5; omega, by show _ ≤ 1832; omega⟩ (fun ad7 h9 => ?_)
      have hax9 := h9.1
      have hax := hax.trans9 hN0 hax9
      try rw [← hax9 4 _ (ex_obj rfl (vp_lt p5)) (by decide)]
      try rw [← hax9 11 0 (ex_obj rfl h11) (by decide)]
      have hN9 := h9.2
      have hN0 := fun k => Nat.le_trans (hN0 k) (hN9 k)
      have h11 := Nat.lt_of_lt_of_le h11 (hN9 11)
      have p3 := vp_mono p3 (hN9 5)
      have p4 := p4.imp_right (fun z => vp_mono z (hN9 4))
      have p5 := vp_mono p5 (hN9 4)
      clear hax9 hN9 h9
      refine z_aload_n X dX11_leave_30 rfl rfl ?_
      refine c_get X 4 2 (v := .ref (ad7 1 (o6.1 82 (V 104 u2.toNatClampNeg).toNatClampNeg).toNatClampNeg)) rx4_ws rfl rfl rfl (vp_lt p5) g_931 rfl dX11_leave_31 ?_
      refine zz.pre (fun H hG => cx_fact (k := 4) (i := (V 104 u2.toNatClampNeg).toNatClampNeg) (f := 2) rfl (vp_lt p5) rfl hG) (fun (p8 : vp_in (o6.1 82 (V 104 u2.toNatClampNeg).toNatClampNeg) (o6.2.2 1)) => ?_)
      obtain ⟨o9, co9, h⟩ := zb2 h
      refine z_callVi (As := []) (rest := []) (nA := 0) (mc := 0) (ms := 0) (rm := ({ frames := 9, cells := 0, slots := 0, locals := 378 } : Room)) (r0 := o9) (pu := fun (_ : Unit) => True) (G1 := fun _ => cx D dA A o6.1 o6.2.1 o6.2.2 ad7 xs) X (cc_Call_countParties l X.2.2.2.2.2.2.2.2 X.2.2.2.2.2.2.1 h11 p8 co9) g_1084 g_1085 g_1086 g_32 g_1087 hd_yX1_countParties ⟨rfl, rfl, Nat.le_of_ble_eq_true rfl, Nat.le_of_ble_eq_true rfl⟩ rfl (fun _ hG => cx_recv X (k := 1) (n := 3) rfl rfl (vp_lt p8) hG) rfl (Nat.le_of_ble_eq_true rfl) dX11_leave_34 ⟨by show _ ≤ 5; omega, by show _ ≤ 1832; omega⟩ (fun _ _ => ?_)
      obtain rfl := Option.some.inj h
      refine zx_ret ?_
      refine zz.widen (k := 5) (n := 1832) (by omega) (by omega) ?_
      exact z_iret X hr rfl (fun t hG hF _ => ⟨⟨_, (_, ad7), rfl, ⟨rfl, ⟨rfl, ⟨hax, hN0⟩⟩⟩, hG⟩, hF⟩) dX11_leave_37
theorem cc_leave (l : Launch) {D : va_G} {dA : Nat → ClassId} {A : Nat → Prop} {n : Nat} (hst : l.stackTraces = false) (hA : ∀ q, n ≤ q → A q) {V : Rho} {L : Lst} {N : Cnt} {ad : Adr} {xs : va_W} (h11 : 0 < N 11) {a1 : Int32} {o : (CW × Int32) ⊕ Nat} (h : fc_leave V L N a1 = some o) : vx_Met l yX11_leave (.code yX11_leave cX11_leave 3 (some .int) :: gT) ({ frames := 12, cells := 5, slots := 1832, locals := 504 } : Room) (va_Pc [.ref (ad 11 0), .int a1] (zB D dA A n (cx D dA A V L N ad xs))) (va_Qi (fun r (w9 : (CW × Int32) × Adr) => r = w9.1.2 ∧ o = .inl w9.1 ∧ axt N ad w9.2 ∧ (∀ k, N k ≤ w9.1.1.2.2 k)) (fun (w9 : (CW × Int32) × Adr) t => cx D dA A w9.1.1.1 w9.1.1.2.1 w9.1.1.2.2 w9.2 xs t.heap) A) (vx_X (fun (u : Nat) => o = .inr u) (fun E u t => E = exn u ∧ cx D dA A V L N ad xs t.heap) A) 5 1832 A :=
  zx_met (by decide) hA hst (Nat.le_of_ble_eq_true rfl) rfl rfl (fun p e s m below meth c X hml hr hnil => bc_leave X hml hr hnil ⟨by omega, by omega⟩ h11 h)
-- MeshBiller.move(II)Z
def fc_move_92 (V : Rho) (L : Lst) (N : Cnt) (v3 : Int32) (v4 : Int32) : Option ((CW × Int32) ⊕ Nat) := (some (cs V 101 v3.toNatClampNeg v4)).bind fun V1 => (if (V1 104 v3.toNatClampNeg) = -1 then some (.inl ((V1, L, N), 0))
  else some (.inl ((V1, L, N), 1)))
set_option maxRecDepth 100000 in
set_option maxHeartbeats 4000000 in
theorem bc_move_92 {p : Program} {l : Launch} {e : Env} {s : State} {m : MethodId} {args : Array Value} {below : List Frame} {meth : Method} {c : Code} {D : va_G} {dA : Nat → ClassId} {A : Nat → Prop} {xs : va_W} {o : (CW × Int32) ⊕ Nat} {V0 : Rho} {L0 : Lst} {N0 : Cnt} {ad0 : Adr} (X : zc p l s m args meth c cX11_move RX11 D dA A) (hml : c.maxLocals = 6) (hr : meth.sig.returnType = (some .boolean)) (hnil : ∀ x ∈ c.exceptionTable.toList, False) {cells slots : Nat} (hcs : cells + 0 ≤ 6 ∧ slots + 0 ≤ 1838) {V : Rho} {L : Lst} {N : Cnt} {ad : Adr} (h11 : 0 < N 11) (hax : axt N0 ad0 ad) (hN0 : ∀ k, N0 k ≤ N k) {v3 : Int32} {v4 : Int32} (fv3 : vp_in v3 (N 5)) (fv4 : vp_in v4 (N 2)) (h : fc_move_92 V L N v3 v4 = some o) : zz p l e ({ frames := 12, cells := 6, slots := 1838, locals := 504 } : Room) s m args below meth c A (cx D dA A V L N ad xs) cells slots (vx_MQ below (va_Qi (fun r (w9 : (CW × Int32) × Adr) => r = w9.1.2 ∧ o = .inl w9.1 ∧ axt N0 ad0 w9.2 ∧ (∀ k, N0 k ≤ w9.1.1.2.2 k)) (fun (w9 : (CW × Int32) × Adr) t => cx D dA A w9.1.1.1 w9.1.1.2.1 w9.1.1.2.2 w9.2 xs t.heap) A) (vx_X (fun (u : Nat) => o = .inr u) (fun E u t => E = exn u ∧ cx D dA A V0 L0 N0 ad0 xs t.heap) A) args s 6 1838 A) 92 [(3, .ref (ad 5 v3.toNatClampNeg)), (4, .ref (ad 2 v4.toNatClampNeg))] [] [] := by
  obtain ⟨hcs1, hcs2⟩ := hcs
  unfold fc_move_92 at h
  refine z_aload_n X dX11_move_92 rfl rfl ?_
  refine z_aload X dX11_move_93 rfl ?_
  obtain ⟨V1, eV1, h⟩ := zb h
  refine c_put X 5 1 (x := v4) (v := .ref (ad 2 v4.toNatClampNeg)) (ty := (.object "MeshBiller$Cell")) rx5_ws rfl tyX5_ok nmX5 rfl rfl (vp_lt fv3) rfl g_248 rfl fv4 rfl rfl rfl eV1 dX11_move_95 ?_
  refine z_aload_n X dX11_move_98 rfl rfl ?_
  refine c_get X 5 4 (v := va_rf (qn (ad 4) (V1 104 v3.toNatClampNeg))) rx5_ws rfl rfl rfl (vp_lt fv3) g_254 rfl dX11_move_99 ?_
  refine zz.pre (fun H hG => cx_fact (k := 5) (i := v3.toNatClampNeg) (f := 4) rfl (vp_lt fv3) rfl hG) (fun (p2 : (V1 104 v3.toNatClampNeg) = -1 ∨ vp_in (V1 104 v3.toNatClampNeg) (N 4)) => ?_)
  refine c_ifnull (tgt := 109) X dX11_move_102 (by decide) (fun q => ?_) (fun q => ?_)
  · have h := zp q h
    refine z_iconst (v := 0) X dX11_move_109 (by decide) ?_
    obtain rfl := Option.some.inj h
    refine zx_ret ?_
    refine zz.widen (k := 6) (n := 1838) (by omega) (by omega) ?_
    exact z_iret X hr rfl (fun t hG hF _ => ⟨⟨_, (_, ad), rfl, ⟨rfl, ⟨rfl, ⟨hax, hN0⟩⟩⟩, hG⟩, hF⟩) dX11_move_110
  · have h := zn q h
    have p3 := p2.resolve_left q
    refine z_iconst (v := 1) X dX11_move_105 (by decide) ?_
    refine z_goto (tgt := 110) X dX11_move_106 (by decide) ?_
    obtain rfl := Option.some.inj h
    refine zx_ret ?_
    refine zz.widen (k := 6) (n := 1838) (by omega) (by omega) ?_
    exact z_iret X hr rfl (fun t hG hF _ => ⟨⟨_, (_, ad), rfl, ⟨rfl, ⟨rfl, ⟨hax, hN0⟩⟩⟩, hG⟩, hF⟩) dX11_move_110
def fc_move_85 (V : Rho) (L : Lst) (N : Cnt) (v3 : Int32) (v4 : Int32) (v5 : Int32) : Option ((CW × Int32) ⊕ Nat) := (fc_closeLeg V L N v5 3).bind fun o1 => fc_move_92 o1.1 o1.2.1 o1.2.2 v3 v4
set_option maxRecDepth 100000 in
set_option maxHeartbeats 4000000 in
theorem bc_move_85 {p : Program} {l : Launch} {e : Env} {s : State} {m : MethodId} {args : Array Value} {below : List Frame} {meth : Method} {c : Code} {D : va_G} {dA : Nat → ClassId} {A : Nat → Prop} {xs : va_W} {o : (CW × Int32) ⊕ Nat} {V0 : Rho} {L0 : Lst} {N0 : Cnt} {ad0 : Adr} (X : zc p l s m args meth c cX11_move RX11 D dA A) (hml : c.maxLocals = 6) (hr : meth.sig.returnType = (some .boolean)) (hnil : ∀ x ∈ c.exceptionTable.toList, False) {cells slots : Nat} (hcs : cells + 4 ≤ 6 ∧ slots + 1826 ≤ 1838) {V : Rho} {L : Lst} {N : Cnt} {ad : Adr} (h11 : 0 < N 11) (hax : axt N0 ad0 ad) (hN0 : ∀ k, N0 k ≤ N k) {v3 : Int32} {v4 : Int32} {v5 : Int32} (fv3 : vp_in v3 (N 5)) (fv4 : vp_in v4 (N 2)) (fv5 : vp_in v5 (N 4)) (h : fc_move_85 V L N v3 v4 v5 = some o) : zz p l e ({ frames := 12, cells := 6, slots := 1838, locals := 504 } : Room) s m args below meth c A (cx D dA A V L N ad xs) cells slots (vx_MQ below (va_Qi (fun r (w9 : (CW × Int32) × Adr) => r = w9.1.2 ∧ o = .inl w9.1 ∧ axt N0 ad0 w9.2 ∧ (∀ k, N0 k ≤ w9.1.1.2.2 k)) (fun (w9 : (CW × Int32) × Adr) t => cx D dA A w9.1.1.1 w9.1.1.2.1 w9.1.1.2.2 w9.2 xs t.heap) A) (vx_X (fun (u : Nat) => o = .inr u) (fun E u t => E = exn u ∧ cx D dA A V0 L0 N0 ad0 xs t.heap) A) args s 6 1838 A) 85 [(0, .ref (ad 11 0)), (3, .ref (ad 5 v3.toNatClampNeg)), (4, .ref (ad 2 v4.toNatClampNeg)), (5, .ref (ad 4 v5.toNatClampNeg))] [] [] := by
  obtain ⟨hcs1, hcs2⟩ := hcs
  unfold fc_move_85 at h
  refine z_aload_n X dX11_move_85 rfl rfl ?_
  refine z_aload X dX11_move_86 rfl ?_
  refine z_iconst (v := 3) X dX11_move_88 (by decide) ?_
  obtain ⟨o1, co1, h⟩ := zb2 h
  refine z_callVv (As := [.ref (ad 4 v5.toNatClampNeg), .int 3]) (rest := []) (nA := 2) (mc := 4) (ms := 1826) (rm := ({ frames := 11, cells := 4, slots := 1826, locals := 462 } : Room)) (pu := fun (u : Adr) => axt N ad u ∧ (∀ k, N k ≤ o1.2.2 k)) (G1 := fun u => cx D dA A o1.1 o1.2.1 o1.2.2 u xs) X (cc_closeLeg l X.2.2.2.2.2.2.2.2 X.2.2.2.2.2.2.1 h11 fv5 co1) g_1049 g_1051 gs_17 g_1 g_1052 hd_yX11_closeLeg ⟨rfl, rfl, Nat.le_of_ble_eq_true rfl, Nat.le_of_ble_eq_true rfl⟩ rfl (fun _ hG => cx_recv X (k := 11) (n := 9) rfl rfl h11 hG) rfl (Nat.le_of_ble_eq_true rfl) dX11_move_89 ⟨by show _ ≤ 6; omega, by show _ ≤ 1838; omega⟩ (fun ad2 h9 => ?_)
  have hax9 := h9.1
  have hax := hax.trans9 hN0 hax9
  try rw [← hax9 11 0 (ex_obj rfl h11) (by decide)]
  try rw [← hax9 5 _ (ex_obj rfl (vp_lt fv3)) (by decide)]
  try rw [← hax9 2 _ (ex_obj rfl (vp_lt fv4)) (by decide)]
  try rw [← hax9 4 _ (ex_obj rfl (vp_lt fv5)) (by decide)]
  have hN9 := h9.2
  have hN0 := fun k => Nat.le_trans (hN0 k) (hN9 k)
  have h11 := Nat.lt_of_lt_of_le h11 (hN9 11)
  have fv3 := vp_mono fv3 (hN9 5)
  have fv4 := vp_mono fv4 (hN9 2)
  have fv5 := vp_mono fv5 (hN9 4)
  clear hax9 hN9 h9
  refine zz.pick (lo' := [(3, .ref (ad2 5 v3.toNatClampNeg)), (4, .ref (ad2 2 v4.toNatClampNeg))]) [3, 4] rfl ?_
  exact bc_move_92 X hml hr hnil ⟨by omega, by omega⟩ h11 hax hN0 fv3 fv4 h
def fc_move (V : Rho) (L : Lst) (N : Cnt) (a1 : Int32) (a2 : Int32) : Option ((CW × Int32) ⊕ Nat) := (fc_phoneAt V L N a1).bind fun o1 => Sum.elim (fun u2 => (fc_cellAt V L N a2).bind fun o4 => Sum.elim (fun u5 => (if u5 = (V 101 u2.toNatClampNeg) then (if (V 104 u2.toNatClampNeg) = -1 then some (.inl ((V, L, N), 0))
  else some (.inl ((V, L, N), 1)))
  else (if (V 104 u2.toNatClampNeg) = -1 then fc_move_92 V L N u2 u5
  else (fc_Cell_isNextTo V L N (V 101 u2.toNatClampNeg) u5).bind fun o11 => (if o11 = 0 then fc_move_85 V L N u2 u5 (V 104 u2.toNatClampNeg)
  else (fc_legsIn V L N u5).bind fun o12 => (if (V 42 u5.toNatClampNeg) ≤ o12 then fc_move_85 V L N u2 u5 (V 104 u2.toNatClampNeg)
  else (fc_Leg_keepEvent V L N (V 104 u2.toNatClampNeg) 1 (V 228 0) u5).bind fun o13 => fc_move_92 o13.1 o13.2.1 o13.2.2 u2 u5))))) (fun e9 => some (.inr e9)) o4) (fun e9 => some (.inr e9)) o1
set_option maxRecDepth 100000 in
set_option maxHeartbeats 4000000 in
theorem bc_move {p : Program} {l : Launch} {e : Env} {s : State} {m : MethodId} {args : Array Value} {below : List Frame} {meth : Method} {c : Code} {D : va_G} {dA : Nat → ClassId} {A : Nat → Prop} {xs : va_W} {o : (CW × Int32) ⊕ Nat} (X : zc p l s m args meth c cX11_move RX11 D dA A) (hml : c.maxLocals = 6) (hr : meth.sig.returnType = (some .boolean)) (hnil : ∀ x ∈ c.exceptionTable.toList, False) {cells slots : Nat} (hcs : cells + 6 ≤ 6 ∧ slots + 1838 ≤ 1838) {V : Rho} {L : Lst} {N : Cnt} {ad : Adr} (h11 : 0 < N 11) {a1 : Int32} {a2 : Int32} (h : fc_move V L N a1 a2 = some o) : zz p l e ({ frames := 12, cells := 6, slots := 1838, locals := 504 } : Room) s m args below meth c A (cx D dA A V L N ad xs) cells slots (vx_MQ below (va_Qi (fun r (w9 : (CW × Int32) × Adr) => r = w9.1.2 ∧ o = .inl w9.1 ∧ axt N ad w9.2 ∧ (∀ k, N k ≤ w9.1.1.2.2 k)) (fun (w9 : (CW × Int32) × Adr) t => cx D dA A w9.1.1.1 w9.1.1.2.1 w9.1.1.2.2 w9.2 xs t.heap) A) (vx_X (fun (u : Nat) => o = .inr u) (fun E u t => E = exn u ∧ cx D dA A V L N ad xs t.heap) A) args s 6 1838 A) 0 [(0, .ref (ad 11 0)), (1, .int a1), (2, .int a2)] [] [] := by
  obtain ⟨hcs1, hcs2⟩ := hcs
  have hax := axt.rf N ad
  have hN0 := fun k => Nat.le_refl (N k)
  unfold fc_move at h
  refine z_aload_n X dX11_move_0 rfl rfl ?_
  refine z_iload_n X dX11_move_1 rfl rfl ?_
  obtain ⟨o1, co1, h⟩ := zb2 h
  refine z_xVq (As := [.int a1]) (rest := []) (nA := 1) (mc := 1) (ms := 6) (rm := ({ frames := 6, cells := 1, slots := 6, locals := 252 } : Room)) (S := Int32) (r0 := fun u => some (ad 5 u.toNatClampNeg)) (pu := fun u => o1 = .inl u ∧ vp_in u (N 5)) (G1 := fun u => cx D dA A V L N ad xs) X hnil (cc_phoneAt l X.2.2.2.2.2.2.2.2 X.2.2.2.2.2.2.1 h11 co1) g_477 g_479 gs_6 g_1 g_480 hd_yX11_phoneAt ⟨rfl, rfl, Nat.le_of_ble_eq_true rfl, Nat.le_of_ble_eq_true rfl⟩ rfl (fun _ hG => cx_recv X (k := 11) (n := 9) rfl rfl h11 hG)  rfl (Nat.le_of_ble_eq_true rfl) dX11_move_2 ⟨by show _ ≤ 6; omega, by show _ ≤ 1838; omega⟩ ⟨by omega, by omega⟩ (fun u hu t hG hF => ?_) (fun u2 hu => ?_)
  · rw [hu] at h
    obtain rfl := Option.some.inj h
    exact ⟨u, rfl, ⟨rfl, hG⟩, hF⟩
  · rw [hu.1] at h
    have p3 := hu.2
    simp only [Sum.elim_inl] at h
    refine z_astore_n (lo' := [(3, .ref (ad 5 u2.toNatClampNeg)), (0, .ref (ad 11 0)), (1, .int a1), (2, .int a2)]) X dX11_move_5 rfl (by rw [hml]; decide) rfl rfl ?_
    refine z_aload_n X dX11_move_6 rfl rfl ?_
    refine z_iload_n X dX11_move_7 rfl rfl ?_
    obtain ⟨o4, co4, h⟩ := zb2 h
    refine z_xVq (As := [.int a2]) (rest := []) (nA := 1) (mc := 1) (ms := 6) (rm := ({ frames := 6, cells := 1, slots := 6, locals := 252 } : Room)) (S := Int32) (r0 := fun u => some (ad 2 u.toNatClampNeg)) (pu := fun u => o4 = .inl u ∧ vp_in u (N 2)) (G1 := fun u => cx D dA A V L N ad xs) X hnil (cc_cellAt l X.2.2.2.2.2.2.2.2 X.2.2.2.2.2.2.1 h11 co4) g_322 g_324 gs_3 g_1 g_325 hd_yX11_cellAt ⟨rfl, rfl, Nat.le_of_ble_eq_true rfl, Nat.le_of_ble_eq_true rfl⟩ rfl (fun _ hG => cx_recv X (k := 11) (n := 9) rfl rfl h11 hG)  rfl (Nat.le_of_ble_eq_true rfl) dX11_move_8 ⟨by show _ ≤ 6; omega, by show _ ≤ 1838; omega⟩ ⟨by omega, by omega⟩ (fun u hu t hG hF => ?_) (fun u5 hu => ?_)
    · rw [hu] at h
      obtain rfl := Option.some.inj h
      exact ⟨u, rfl, ⟨rfl, hG⟩, hF⟩
    · rw [hu.1] at h
      have p6 := hu.2
      simp only [Sum.elim_inl] at h
      refine z_astore (lo' := [(4, .ref (ad 2 u5.toNatClampNeg)), (3, .ref (ad 5 u2.toNatClampNeg)), (0, .ref (ad 11 0)), (1, .int a1), (2, .int a2)]) X dX11_move_11 (by rw [hml]; decide) rfl rfl ?_
      refine z_aload_n X dX11_move_13 rfl rfl ?_
      refine c_get X 5 4 (v := va_rf (qn (ad 4) (V 104 u2.toNatClampNeg))) rx5_ws rfl rfl rfl (vp_lt p3) g_254 rfl dX11_move_14 ?_
      refine zz.pre (fun H hG => cx_fact (k := 5) (i := u2.toNatClampNeg) (f := 4) rfl (vp_lt p3) rfl hG) (fun (p7 : (V 104 u2.toNatClampNeg) = -1 ∨ vp_in (V 104 u2.toNatClampNeg) (N 4)) => ?_)
      refine z_astoreq (lo' := [(5, va_rf (qn (ad 4) (V 104 u2.toNatClampNeg))), (4, .ref (ad 2 u5.toNatClampNeg)), (3, .ref (ad 5 u2.toNatClampNeg)), (0, .ref (ad 11 0)), (1, .int a1), (2, .int a2)]) X dX11_move_17 (by rw [hml]; decide) rfl rfl ?_
      refine z_aload X dX11_move_19 rfl ?_
      refine z_aload_n X dX11_move_21 rfl rfl ?_
      refine c_get X 5 1 (v := .ref (ad 2 (V 101 u2.toNatClampNeg).toNatClampNeg)) rx5_ws rfl rfl rfl (vp_lt p3) g_248 rfl dX11_move_22 ?_
      refine zz.pre (fun H hG => cx_fact (k := 5) (i := u2.toNatClampNeg) (f := 1) rfl (vp_lt p3) rfl hG) (fun (p8 : vp_in (V 101 u2.toNatClampNeg) (N 2)) => ?_)
      refine c_acmp_ne (tgt := 39) X (k := 2) rfl p6 p8 dX11_move_25 (by decide) (fun q => ?_) (fun q => ?_)
      · have h := zp q h
        refine z_aloadq X dX11_move_28 rfl ?_
        refine c_ifnull (tgt := 37) X dX11_move_30 (by decide) (fun q => ?_) (fun q => ?_)
        · have h := zp q h
          refine z_iconst (v := 0) X dX11_move_37 (by decide) ?_
          obtain rfl := Option.some.inj h
          refine zx_ret ?_
          refine zz.widen (k := 6) (n := 1838) (by omega) (by omega) ?_
          exact z_iret X hr rfl (fun t hG hF _ => ⟨⟨_, (_, ad), rfl, ⟨rfl, ⟨rfl, ⟨hax, hN0⟩⟩⟩, hG⟩, hF⟩) dX11_move_38
        · have h := zn q h
          have p9 := p7.resolve_left q
          rw [qn_ref q]
          refine z_iconst (v := 1) X dX11_move_33 (by decide) ?_
          refine z_goto (tgt := 38) X dX11_move_34 (by decide) ?_
          obtain rfl := Option.some.inj h
          refine zx_ret ?_
          refine zz.widen (k := 6) (n := 1838) (by omega) (by omega) ?_
          exact z_iret X hr rfl (fun t hG hF _ => ⟨⟨_, (_, ad), rfl, ⟨rfl, ⟨rfl, ⟨hax, hN0⟩⟩⟩, hG⟩, hF⟩) dX11_move_38
      · have h := zn q h
        refine z_aloadq X dX11_move_39 rfl ?_
        refine c_ifnull (tgt := 92) X dX11_move_41 (by decide) (fun q => ?_) (fun q => ?_)
        · have h := zp q h
          refine zz.pick (lo' := [(3, .ref (ad 5 u2.toNatClampNeg)), (4, .ref (ad 2 u5.toNatClampNeg))]) [3, 4] rfl ?_
          exact bc_move_92 X hml hr hnil ⟨by omega, by omega⟩ h11 hax hN0 p3 p6 h
        · have h := zn q h
          have p10 := p7.resolve_left q
          rw [qn_ref q]
          refine z_aload_n X dX11_move_44 rfl rfl ?_
          refine c_get X 5 1 (v := .ref (ad 2 (V 101 u2.toNatClampNeg).toNatClampNeg)) rx5_ws rfl rfl rfl (vp_lt p3) g_248 rfl dX11_move_45 ?_
          refine z_aload X dX11_move_48 rfl ?_
          obtain ⟨o11, co11, h⟩ := zb2 h
          refine z_callVi (As := [.ref (ad 2 u5.toNatClampNeg)]) (rest := []) (nA := 1) (mc := 0) (ms := 0) (rm := ({ frames := 1, cells := 0, slots := 0, locals := 42 } : Room)) (r0 := o11) (pu := fun (_ : Unit) => True) (G1 := fun _ => cx D dA A V L N ad xs) X (cc_Cell_isNextTo l X.2.2.2.2.2.2.2.2 X.2.2.2.2.2.2.1 h11 p8 p6 co11) g_1105 g_1106 g_1107 g_12 g_1108 hd_yX2_isNextTo ⟨rfl, rfl, Nat.le_of_ble_eq_true rfl, Nat.le_of_ble_eq_true rfl⟩ rfl (fun _ hG => cx_recv X (k := 2) (n := 4) rfl rfl (vp_lt p8) hG) rfl (Nat.le_of_ble_eq_true rfl) dX11_move_50 ⟨by show _ ≤ 6; omega, by show _ ≤ 1838; omega⟩ (fun _ _ => ?_)
          refine z_if_eq (tgt := 85) X dX11_move_53 (by decide) (fun q => ?_) (fun q => ?_)
          · have h := zp q h
            refine zz.pick (lo' := [(0, .ref (ad 11 0)), (3, .ref (ad 5 u2.toNatClampNeg)), (4, .ref (ad 2 u5.toNatClampNeg)), (5, .ref (ad 4 (V 104 u2.toNatClampNeg).toNatClampNeg))]) [0, 3, 4, 5] rfl ?_
            exact bc_move_85 X hml hr hnil ⟨by omega, by omega⟩ h11 hax hN0 p3 p6 p10 h
          · have h := zn q h
            refine z_aload_n X dX11_move_56 rfl rfl ?_
            refine z_aload X dX11_move_57 rfl ?_
            obtain ⟨o12, co12, h⟩ := zb2 h
            refine z_callVi (As := [.ref (ad 2 u5.toNatClampNeg)]) (rest := []) (nA := 1) (mc := 0) (ms := 0) (rm := ({ frames := 1, cells := 0, slots := 0, locals := 42 } : Room)) (r0 := o12) (pu := fun (_ : Unit) => True) (G1 := fun _ => cx D dA A V L N ad xs) X (cc_legsIn l X.2.2.2.2.2.2.2.2 X.2.2.2.2.2.2.1 h11 p6 co12) g_441 g_443 gs_5 g_1 g_444 hd_yX11_legsIn ⟨rfl, rfl, Nat.le_of_ble_eq_true rfl, Nat.le_of_ble_eq_true rfl⟩ rfl (fun _ hG => cx_recv X (k := 11) (n := 9) rfl rfl h11 hG) rfl (Nat.le_of_ble_eq_true rfl) dX11_move_59 ⟨by show _ ≤ 6; omega, by show _ ≤ 1838; omega⟩ (fun _ _ => ?_)
            refine z_aload X dX11_move_62 rfl ?_
            refine c_get X 2 2 (v := .int (V 42 u5.toNatClampNeg)) rx2_ws rfl rfl rfl (vp_lt p6) g_203 rfl dX11_move_64 ?_
            refine z_icmp_ge (tgt := 85) X dX11_move_67 (by decide) (fun q => ?_) (fun q => ?_)
            · have h := zp q h
              refine zz.pick (lo' := [(0, .ref (ad 11 0)), (3, .ref (ad 5 u2.toNatClampNeg)), (4, .ref (ad 2 u5.toNatClampNeg)), (5, .ref (ad 4 (V 104 u2.toNatClampNeg).toNatClampNeg))]) [0, 3, 4, 5] rfl ?_
              exact bc_move_85 X hml hr hnil ⟨by omega, by omega⟩ h11 hax hN0 p3 p6 p10 h
            · have h := zn q h
              refine z_aload X dX11_move_70 rfl ?_
              refine z_iconst (v := 1) X dX11_move_72 (by decide) ?_
              refine z_aload_n X dX11_move_73 rfl rfl ?_
              refine c_get X 11 8 (v := .int (V 228 0)) rx11_ws rfl rfl rfl h11 g_280 rfl dX11_move_74 ?_
              refine z_aload X dX11_move_77 rfl ?_
              obtain ⟨o13, co13, h⟩ := zb2 h
              refine z_callVv (As := [.int 1, .int (V 228 0), .ref (ad 2 u5.toNatClampNeg)]) (rest := []) (nA := 3) (mc := 2) (ms := 913) (rm := ({ frames := 9, cells := 2, slots := 913, locals := 378 } : Room)) (pu := fun (u : Adr) => axt N ad u ∧ (∀ k, N k ≤ o13.2.2 k)) (G1 := fun u => cx D dA A o13.1 o13.2.1 o13.2.2 u xs) X (cc_Leg_keepEvent l X.2.2.2.2.2.2.2.2 X.2.2.2.2.2.2.1 h11 p10 p6 co13) g_975 g_976 g_977 g_33 g_978 hd_yX4_keepEvent ⟨rfl, rfl, Nat.le_of_ble_eq_true rfl, Nat.le_of_ble_eq_true rfl⟩ rfl (fun _ hG => cx_recv X (k := 4) (n := 12) rfl rfl (vp_lt p10) hG) rfl (Nat.le_of_ble_eq_true rfl) dX11_move_79 ⟨by show _ ≤ 6; omega, by show _ ≤ 1838; omega⟩ (fun ad14 h9 => ?_)
              have hax9 := h9.1
              have hax := hax.trans9 hN0 hax9
              try rw [← hax9 4 _ (ex_obj rfl (vp_lt p10)) (by decide)]
              try rw [← hax9 2 _ (ex_obj rfl (vp_lt p6)) (by decide)]
              try rw [← hax9 5 _ (ex_obj rfl (vp_lt p3)) (by decide)]
              try rw [← hax9 11 0 (ex_obj rfl h11) (by decide)]
              have hN9 := h9.2
              have hN0 := fun k => Nat.le_trans (hN0 k) (hN9 k)
              have h11 := Nat.lt_of_lt_of_le h11 (hN9 11)
              have p3 := vp_mono p3 (hN9 5)
              have p6 := vp_mono p6 (hN9 2)
              have p7 := p7.imp_right (fun z => vp_mono z (hN9 4))
              have p8 := vp_mono p8 (hN9 2)
              have p10 := vp_mono p10 (hN9 4)
              clear hax9 hN9 h9
              refine z_goto (tgt := 92) X dX11_move_82 (by decide) ?_
              refine zz.pick (lo' := [(3, .ref (ad14 5 u2.toNatClampNeg)), (4, .ref (ad14 2 u5.toNatClampNeg))]) [3, 4] rfl ?_
              exact bc_move_92 X hml hr hnil ⟨by omega, by omega⟩ h11 hax hN0 p3 p6 h
theorem cc_move (l : Launch) {D : va_G} {dA : Nat → ClassId} {A : Nat → Prop} {n : Nat} (hst : l.stackTraces = false) (hA : ∀ q, n ≤ q → A q) {V : Rho} {L : Lst} {N : Cnt} {ad : Adr} {xs : va_W} (h11 : 0 < N 11) {a1 : Int32} {a2 : Int32} {o : (CW × Int32) ⊕ Nat} (h : fc_move V L N a1 a2 = some o) : vx_Met l yX11_move (.code yX11_move cX11_move 6 (some .boolean) :: gT) ({ frames := 12, cells := 6, slots := 1838, locals := 504 } : Room) (va_Pc [.ref (ad 11 0), .int a1, .int a2] (zB D dA A n (cx D dA A V L N ad xs))) (va_Qi (fun r (w9 : (CW × Int32) × Adr) => r = w9.1.2 ∧ o = .inl w9.1 ∧ axt N ad w9.2 ∧ (∀ k, N k ≤ w9.1.1.2.2 k)) (fun (w9 : (CW × Int32) × Adr) t => cx D dA A w9.1.1.1 w9.1.1.2.1 w9.1.1.2.2 w9.2 xs t.heap) A) (vx_X (fun (u : Nat) => o = .inr u) (fun E u t => E = exn u ∧ cx D dA A V L N ad xs t.heap) A) 6 1838 A :=
  zx_met (by decide) hA hst (Nat.le_of_ble_eq_true rfl) rfl rfl (fun p e s m below meth c X hml hr hnil => bc_move X hml hr hnil ⟨by omega, by omega⟩ h11 h)
-- MeshBiller.isLived(LMeshBiller$Leg;)Z
def fc_isLived_50 (V : Rho) (L : Lst) (N : Cnt) (v1 : Int32) (v2 : Int32) : Option (CW × Int32) := (fc_dayOf V L N (V 228 0)).bind fun o1 => (fc_Leg_useSecond V L N v1 v2 o1).bind fun o2 => some ((o2, L, N), 1)
set_option maxRecDepth 100000 in
set_option maxHeartbeats 4000000 in
theorem bc_isLived_50 {p : Program} {l : Launch} {e : Env} {s : State} {m : MethodId} {args : Array Value} {below : List Frame} {meth : Method} {c : Code} {D : va_G} {dA : Nat → ClassId} {A : Nat → Prop} {xs : va_W} {o : CW × Int32} {N0 : Cnt} {ad0 : Adr} (X : zc p l s m args meth c cX11_isLived RX11 D dA A) (hml : c.maxLocals = 3) (hr : meth.sig.returnType = (some .boolean)) {cells slots : Nat} (hcs : cells + 0 ≤ 4 ∧ slots + 0 ≤ 1826) {V : Rho} {L : Lst} {N : Cnt} {ad : Adr} (h11 : 0 < N 11) (hax : axt N0 ad0 ad) (hN0 : ∀ k, N0 k ≤ N k) {v1 : Int32} {v2 : Int32} (fv1 : vp_in v1 (N 4)) (h : fc_isLived_50 V L N v1 v2 = some o) : zz p l e ({ frames := 12, cells := 4, slots := 1826, locals := 504 } : Room) s m args below meth c A (cx D dA A V L N ad xs) cells slots (MQ below (va_Qi (fun r (w9 : Adr) => r = o.2 ∧ axt N0 ad0 w9 ∧ (∀ k, N0 k ≤ o.1.2.2 k)) (fun (w9 : Adr) t => cx D dA A o.1.1 o.1.2.1 o.1.2.2 w9 xs t.heap) A) args s 4 1826 A) 50 [(0, .ref (ad 11 0)), (1, .ref (ad 4 v1.toNatClampNeg)), (2, .int v2)] [] [] := by
  obtain ⟨hcs1, hcs2⟩ := hcs
  unfold fc_isLived_50 at h
  refine z_aload_n X dX11_isLived_50 rfl rfl ?_
  refine z_iload_n X dX11_isLived_51 rfl rfl ?_
  refine z_aload_n X dX11_isLived_52 rfl rfl ?_
  refine c_get X 11 8 (v := .int (V 228 0)) rx11_ws rfl rfl rfl h11 g_280 rfl dX11_isLived_53 ?_
  obtain ⟨o1, co1, h⟩ := zb2 h
  refine z_callSi (As := [.int (V 228 0)]) (rest := [.int v2, .ref (ad 4 v1.toNatClampNeg)]) (nA := 1) (mc := 0) (ms := 0) (rm := ({ frames := 1, cells := 0, slots := 0, locals := 42 } : Room)) (r0 := o1) (pu := fun (_ : Unit) => True) (G1 := fun _ => cx D dA A V L N ad xs) X (cc_dayOf l X.2.2.2.2.2.2.2.2 X.2.2.2.2.2.2.1 h11 co1) g_525 g_526 g_1 g_527 hd_yX11_dayOf ⟨rfl, rfl, Nat.le_of_ble_eq_true rfl, Nat.le_of_ble_eq_true rfl⟩ rfl rfl (Nat.le_of_ble_eq_true rfl) dX11_isLived_56 ⟨by show _ ≤ 4; omega, by show _ ≤ 1826; omega⟩ (fun _ _ => ?_)
  obtain ⟨o2, co2, h⟩ := zb2 h
  refine z_callVv (As := [.int v2, .int o1]) (rest := []) (nA := 2) (mc := 0) (ms := 0) (rm := ({ frames := 2, cells := 0, slots := 0, locals := 84 } : Room)) (pu := fun (_ : Unit) => True) (G1 := fun _ => cx D dA A o2 L N ad xs) X (cc_Leg_useSecond l X.2.2.2.2.2.2.2.2 X.2.2.2.2.2.2.1 h11 fv1 co2) g_1134 g_1135 g_1136 g_33 g_1137 hd_yX4_useSecond ⟨rfl, rfl, Nat.le_of_ble_eq_true rfl, Nat.le_of_ble_eq_true rfl⟩ rfl (fun _ hG => cx_recv X (k := 4) (n := 12) rfl rfl (vp_lt fv1) hG) rfl (Nat.le_of_ble_eq_true rfl) dX11_isLived_59 ⟨by show _ ≤ 4; omega, by show _ ≤ 1826; omega⟩ (fun _ _ => ?_)
  refine z_iconst (v := 1) X dX11_isLived_62 (by decide) ?_
  obtain rfl := Option.some.inj h
  refine zz.widen (k := 4) (n := 1826) (by omega) (by omega) ?_
  exact z_iret X hr rfl (fun t hG hF _ => ⟨⟨_, ad, rfl, ⟨rfl, ⟨hax, hN0⟩⟩, hG⟩, hF⟩) dX11_isLived_63
def fc_isLived_23 (V : Rho) (L : Lst) (N : Cnt) (v1 : Int32) (v2 : Int32) : Option (CW × Int32) := (if 1 ≤ (V 160 v1.toNatClampNeg) then fc_isLived_50 V L N v1 v2
  else (fc_takeSlice V L N v1).bind fun o2 => (if o2.2 = 0 then (fc_closeLeg o2.1 L N v1 2).bind fun o3 => some ((o3.1, o3.2.1, o3.2.2), 0)
  else fc_isLived_50 o2.1 L N v1 v2))
set_option maxRecDepth 100000 in
set_option maxHeartbeats 4000000 in
theorem bc_isLived_23 {p : Program} {l : Launch} {e : Env} {s : State} {m : MethodId} {args : Array Value} {below : List Frame} {meth : Method} {c : Code} {D : va_G} {dA : Nat → ClassId} {A : Nat → Prop} {xs : va_W} {o : CW × Int32} {N0 : Cnt} {ad0 : Adr} (X : zc p l s m args meth c cX11_isLived RX11 D dA A) (hml : c.maxLocals = 3) (hr : meth.sig.returnType = (some .boolean)) {cells slots : Nat} (hcs : cells + 4 ≤ 4 ∧ slots + 1826 ≤ 1826) {V : Rho} {L : Lst} {N : Cnt} {ad : Adr} (h11 : 0 < N 11) (hax : axt N0 ad0 ad) (hN0 : ∀ k, N0 k ≤ N k) {v1 : Int32} {v2 : Int32} (fv1 : vp_in v1 (N 4)) (h : fc_isLived_23 V L N v1 v2 = some o) : zz p l e ({ frames := 12, cells := 4, slots := 1826, locals := 504 } : Room) s m args below meth c A (cx D dA A V L N ad xs) cells slots (MQ below (va_Qi (fun r (w9 : Adr) => r = o.2 ∧ axt N0 ad0 w9 ∧ (∀ k, N0 k ≤ o.1.2.2 k)) (fun (w9 : Adr) t => cx D dA A o.1.1 o.1.2.1 o.1.2.2 w9 xs t.heap) A) args s 4 1826 A) 23 [(0, .ref (ad 11 0)), (1, .ref (ad 4 v1.toNatClampNeg)), (2, .int v2)] [] [] := by
  obtain ⟨hcs1, hcs2⟩ := hcs
  unfold fc_isLived_23 at h
  refine z_aload_n X dX11_isLived_23 rfl rfl ?_
  refine c_get X 4 5 (v := .ref (ad 8 v1.toNatClampNeg)) rx4_ws rfl rfl rfl (vp_lt fv1) g_936 rfl dX11_isLived_24 ?_
  refine zz.pre (fun H hG => vp_mono fv1 hG.2.2.2.2.2.2.2.2.1.2.1) (fun (p1 : vp_in v1 (N 8)) => ?_)
  refine c_get X 8 0 (v := .int (V 160 v1.toNatClampNeg)) rx8_ws rfl rfl rfl (vp_lt p1) g_911 rfl dX11_isLived_27 ?_
  refine z_iconst (v := 1) X dX11_isLived_30 (by decide) ?_
  refine z_icmp_ge (tgt := 50) X dX11_isLived_31 (by decide) (fun q => ?_) (fun q => ?_)
  · have h := zp q h
    refine zz.pick (lo' := [(0, .ref (ad 11 0)), (1, .ref (ad 4 v1.toNatClampNeg)), (2, .int v2)]) [0, 1, 2] rfl ?_
    exact bc_isLived_50 X hml hr ⟨by omega, by omega⟩ h11 hax hN0 fv1 h
  · have h := zn q h
    refine z_aload_n X dX11_isLived_34 rfl rfl ?_
    refine z_aload_n X dX11_isLived_35 rfl rfl ?_
    obtain ⟨o2, co2, h⟩ := zb2 h
    refine z_callVi (As := [.ref (ad 4 v1.toNatClampNeg)]) (rest := []) (nA := 1) (mc := 0) (ms := 0) (rm := ({ frames := 10, cells := 0, slots := 0, locals := 420 } : Room)) (r0 := o2.2) (pu := fun (_ : Unit) => True) (G1 := fun _ => cx D dA A o2.1 L N ad xs) X (cc_takeSlice l X.2.2.2.2.2.2.2.2 X.2.2.2.2.2.2.1 h11 fv1 co2) g_1007 g_1009 gs_13 g_1 g_1010 hd_yX11_takeSlice ⟨rfl, rfl, Nat.le_of_ble_eq_true rfl, Nat.le_of_ble_eq_true rfl⟩ rfl (fun _ hG => cx_recv X (k := 11) (n := 9) rfl rfl h11 hG) rfl (Nat.le_of_ble_eq_true rfl) dX11_isLived_36 ⟨by show _ ≤ 4; omega, by show _ ≤ 1826; omega⟩ (fun _ _ => ?_)
    refine z_if_ne (tgt := 50) X dX11_isLived_39 (by decide) (fun q => ?_) (fun q => ?_)
    · have h := zp q h
      refine z_aload_n X dX11_isLived_42 rfl rfl ?_
      refine z_aload_n X dX11_isLived_43 rfl rfl ?_
      refine z_iconst (v := 2) X dX11_isLived_44 (by decide) ?_
      obtain ⟨o3, co3, h⟩ := zb2 h
      refine z_callVv (As := [.ref (ad 4 v1.toNatClampNeg), .int 2]) (rest := []) (nA := 2) (mc := 4) (ms := 1826) (rm := ({ frames := 11, cells := 4, slots := 1826, locals := 462 } : Room)) (pu := fun (u : Adr) => axt N ad u ∧ (∀ k, N k ≤ o3.2.2 k)) (G1 := fun u => cx D dA A o3.1 o3.2.1 o3.2.2 u xs) X (cc_closeLeg l X.2.2.2.2.2.2.2.2 X.2.2.2.2.2.2.1 h11 fv1 co3) g_1049 g_1051 gs_17 g_1 g_1052 hd_yX11_closeLeg ⟨rfl, rfl, Nat.le_of_ble_eq_true rfl, Nat.le_of_ble_eq_true rfl⟩ rfl (fun _ hG => cx_recv X (k := 11) (n := 9) rfl rfl h11 hG) rfl (Nat.le_of_ble_eq_true rfl) dX11_isLived_45 ⟨by show _ ≤ 4; omega, by show _ ≤ 1826; omega⟩ (fun ad4 h9 => ?_)
      have hax9 := h9.1
      have hax := hax.trans9 hN0 hax9
      try rw [← hax9 11 0 (ex_obj rfl h11) (by decide)]
      try rw [← hax9 4 _ (ex_obj rfl (vp_lt fv1)) (by decide)]
      have hN9 := h9.2
      have hN0 := fun k => Nat.le_trans (hN0 k) (hN9 k)
      have h11 := Nat.lt_of_lt_of_le h11 (hN9 11)
      have fv1 := vp_mono fv1 (hN9 4)
      have p1 := vp_mono p1 (hN9 8)
      clear hax9 hN9 h9
      refine z_iconst (v := 0) X dX11_isLived_48 (by decide) ?_
      obtain rfl := Option.some.inj h
      refine zz.widen (k := 4) (n := 1826) (by omega) (by omega) ?_
      exact z_iret X hr rfl (fun t hG hF _ => ⟨⟨_, ad4, rfl, ⟨rfl, ⟨hax, hN0⟩⟩, hG⟩, hF⟩) dX11_isLived_49
    · have h := zn q h
      refine zz.pick (lo' := [(0, .ref (ad 11 0)), (1, .ref (ad 4 v1.toNatClampNeg)), (2, .int v2)]) [0, 1, 2] rfl ?_
      exact bc_isLived_50 X hml hr ⟨by omega, by omega⟩ h11 hax hN0 fv1 h
def fc_isLived (V : Rho) (L : Lst) (N : Cnt) (a1 : Int32) : Option (CW × Int32) := (fc_rateNow V L N (V 81 a1.toNatClampNeg)).bind fun o2 => (fc_isSliceFit V L N a1 o2).bind fun o3 => (if o3 = 0 then (fc_giveBack V L N a1).bind fun o4 => fc_isLived_23 o4 L N a1 o2
  else fc_isLived_23 V L N a1 o2)
set_option maxRecDepth 100000 in
set_option maxHeartbeats 4000000 in
theorem bc_isLived {p : Program} {l : Launch} {e : Env} {s : State} {m : MethodId} {args : Array Value} {below : List Frame} {meth : Method} {c : Code} {D : va_G} {dA : Nat → ClassId} {A : Nat → Prop} {xs : va_W} {o : CW × Int32} (X : zc p l s m args meth c cX11_isLived RX11 D dA A) (hml : c.maxLocals = 3) (hr : meth.sig.returnType = (some .boolean)) {cells slots : Nat} (hcs : cells + 4 ≤ 4 ∧ slots + 1826 ≤ 1826) {V : Rho} {L : Lst} {N : Cnt} {ad : Adr} (h11 : 0 < N 11) {a1 : Int32} (va1 : vp_in a1 (N 4)) (h : fc_isLived V L N a1 = some o) : zz p l e ({ frames := 12, cells := 4, slots := 1826, locals := 504 } : Room) s m args below meth c A (cx D dA A V L N ad xs) cells slots (MQ below (va_Qi (fun r (w9 : Adr) => r = o.2 ∧ axt N ad w9 ∧ (∀ k, N k ≤ o.1.2.2 k)) (fun (w9 : Adr) t => cx D dA A o.1.1 o.1.2.1 o.1.2.2 w9 xs t.heap) A) args s 4 1826 A) 0 [(0, .ref (ad 11 0)), (1, .ref (ad 4 a1.toNatClampNeg))] [] [] := by
  obtain ⟨hcs1, hcs2⟩ := hcs
  have hax := axt.rf N ad
  have hN0 := fun k => Nat.le_refl (N k)
  unfold fc_isLived at h
  refine z_aload_n X dX11_isLived_0 rfl rfl ?_
  refine z_aload_n X dX11_isLived_1 rfl rfl ?_
  refine c_get X 4 1 (v := .ref (ad 5 (V 81 a1.toNatClampNeg).toNatClampNeg)) rx4_ws rfl rfl rfl (vp_lt va1) g_929 rfl dX11_isLived_2 ?_
  refine zz.pre (fun H hG => cx_fact (k := 4) (i := a1.toNatClampNeg) (f := 1) rfl (vp_lt va1) rfl hG) (fun (p1 : vp_in (V 81 a1.toNatClampNeg) (N 5)) => ?_)
  obtain ⟨o2, co2, h⟩ := zb2 h
  refine z_callVi (As := [.ref (ad 5 (V 81 a1.toNatClampNeg).toNatClampNeg)]) (rest := []) (nA := 1) (mc := 0) (ms := 0) (rm := ({ frames := 2, cells := 0, slots := 0, locals := 84 } : Room)) (r0 := o2) (pu := fun (_ : Unit) => True) (G1 := fun _ => cx D dA A V L N ad xs) X (cc_rateNow l X.2.2.2.2.2.2.2.2 X.2.2.2.2.2.2.1 h11 p1 co2) g_1025 g_1027 gs_14 g_1 g_1028 hd_yX11_rateNow ⟨rfl, rfl, Nat.le_of_ble_eq_true rfl, Nat.le_of_ble_eq_true rfl⟩ rfl (fun _ hG => cx_recv X (k := 11) (n := 9) rfl rfl h11 hG) rfl (Nat.le_of_ble_eq_true rfl) dX11_isLived_5 ⟨by show _ ≤ 4; omega, by show _ ≤ 1826; omega⟩ (fun _ _ => ?_)
  refine z_istore_n (lo' := [(2, .int o2), (0, .ref (ad 11 0)), (1, .ref (ad 4 a1.toNatClampNeg))]) X dX11_isLived_8 rfl (by rw [hml]; decide) rfl rfl ?_
  refine z_aload_n X dX11_isLived_9 rfl rfl ?_
  refine z_aload_n X dX11_isLived_10 rfl rfl ?_
  refine z_iload_n X dX11_isLived_11 rfl rfl ?_
  obtain ⟨o3, co3, h⟩ := zb2 h
  refine z_callVi (As := [.ref (ad 4 a1.toNatClampNeg), .int o2]) (rest := []) (nA := 2) (mc := 0) (ms := 0) (rm := ({ frames := 2, cells := 0, slots := 0, locals := 84 } : Room)) (r0 := o3) (pu := fun (_ : Unit) => True) (G1 := fun _ => cx D dA A V L N ad xs) X (cc_isSliceFit l X.2.2.2.2.2.2.2.2 X.2.2.2.2.2.2.1 h11 va1 co3) g_1129 g_1131 gs_23 g_1 g_1132 hd_yX11_isSliceFit ⟨rfl, rfl, Nat.le_of_ble_eq_true rfl, Nat.le_of_ble_eq_true rfl⟩ rfl (fun _ hG => cx_recv X (k := 11) (n := 9) rfl rfl h11 hG) rfl (Nat.le_of_ble_eq_true rfl) dX11_isLived_12 ⟨by show _ ≤ 4; omega, by show _ ≤ 1826; omega⟩ (fun _ _ => ?_)
  refine z_if_ne (tgt := 23) X dX11_isLived_15 (by decide) (fun q => ?_) (fun q => ?_)
  · have h := zp q h
    refine z_aload_n X dX11_isLived_18 rfl rfl ?_
    refine z_aload_n X dX11_isLived_19 rfl rfl ?_
    obtain ⟨o4, co4, h⟩ := zb2 h
    refine z_callVv (As := [.ref (ad 4 a1.toNatClampNeg)]) (rest := []) (nA := 1) (mc := 0) (ms := 0) (rm := ({ frames := 2, cells := 0, slots := 0, locals := 84 } : Room)) (pu := fun (_ : Unit) => True) (G1 := fun _ => cx D dA A o4 L N ad xs) X (cc_giveBack l X.2.2.2.2.2.2.2.2 X.2.2.2.2.2.2.1 h11 va1 co4) g_1057 g_1059 gs_19 g_1 g_1060 hd_yX11_giveBack ⟨rfl, rfl, Nat.le_of_ble_eq_true rfl, Nat.le_of_ble_eq_true rfl⟩ rfl (fun _ hG => cx_recv X (k := 11) (n := 9) rfl rfl h11 hG) rfl (Nat.le_of_ble_eq_true rfl) dX11_isLived_20 ⟨by show _ ≤ 4; omega, by show _ ≤ 1826; omega⟩ (fun _ _ => ?_)
    refine zz.pick (lo' := [(0, .ref (ad 11 0)), (1, .ref (ad 4 a1.toNatClampNeg)), (2, .int o2)]) [0, 1, 2] rfl ?_
    exact bc_isLived_23 X hml hr ⟨by omega, by omega⟩ h11 hax hN0 va1 h
  · have h := zn q h
    refine zz.pick (lo' := [(0, .ref (ad 11 0)), (1, .ref (ad 4 a1.toNatClampNeg)), (2, .int o2)]) [0, 1, 2] rfl ?_
    exact bc_isLived_23 X hml hr ⟨by omega, by omega⟩ h11 hax hN0 va1 h
theorem cc_isLived (l : Launch) {D : va_G} {dA : Nat → ClassId} {A : Nat → Prop} {n : Nat} (hst : l.stackTraces = false) (hA : ∀ q, n ≤ q → A q) {V : Rho} {L : Lst} {N : Cnt} {ad : Adr} {xs : va_W} (h11 : 0 < N 11) {a1 : Int32} (va1 : vp_in a1 (N 4)) {o : CW × Int32} (h : fc_isLived V L N a1 = some o) : Met l yX11_isLived (.code yX11_isLived cX11_isLived 3 (some .boolean) :: gT) ({ frames := 12, cells := 4, slots := 1826, locals := 504 } : Room) (va_Pc [.ref (ad 11 0), .ref (ad 4 a1.toNatClampNeg)] (zB D dA A n (cx D dA A V L N ad xs))) (va_Qi (fun r (w9 : Adr) => r = o.2 ∧ axt N ad w9 ∧ (∀ k, N k ≤ o.1.2.2 k)) (fun (w9 : Adr) t => cx D dA A o.1.1 o.1.2.1 o.1.2.2 w9 xs t.heap) A) 4 1826 A :=
  z_met (by decide) hA hst (Nat.le_of_ble_eq_true rfl) rfl rfl (fun p e s m below meth c X hml hr _ => bc_isLived X hml hr ⟨by omega, by omega⟩ h11 va1 h)
set_option maxRecDepth 100000 in
set_option maxHeartbeats 4000000 in
theorem bc_isLived0_50 {p : Program} {l : Launch} {e : Env} {s : State} {m : MethodId} {args : Array Value} {below : List Frame} {meth : Method} {c : Code} {D : va_G} {dA : Nat → ClassId} {A : Nat → Prop} {xs : va_W} {o : CW × Int32} {N0 : Cnt} {ad0 : Adr} (X : zc p l s m args meth c cX11_isLived RX11 D dA A) (hml : c.maxLocals = 3) (hr : meth.sig.returnType = (some .boolean)) {cells slots : Nat} (hcs : cells + 0 ≤ 0 ∧ slots + 0 ≤ 0) {V : Rho} {L : Lst} {N : Cnt} {ad : Adr} (ho : o.2 = 1) (h11 : 0 < N 11) (hax : axt N0 ad0 ad) (hN0 : ∀ k, N0 k ≤ N k) {v1 : Int32} {v2 : Int32} (fv1 : vp_in v1 (N 4)) (h : fc_isLived_50 V L N v1 v2 = some o) : zz p l e ({ frames := 12, cells := 0, slots := 0, locals := 504 } : Room) s m args below meth c A (cx D dA A V L N ad xs) cells slots (MQ below (va_Qi (fun r (w9 : Adr) => r = o.2 ∧ axt N0 ad0 w9 ∧ (∀ k, N0 k ≤ o.1.2.2 k)) (fun (w9 : Adr) t => cx D dA A o.1.1 o.1.2.1 o.1.2.2 w9 xs t.heap) A) args s 0 0 A) 50 [(0, .ref (ad 11 0)), (1, .ref (ad 4 v1.toNatClampNeg)), (2, .int v2)] [] [] := by
  obtain ⟨hcs1, hcs2⟩ := hcs
  unfold fc_isLived_50 at h
  refine z_aload_n X dX11_isLived_50 rfl rfl ?_
  refine z_iload_n X dX11_isLived_51 rfl rfl ?_
  refine z_aload_n X dX11_isLived_52 rfl rfl ?_
  refine c_get X 11 8 (v := .int (V 228 0)) rx11_ws rfl rfl rfl h11 g_280 rfl dX11_isLived_53 ?_
  obtain ⟨o1, co1, h⟩ := zb2 h
  refine z_callSi (As := [.int (V 228 0)]) (rest := [.int v2, .ref (ad 4 v1.toNatClampNeg)]) (nA := 1) (mc := 0) (ms := 0) (rm := ({ frames := 1, cells := 0, slots := 0, locals := 42 } : Room)) (r0 := o1) (pu := fun (_ : Unit) => True) (G1 := fun _ => cx D dA A V L N ad xs) X (cc_dayOf l X.2.2.2.2.2.2.2.2 X.2.2.2.2.2.2.1 h11 co1) g_525 g_526 g_1 g_527 hd_yX11_dayOf ⟨rfl, rfl, Nat.le_of_ble_eq_true rfl, Nat.le_of_ble_eq_true rfl⟩ rfl rfl (Nat.le_of_ble_eq_true rfl) dX11_isLived_56 ⟨by show _ ≤ 0; omega, by show _ ≤ 0; omega⟩ (fun _ _ => ?_)
  obtain ⟨o2, co2, h⟩ := zb2 h
  refine z_callVv (As := [.int v2, .int o1]) (rest := []) (nA := 2) (mc := 0) (ms := 0) (rm := ({ frames := 2, cells := 0, slots := 0, locals := 84 } : Room)) (pu := fun (_ : Unit) => True) (G1 := fun _ => cx D dA A o2 L N ad xs) X (cc_Leg_useSecond l X.2.2.2.2.2.2.2.2 X.2.2.2.2.2.2.1 h11 fv1 co2) g_1134 g_1135 g_1136 g_33 g_1137 hd_yX4_useSecond ⟨rfl, rfl, Nat.le_of_ble_eq_true rfl, Nat.le_of_ble_eq_true rfl⟩ rfl (fun _ hG => cx_recv X (k := 4) (n := 12) rfl rfl (vp_lt fv1) hG) rfl (Nat.le_of_ble_eq_true rfl) dX11_isLived_59 ⟨by show _ ≤ 0; omega, by show _ ≤ 0; omega⟩ (fun _ _ => ?_)
  refine z_iconst (v := 1) X dX11_isLived_62 (by decide) ?_
  obtain rfl := Option.some.inj h
  refine zz.widen (k := 0) (n := 0) (by omega) (by omega) ?_
  exact z_iret X hr rfl (fun t hG hF _ => ⟨⟨_, ad, rfl, ⟨rfl, ⟨hax, hN0⟩⟩, hG⟩, hF⟩) dX11_isLived_63
set_option maxRecDepth 100000 in
set_option maxHeartbeats 4000000 in
theorem bc_isLived0_23 {p : Program} {l : Launch} {e : Env} {s : State} {m : MethodId} {args : Array Value} {below : List Frame} {meth : Method} {c : Code} {D : va_G} {dA : Nat → ClassId} {A : Nat → Prop} {xs : va_W} {o : CW × Int32} {N0 : Cnt} {ad0 : Adr} (X : zc p l s m args meth c cX11_isLived RX11 D dA A) (hml : c.maxLocals = 3) (hr : meth.sig.returnType = (some .boolean)) {cells slots : Nat} (hcs : cells + 0 ≤ 0 ∧ slots + 0 ≤ 0) {V : Rho} {L : Lst} {N : Cnt} {ad : Adr} (ho : o.2 = 1) (h11 : 0 < N 11) (hax : axt N0 ad0 ad) (hN0 : ∀ k, N0 k ≤ N k) {v1 : Int32} {v2 : Int32} (fv1 : vp_in v1 (N 4)) (h : fc_isLived_23 V L N v1 v2 = some o) : zz p l e ({ frames := 12, cells := 0, slots := 0, locals := 504 } : Room) s m args below meth c A (cx D dA A V L N ad xs) cells slots (MQ below (va_Qi (fun r (w9 : Adr) => r = o.2 ∧ axt N0 ad0 w9 ∧ (∀ k, N0 k ≤ o.1.2.2 k)) (fun (w9 : Adr) t => cx D dA A o.1.1 o.1.2.1 o.1.2.2 w9 xs t.heap) A) args s 0 0 A) 23 [(0, .ref (ad 11 0)), (1, .ref (ad 4 v1.toNatClampNeg)), (2, .int v2)] [] [] := by
  obtain ⟨hcs1, hcs2⟩ := hcs
  unfold fc_isLived_23 at h
  refine z_aload_n X dX11_isLived_23 rfl rfl ?_
  refine c_get X 4 5 (v := .ref (ad 8 v1.toNatClampNeg)) rx4_ws rfl rfl rfl (vp_lt fv1) g_936 rfl dX11_isLived_24 ?_
  refine zz.pre (fun H hG => vp_mono fv1 hG.2.2.2.2.2.2.2.2.1.2.1) (fun (p1 : vp_in v1 (N 8)) => ?_)
  refine c_get X 8 0 (v := .int (V 160 v1.toNatClampNeg)) rx8_ws rfl rfl rfl (vp_lt p1) g_911 rfl dX11_isLived_27 ?_
  refine z_iconst (v := 1) X dX11_isLived_30 (by decide) ?_
  refine z_icmp_ge (tgt := 50) X dX11_isLived_31 (by decide) (fun q => ?_) (fun q => ?_)
  · have h := zp q h
    refine zz.pick (lo' := [(0, .ref (ad 11 0)), (1, .ref (ad 4 v1.toNatClampNeg)), (2, .int v2)]) [0, 1, 2] rfl ?_
    exact bc_isLived0_50 X hml hr ⟨by omega, by omega⟩ ho h11 hax hN0 fv1 h
  · have h := zn q h
    refine z_aload_n X dX11_isLived_34 rfl rfl ?_
    refine z_aload_n X dX11_isLived_35 rfl rfl ?_
    obtain ⟨o2, co2, h⟩ := zb2 h
    refine z_callVi (As := [.ref (ad 4 v1.toNatClampNeg)]) (rest := []) (nA := 1) (mc := 0) (ms := 0) (rm := ({ frames := 10, cells := 0, slots := 0, locals := 420 } : Room)) (r0 := o2.2) (pu := fun (_ : Unit) => True) (G1 := fun _ => cx D dA A o2.1 L N ad xs) X (cc_takeSlice l X.2.2.2.2.2.2.2.2 X.2.2.2.2.2.2.1 h11 fv1 co2) g_1007 g_1009 gs_13 g_1 g_1010 hd_yX11_takeSlice ⟨rfl, rfl, Nat.le_of_ble_eq_true rfl, Nat.le_of_ble_eq_true rfl⟩ rfl (fun _ hG => cx_recv X (k := 11) (n := 9) rfl rfl h11 hG) rfl (Nat.le_of_ble_eq_true rfl) dX11_isLived_36 ⟨by show _ ≤ 0; omega, by show _ ≤ 0; omega⟩ (fun _ _ => ?_)
    refine z_if_ne (tgt := 50) X dX11_isLived_39 (by decide) (fun q => ?_) (fun q => ?_)
    · have h := zp q h
      refine z_aload_n X dX11_isLived_42 rfl rfl ?_
      refine z_aload_n X dX11_isLived_43 rfl rfl ?_
      refine z_iconst (v := 2) X dX11_isLived_44 (by decide) ?_
      obtain ⟨o3, co3, h⟩ := zb2 h
      exact absurd ho (by rw [← Option.some.inj h]; exact (by decide : ¬ (0 : Int32) = 1))
    · have h := zn q h
      refine zz.pick (lo' := [(0, .ref (ad 11 0)), (1, .ref (ad 4 v1.toNatClampNeg)), (2, .int v2)]) [0, 1, 2] rfl ?_
      exact bc_isLived0_50 X hml hr ⟨by omega, by omega⟩ ho h11 hax hN0 fv1 h
set_option maxRecDepth 100000 in
set_option maxHeartbeats 4000000 in
theorem bc_isLived0 {p : Program} {l : Launch} {e : Env} {s : State} {m : MethodId} {args : Array Value} {below : List Frame} {meth : Method} {c : Code} {D : va_G} {dA : Nat → ClassId} {A : Nat → Prop} {xs : va_W} {o : CW × Int32} (X : zc p l s m args meth c cX11_isLived RX11 D dA A) (hml : c.maxLocals = 3) (hr : meth.sig.returnType = (some .boolean)) {cells slots : Nat} (hcs : cells + 0 ≤ 0 ∧ slots + 0 ≤ 0) {V : Rho} {L : Lst} {N : Cnt} {ad : Adr} (ho : o.2 = 1) (h11 : 0 < N 11) {a1 : Int32} (va1 : vp_in a1 (N 4)) (h : fc_isLived V L N a1 = some o) : zz p l e ({ frames := 12, cells := 0, slots := 0, locals := 504 } : Room) s m args below meth c A (cx D dA A V L N ad xs) cells slots (MQ below (va_Qi (fun r (w9 : Adr) => r = o.2 ∧ axt N ad w9 ∧ (∀ k, N k ≤ o.1.2.2 k)) (fun (w9 : Adr) t => cx D dA A o.1.1 o.1.2.1 o.1.2.2 w9 xs t.heap) A) args s 0 0 A) 0 [(0, .ref (ad 11 0)), (1, .ref (ad 4 a1.toNatClampNeg))] [] [] := by
  obtain ⟨hcs1, hcs2⟩ := hcs
  have hax := axt.rf N ad
  have hN0 := fun k => Nat.le_refl (N k)
  unfold fc_isLived at h
  refine z_aload_n X dX11_isLived_0 rfl rfl ?_
  refine z_aload_n X dX11_isLived_1 rfl rfl ?_
  refine c_get X 4 1 (v := .ref (ad 5 (V 81 a1.toNatClampNeg).toNatClampNeg)) rx4_ws rfl rfl rfl (vp_lt va1) g_929 rfl dX11_isLived_2 ?_
  refine zz.pre (fun H hG => cx_fact (k := 4) (i := a1.toNatClampNeg) (f := 1) rfl (vp_lt va1) rfl hG) (fun (p1 : vp_in (V 81 a1.toNatClampNeg) (N 5)) => ?_)
  obtain ⟨o2, co2, h⟩ := zb2 h
  refine z_callVi (As := [.ref (ad 5 (V 81 a1.toNatClampNeg).toNatClampNeg)]) (rest := []) (nA := 1) (mc := 0) (ms := 0) (rm := ({ frames := 2, cells := 0, slots := 0, locals := 84 } : Room)) (r0 := o2) (pu := fun (_ : Unit) => True) (G1 := fun _ => cx D dA A V L N ad xs) X (cc_rateNow l X.2.2.2.2.2.2.2.2 X.2.2.2.2.2.2.1 h11 p1 co2) g_1025 g_1027 gs_14 g_1 g_1028 hd_yX11_rateNow ⟨rfl, rfl, Nat.le_of_ble_eq_true rfl, Nat.le_of_ble_eq_true rfl⟩ rfl (fun _ hG => cx_recv X (k := 11) (n := 9) rfl rfl h11 hG) rfl (Nat.le_of_ble_eq_true rfl) dX11_isLived_5 ⟨by show _ ≤ 0; omega, by show _ ≤ 0; omega⟩ (fun _ _ => ?_)
  refine z_istore_n (lo' := [(2, .int o2), (0, .ref (ad 11 0)), (1, .ref (ad 4 a1.toNatClampNeg))]) X dX11_isLived_8 rfl (by rw [hml]; decide) rfl rfl ?_
  refine z_aload_n X dX11_isLived_9 rfl rfl ?_
  refine z_aload_n X dX11_isLived_10 rfl rfl ?_
  refine z_iload_n X dX11_isLived_11 rfl rfl ?_
  obtain ⟨o3, co3, h⟩ := zb2 h
  refine z_callVi (As := [.ref (ad 4 a1.toNatClampNeg), .int o2]) (rest := []) (nA := 2) (mc := 0) (ms := 0) (rm := ({ frames := 2, cells := 0, slots := 0, locals := 84 } : Room)) (r0 := o3) (pu := fun (_ : Unit) => True) (G1 := fun _ => cx D dA A V L N ad xs) X (cc_isSliceFit l X.2.2.2.2.2.2.2.2 X.2.2.2.2.2.2.1 h11 va1 co3) g_1129 g_1131 gs_23 g_1 g_1132 hd_yX11_isSliceFit ⟨rfl, rfl, Nat.le_of_ble_eq_true rfl, Nat.le_of_ble_eq_true rfl⟩ rfl (fun _ hG => cx_recv X (k := 11) (n := 9) rfl rfl h11 hG) rfl (Nat.le_of_ble_eq_true rfl) dX11_isLived_12 ⟨by show _ ≤ 0; omega, by show _ ≤ 0; omega⟩ (fun _ _ => ?_)
  refine z_if_ne (tgt := 23) X dX11_isLived_15 (by decide) (fun q => ?_) (fun q => ?_)
  · have h := zp q h
    refine z_aload_n X dX11_isLived_18 rfl rfl ?_
    refine z_aload_n X dX11_isLived_19 rfl rfl ?_
    obtain ⟨o4, co4, h⟩ := zb2 h
    refine z_callVv (As := [.ref (ad 4 a1.toNatClampNeg)]) (rest := []) (nA := 1) (mc := 0) (ms := 0) (rm := ({ frames := 2, cells := 0, slots := 0, locals := 84 } : Room)) (pu := fun (_ : Unit) => True) (G1 := fun _ => cx D dA A o4 L N ad xs) X (cc_giveBack l X.2.2.2.2.2.2.2.2 X.2.2.2.2.2.2.1 h11 va1 co4) g_1057 g_1059 gs_19 g_1 g_1060 hd_yX11_giveBack ⟨rfl, rfl, Nat.le_of_ble_eq_true rfl, Nat.le_of_ble_eq_true rfl⟩ rfl (fun _ hG => cx_recv X (k := 11) (n := 9) rfl rfl h11 hG) rfl (Nat.le_of_ble_eq_true rfl) dX11_isLived_20 ⟨by show _ ≤ 0; omega, by show _ ≤ 0; omega⟩ (fun _ _ => ?_)
    refine zz.pick (lo' := [(0, .ref (ad 11 0)), (1, .ref (ad 4 a1.toNatClampNeg)), (2, .int o2)]) [0, 1, 2] rfl ?_
    exact bc_isLived0_23 X hml hr ⟨by omega, by omega⟩ ho h11 hax hN0 va1 h
  · have h := zn q h
    refine zz.pick (lo' := [(0, .ref (ad 11 0)), (1, .ref (ad 4 a1.toNatClampNeg)), (2, .int o2)]) [0, 1, 2] rfl ?_
    exact bc_isLived0_23 X hml hr ⟨by omega, by omega⟩ ho h11 hax hN0 va1 h
theorem cc_isLived0 (l : Launch) {D : va_G} {dA : Nat → ClassId} {A : Nat → Prop} {n : Nat} (hst : l.stackTraces = false) (hA : ∀ q, n ≤ q → A q) {V : Rho} {L : Lst} {N : Cnt} {ad : Adr} {xs : va_W} (h11 : 0 < N 11) {a1 : Int32} (va1 : vp_in a1 (N 4)) {o : CW × Int32} (ho : o.2 = 1) (h : fc_isLived V L N a1 = some o) : Met l yX11_isLived (.code yX11_isLived cX11_isLived 3 (some .boolean) :: gT) ({ frames := 12, cells := 0, slots := 0, locals := 504 } : Room) (va_Pc [.ref (ad 11 0), .ref (ad 4 a1.toNatClampNeg)] (zB D dA A n (cx D dA A V L N ad xs))) (va_Qi (fun r (w9 : Adr) => r = o.2 ∧ axt N ad w9 ∧ (∀ k, N k ≤ o.1.2.2 k)) (fun (w9 : Adr) t => cx D dA A o.1.1 o.1.2.1 o.1.2.2 w9 xs t.heap) A) 0 0 A :=
  z_met (by decide) hA hst (Nat.le_of_ble_eq_true rfl) rfl rfl (fun p e s m below meth c X hml hr _ => bc_isLived0 X hml hr ⟨by omega, by omega⟩ ho h11 va1 h)
