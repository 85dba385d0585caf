section
-- ===== PART A: goes FIRST, ahead of the names: the tables' words, and 'selects' of the private methods out of them =====
/-- a private method of a class that the tables say can be made, by its rows of tables_1 -/
def lw_okq (q : MethodName × Nat) : Prop := (q.1.cls ≠ "java/lang/invoke/MethodHandle" ∧ q.1.cls ≠ "java/lang/invoke/VarHandle") ∧ Cond.instantiable q.1.cls q.2 ∈ tables_1 ∧ Cond.privateMethod q.1 ∈ tables_1 ∧ Cond.instanceMethod q.1 ∈ tables_1
theorem lw_p0 : lw_okq (⟨"java/util/ArrayList", "add", "(Ljava/lang/Object;[Ljava/lang/Object;I)V"⟩, 3) := ⟨⟨by decide +kernel, by decide +kernel⟩, List.mem_of_getElem? (i := 53) (by decide +kernel), List.mem_of_getElem? (i := 111) (by decide +kernel), List.mem_of_getElem? (i := 112) (by decide +kernel)⟩
theorem lw_p1 : lw_okq (⟨"java/util/ArrayList", "grow", "()[Ljava/lang/Object;"⟩, 3) := ⟨⟨by decide +kernel, by decide +kernel⟩, List.mem_of_getElem? (i := 53) (by decide +kernel), List.mem_of_getElem? (i := 115) (by decide +kernel), List.mem_of_getElem? (i := 116) (by decide +kernel)⟩
theorem lw_p2 : lw_okq (⟨"java/util/ArrayList", "grow", "(I)[Ljava/lang/Object;"⟩, 3) := ⟨⟨by decide +kernel, by decide +kernel⟩, List.mem_of_getElem? (i := 53) (by decide +kernel), List.mem_of_getElem? (i := 119) (by decide +kernel), List.mem_of_getElem? (i := 120) (by decide +kernel)⟩
theorem lw_p3 : lw_okq (⟨"MeshBiller", "cellAt", "(I)LMeshBiller$Cell;"⟩, 9) := ⟨⟨by decide +kernel, by decide +kernel⟩, List.mem_of_getElem? (i := 37) (by decide +kernel), List.mem_of_getElem? (i := 323) (by decide +kernel), List.mem_of_getElem? (i := 324) (by decide +kernel)⟩
theorem lw_p4 : lw_okq (⟨"java/lang/Throwable", "fillInStackTrace", "(I)Ljava/lang/Throwable;"⟩, 6) := ⟨⟨by decide +kernel, by decide +kernel⟩, List.mem_of_getElem? (i := 365) (by decide +kernel), List.mem_of_getElem? (i := 363) (by decide +kernel), List.mem_of_getElem? (i := 364) (by decide +kernel)⟩
theorem lw_p5 : lw_okq (⟨"MeshBiller", "legsIn", "(LMeshBiller$Cell;)I"⟩, 9) := ⟨⟨by decide +kernel, by decide +kernel⟩, List.mem_of_getElem? (i := 37) (by decide +kernel), List.mem_of_getElem? (i := 442) (by decide +kernel), List.mem_of_getElem? (i := 443) (by decide +kernel)⟩
theorem lw_p6 : lw_okq (⟨"MeshBiller", "phoneAt", "(I)LMeshBiller$Phone;"⟩, 9) := ⟨⟨by decide +kernel, by decide +kernel⟩, List.mem_of_getElem? (i := 37) (by decide +kernel), List.mem_of_getElem? (i := 478) (by decide +kernel), List.mem_of_getElem? (i := 479) (by decide +kernel)⟩
theorem lw_p7 : lw_okq (⟨"MeshBiller", "walletAt", "(I)LMeshBiller$Wallet;"⟩, 9) := ⟨⟨by decide +kernel, by decide +kernel⟩, List.mem_of_getElem? (i := 37) (by decide +kernel), List.mem_of_getElem? (i := 492) (by decide +kernel), List.mem_of_getElem? (i := 493) (by decide +kernel)⟩
theorem lw_p8 : lw_okq (⟨"java/util/ArrayList", "rangeCheckForAdd", "(I)V"⟩, 3) := ⟨⟨by decide +kernel, by decide +kernel⟩, List.mem_of_getElem? (i := 53) (by decide +kernel), List.mem_of_getElem? (i := 577) (by decide +kernel), List.mem_of_getElem? (i := 578) (by decide +kernel)⟩
theorem lw_p9 : lw_okq (⟨"java/util/ArrayList", "outOfBoundsMsg", "(I)Ljava/lang/String;"⟩, 3) := ⟨⟨by decide +kernel, by decide +kernel⟩, List.mem_of_getElem? (i := 53) (by decide +kernel), List.mem_of_getElem? (i := 582) (by decide +kernel), List.mem_of_getElem? (i := 583) (by decide +kernel)⟩
theorem lw_p10 : lw_okq (⟨"MeshBiller", "openChannels", "(LMeshBiller$Cell;)I"⟩, 9) := ⟨⟨by decide +kernel, by decide +kernel⟩, List.mem_of_getElem? (i := 37) (by decide +kernel), List.mem_of_getElem? (i := 867) (by decide +kernel), List.mem_of_getElem? (i := 868) (by decide +kernel)⟩
theorem lw_p11 : lw_okq (⟨"MeshBiller", "openLeg", "(LMeshBiller$Phone;LMeshBiller$Call;Z)LMeshBiller$Leg;"⟩, 9) := ⟨⟨by decide +kernel, by decide +kernel⟩, List.mem_of_getElem? (i := 37) (by decide +kernel), List.mem_of_getElem? (i := 894) (by decide +kernel), List.mem_of_getElem? (i := 895) (by decide +kernel)⟩
theorem lw_p12 : lw_okq (⟨"MeshBiller", "takeSliceOrCut", "(LMeshBiller$Leg;)V"⟩, 9) := ⟨⟨by decide +kernel, by decide +kernel⟩, List.mem_of_getElem? (i := 37) (by decide +kernel), List.mem_of_getElem? (i := 1004) (by decide +kernel), List.mem_of_getElem? (i := 1005) (by decide +kernel)⟩
theorem lw_p13 : lw_okq (⟨"MeshBiller", "takeSlice", "(LMeshBiller$Leg;)Z"⟩, 9) := ⟨⟨by decide +kernel, by decide +kernel⟩, List.mem_of_getElem? (i := 37) (by decide +kernel), List.mem_of_getElem? (i := 1008) (by decide +kernel), List.mem_of_getElem? (i := 1009) (by decide +kernel)⟩
theorem lw_p14 : lw_okq (⟨"MeshBiller", "rateNow", "(LMeshBiller$Phone;)I"⟩, 9) := ⟨⟨by decide +kernel, by decide +kernel⟩, List.mem_of_getElem? (i := 37) (by decide +kernel), List.mem_of_getElem? (i := 1026) (by decide +kernel), List.mem_of_getElem? (i := 1027) (by decide +kernel)⟩
theorem lw_p15 : lw_okq (⟨"MeshBiller", "raiseMoney", "(LMeshBiller$Leg;I)V"⟩, 9) := ⟨⟨by decide +kernel, by decide +kernel⟩, List.mem_of_getElem? (i := 37) (by decide +kernel), List.mem_of_getElem? (i := 1038) (by decide +kernel), List.mem_of_getElem? (i := 1039) (by decide +kernel)⟩
def lw_privs_1 : List (MethodName × Nat) := [(⟨"java/util/ArrayList", "add", "(Ljava/lang/Object;[Ljava/lang/Object;I)V"⟩, 3), (⟨"java/util/ArrayList", "grow", "()[Ljava/lang/Object;"⟩, 3), (⟨"java/util/ArrayList", "grow", "(I)[Ljava/lang/Object;"⟩, 3), (⟨"MeshBiller", "cellAt", "(I)LMeshBiller$Cell;"⟩, 9), (⟨"java/lang/Throwable", "fillInStackTrace", "(I)Ljava/lang/Throwable;"⟩, 6), (⟨"MeshBiller", "legsIn", "(LMeshBiller$Cell;)I"⟩, 9), (⟨"MeshBiller", "phoneAt", "(I)LMeshBiller$Phone;"⟩, 9), (⟨"MeshBiller", "walletAt", "(I)LMeshBiller$Wallet;"⟩, 9), (⟨"java/util/ArrayList", "rangeCheckForAdd", "(I)V"⟩, 3), (⟨"java/util/ArrayList", "outOfBoundsMsg", "(I)Ljava/lang/String;"⟩, 3), (⟨"MeshBiller", "openChannels", "(LMeshBiller$Cell;)I"⟩, 9), (⟨"MeshBiller", "openLeg", "(LMeshBiller$Phone;LMeshBiller$Call;Z)LMeshBiller$Leg;"⟩, 9), (⟨"MeshBiller", "takeSliceOrCut", "(LMeshBiller$Leg;)V"⟩, 9), (⟨"MeshBiller", "takeSlice", "(LMeshBiller$Leg;)Z"⟩, 9), (⟨"MeshBiller", "rateNow", "(LMeshBiller$Phone;)I"⟩, 9), (⟨"MeshBiller", "raiseMoney", "(LMeshBiller$Leg;I)V"⟩, 9)]
theorem lw_r1 : ∀ q ∈ lw_privs_1, lw_okq q := List.forall_mem_cons.mpr ⟨lw_p0, List.forall_mem_cons.mpr ⟨lw_p1, List.forall_mem_cons.mpr ⟨lw_p2, List.forall_mem_cons.mpr ⟨lw_p3, List.forall_mem_cons.mpr ⟨lw_p4, List.forall_mem_cons.mpr ⟨lw_p5, List.forall_mem_cons.mpr ⟨lw_p6, List.forall_mem_cons.mpr ⟨lw_p7, List.forall_mem_cons.mpr ⟨lw_p8, List.forall_mem_cons.mpr ⟨lw_p9, List.forall_mem_cons.mpr ⟨lw_p10, List.forall_mem_cons.mpr ⟨lw_p11, List.forall_mem_cons.mpr ⟨lw_p12, List.forall_mem_cons.mpr ⟨lw_p13, List.forall_mem_cons.mpr ⟨lw_p14, List.forall_mem_cons.mpr ⟨lw_p15, fun _ h => absurd h List.not_mem_nil⟩⟩⟩⟩⟩⟩⟩⟩⟩⟩⟩⟩⟩⟩⟩⟩
theorem lw_p16 : lw_okq (⟨"MeshBiller", "findRichestOther", "(LMeshBiller$Leg;)LMeshBiller$Leg;"⟩, 9) := ⟨⟨by decide +kernel, by decide +kernel⟩, List.mem_of_getElem? (i := 37) (by decide +kernel), List.mem_of_getElem? (i := 1042) (by decide +kernel), List.mem_of_getElem? (i := 1043) (by decide +kernel)⟩
theorem lw_p17 : lw_okq (⟨"MeshBiller", "closeLeg", "(LMeshBiller$Leg;I)V"⟩, 9) := ⟨⟨by decide +kernel, by decide +kernel⟩, List.mem_of_getElem? (i := 37) (by decide +kernel), List.mem_of_getElem? (i := 1050) (by decide +kernel), List.mem_of_getElem? (i := 1051) (by decide +kernel)⟩
theorem lw_p18 : lw_okq (⟨"MeshBiller", "finishLeg", "(LMeshBiller$Leg;I)V"⟩, 9) := ⟨⟨by decide +kernel, by decide +kernel⟩, List.mem_of_getElem? (i := 37) (by decide +kernel), List.mem_of_getElem? (i := 1054) (by decide +kernel), List.mem_of_getElem? (i := 1055) (by decide +kernel)⟩
theorem lw_p19 : lw_okq (⟨"MeshBiller", "giveBack", "(LMeshBiller$Leg;)V"⟩, 9) := ⟨⟨by decide +kernel, by decide +kernel⟩, List.mem_of_getElem? (i := 37) (by decide +kernel), List.mem_of_getElem? (i := 1058) (by decide +kernel), List.mem_of_getElem? (i := 1059) (by decide +kernel)⟩
theorem lw_p20 : lw_okq (⟨"MeshBiller", "callAt", "(I)LMeshBiller$Call;"⟩, 9) := ⟨⟨by decide +kernel, by decide +kernel⟩, List.mem_of_getElem? (i := 37) (by decide +kernel), List.mem_of_getElem? (i := 1080) (by decide +kernel), List.mem_of_getElem? (i := 1081) (by decide +kernel)⟩
theorem lw_p21 : lw_okq (⟨"MeshBiller", "liveSecond", "()I"⟩, 9) := ⟨⟨by decide +kernel, by decide +kernel⟩, List.mem_of_getElem? (i := 37) (by decide +kernel), List.mem_of_getElem? (i := 1122) (by decide +kernel), List.mem_of_getElem? (i := 1123) (by decide +kernel)⟩
theorem lw_p22 : lw_okq (⟨"MeshBiller", "isLived", "(LMeshBiller$Leg;)Z"⟩, 9) := ⟨⟨by decide +kernel, by decide +kernel⟩, List.mem_of_getElem? (i := 37) (by decide +kernel), List.mem_of_getElem? (i := 1126) (by decide +kernel), List.mem_of_getElem? (i := 1127) (by decide +kernel)⟩
theorem lw_p23 : lw_okq (⟨"MeshBiller", "isSliceFit", "(LMeshBiller$Leg;I)Z"⟩, 9) := ⟨⟨by decide +kernel, by decide +kernel⟩, List.mem_of_getElem? (i := 37) (by decide +kernel), List.mem_of_getElem? (i := 1130) (by decide +kernel), List.mem_of_getElem? (i := 1131) (by decide +kernel)⟩
theorem lw_p24 : lw_okq (⟨"MeshBiller", "legAt", "(I)LMeshBiller$Leg;"⟩, 9) := ⟨⟨by decide +kernel, by decide +kernel⟩, List.mem_of_getElem? (i := 37) (by decide +kernel), List.mem_of_getElem? (i := 1185) (by decide +kernel), List.mem_of_getElem? (i := 1186) (by decide +kernel)⟩
theorem lw_p25 : lw_okq (⟨"MeshBillerModel", "can", "(I)Z"⟩, 40) := ⟨⟨by decide +kernel, by decide +kernel⟩, List.mem_of_getElem? (i := 1301) (by decide +kernel), List.mem_of_getElem? (i := 1446) (by decide +kernel), List.mem_of_getElem? (i := 1447) (by decide +kernel)⟩
theorem lw_p26 : lw_okq (⟨"MeshBillerModel", "legsIn", "(I)I"⟩, 40) := ⟨⟨by decide +kernel, by decide +kernel⟩, List.mem_of_getElem? (i := 1301) (by decide +kernel), List.mem_of_getElem? (i := 1454) (by decide +kernel), List.mem_of_getElem? (i := 1455) (by decide +kernel)⟩
theorem lw_p27 : lw_okq (⟨"MeshBillerModel", "today", "()I"⟩, 40) := ⟨⟨by decide +kernel, by decide +kernel⟩, List.mem_of_getElem? (i := 1301) (by decide +kernel), List.mem_of_getElem? (i := 1493) (by decide +kernel), List.mem_of_getElem? (i := 1494) (by decide +kernel)⟩
theorem lw_p28 : lw_okq (⟨"MeshBillerModel", "moneyIn", "(I)I"⟩, 40) := ⟨⟨by decide +kernel, by decide +kernel⟩, List.mem_of_getElem? (i := 1301) (by decide +kernel), List.mem_of_getElem? (i := 1505) (by decide +kernel), List.mem_of_getElem? (i := 1506) (by decide +kernel)⟩
theorem lw_p29 : lw_okq (⟨"MeshBillerModel", "isOver", "(I)Z"⟩, 40) := ⟨⟨by decide +kernel, by decide +kernel⟩, List.mem_of_getElem? (i := 1301) (by decide +kernel), List.mem_of_getElem? (i := 1517) (by decide +kernel), List.mem_of_getElem? (i := 1518) (by decide +kernel)⟩
theorem lw_p30 : lw_okq (⟨"MeshBillerModel", "hasChannels", "(II)Z"⟩, 40) := ⟨⟨by decide +kernel, by decide +kernel⟩, List.mem_of_getElem? (i := 1301) (by decide +kernel), List.mem_of_getElem? (i := 1525) (by decide +kernel), List.mem_of_getElem? (i := 1526) (by decide +kernel)⟩
theorem lw_p31 : lw_okq (⟨"MeshBillerModel", "begins", "(III)I"⟩, 40) := ⟨⟨by decide +kernel, by decide +kernel⟩, List.mem_of_getElem? (i := 1301) (by decide +kernel), List.mem_of_getElem? (i := 1529) (by decide +kernel), List.mem_of_getElem? (i := 1530) (by decide +kernel)⟩
def lw_privs_2 : List (MethodName × Nat) := [(⟨"MeshBiller", "findRichestOther", "(LMeshBiller$Leg;)LMeshBiller$Leg;"⟩, 9), (⟨"MeshBiller", "closeLeg", "(LMeshBiller$Leg;I)V"⟩, 9), (⟨"MeshBiller", "finishLeg", "(LMeshBiller$Leg;I)V"⟩, 9), (⟨"MeshBiller", "giveBack", "(LMeshBiller$Leg;)V"⟩, 9), (⟨"MeshBiller", "callAt", "(I)LMeshBiller$Call;"⟩, 9), (⟨"MeshBiller", "liveSecond", "()I"⟩, 9), (⟨"MeshBiller", "isLived", "(LMeshBiller$Leg;)Z"⟩, 9), (⟨"MeshBiller", "isSliceFit", "(LMeshBiller$Leg;I)Z"⟩, 9), (⟨"MeshBiller", "legAt", "(I)LMeshBiller$Leg;"⟩, 9), (⟨"MeshBillerModel", "can", "(I)Z"⟩, 40), (⟨"MeshBillerModel", "legsIn", "(I)I"⟩, 40), (⟨"MeshBillerModel", "today", "()I"⟩, 40), (⟨"MeshBillerModel", "moneyIn", "(I)I"⟩, 40), (⟨"MeshBillerModel", "isOver", "(I)Z"⟩, 40), (⟨"MeshBillerModel", "hasChannels", "(II)Z"⟩, 40), (⟨"MeshBillerModel", "begins", "(III)I"⟩, 40)]
theorem lw_r2 : ∀ q ∈ lw_privs_2, lw_okq q := List.forall_mem_cons.mpr ⟨lw_p16, List.forall_mem_cons.mpr ⟨lw_p17, List.forall_mem_cons.mpr ⟨lw_p18, List.forall_mem_cons.mpr ⟨lw_p19, List.forall_mem_cons.mpr ⟨lw_p20, List.forall_mem_cons.mpr ⟨lw_p21, List.forall_mem_cons.mpr ⟨lw_p22, List.forall_mem_cons.mpr ⟨lw_p23, List.forall_mem_cons.mpr ⟨lw_p24, List.forall_mem_cons.mpr ⟨lw_p25, List.forall_mem_cons.mpr ⟨lw_p26, List.forall_mem_cons.mpr ⟨lw_p27, List.forall_mem_cons.mpr ⟨lw_p28, List.forall_mem_cons.mpr ⟨lw_p29, List.forall_mem_cons.mpr ⟨lw_p30, List.forall_mem_cons.mpr ⟨lw_p31, fun _ h => absurd h List.not_mem_nil⟩⟩⟩⟩⟩⟩⟩⟩⟩⟩⟩⟩⟩⟩⟩⟩
theorem lw_p32 : lw_okq (⟨"MeshBillerModel", "notes", "(IIII)V"⟩, 40) := ⟨⟨by decide +kernel, by decide +kernel⟩, List.mem_of_getElem? (i := 1301) (by decide +kernel), List.mem_of_getElem? (i := 1533) (by decide +kernel), List.mem_of_getElem? (i := 1534) (by decide +kernel)⟩
theorem lw_p33 : lw_okq (⟨"MeshBillerModel", "getsSlice", "(I)V"⟩, 40) := ⟨⟨by decide +kernel, by decide +kernel⟩, List.mem_of_getElem? (i := 1301) (by decide +kernel), List.mem_of_getElem? (i := 1540) (by decide +kernel), List.mem_of_getElem? (i := 1541) (by decide +kernel)⟩
theorem lw_p34 : lw_okq (⟨"MeshBillerModel", "bundleFor", "(I)I"⟩, 40) := ⟨⟨by decide +kernel, by decide +kernel⟩, List.mem_of_getElem? (i := 1301) (by decide +kernel), List.mem_of_getElem? (i := 1544) (by decide +kernel), List.mem_of_getElem? (i := 1545) (by decide +kernel)⟩
theorem lw_p35 : lw_okq (⟨"MeshBillerModel", "isAhead", "(II)Z"⟩, 40) := ⟨⟨by decide +kernel, by decide +kernel⟩, List.mem_of_getElem? (i := 1301) (by decide +kernel), List.mem_of_getElem? (i := 1548) (by decide +kernel), List.mem_of_getElem? (i := 1549) (by decide +kernel)⟩
theorem lw_p36 : lw_okq (⟨"MeshBillerModel", "moneyFor", "(I)I"⟩, 40) := ⟨⟨by decide +kernel, by decide +kernel⟩, List.mem_of_getElem? (i := 1301) (by decide +kernel), List.mem_of_getElem? (i := 1552) (by decide +kernel), List.mem_of_getElem? (i := 1553) (by decide +kernel)⟩
theorem lw_p37 : lw_okq (⟨"MeshBillerModel", "rateNow", "(I)I"⟩, 40) := ⟨⟨by decide +kernel, by decide +kernel⟩, List.mem_of_getElem? (i := 1301) (by decide +kernel), List.mem_of_getElem? (i := 1556) (by decide +kernel), List.mem_of_getElem? (i := 1557) (by decide +kernel)⟩
theorem lw_p38 : lw_okq (⟨"MeshBillerModel", "lets", "(II)I"⟩, 40) := ⟨⟨by decide +kernel, by decide +kernel⟩, List.mem_of_getElem? (i := 1301) (by decide +kernel), List.mem_of_getElem? (i := 1560) (by decide +kernel), List.mem_of_getElem? (i := 1561) (by decide +kernel)⟩
theorem lw_p39 : lw_okq (⟨"MeshBillerModel", "costToday", "(I)I"⟩, 40) := ⟨⟨by decide +kernel, by decide +kernel⟩, List.mem_of_getElem? (i := 1301) (by decide +kernel), List.mem_of_getElem? (i := 1564) (by decide +kernel), List.mem_of_getElem? (i := 1565) (by decide +kernel)⟩
theorem lw_p40 : lw_okq (⟨"MeshBillerModel", "giverTo", "(I)I"⟩, 40) := ⟨⟨by decide +kernel, by decide +kernel⟩, List.mem_of_getElem? (i := 1301) (by decide +kernel), List.mem_of_getElem? (i := 1568) (by decide +kernel), List.mem_of_getElem? (i := 1569) (by decide +kernel)⟩
theorem lw_p41 : lw_okq (⟨"MeshBillerModel", "goesBack", "(II)V"⟩, 40) := ⟨⟨by decide +kernel, by decide +kernel⟩, List.mem_of_getElem? (i := 1301) (by decide +kernel), List.mem_of_getElem? (i := 1572) (by decide +kernel), List.mem_of_getElem? (i := 1573) (by decide +kernel)⟩
theorem lw_p42 : lw_okq (⟨"MeshBillerModel", "closes", "(III)V"⟩, 40) := ⟨⟨by decide +kernel, by decide +kernel⟩, List.mem_of_getElem? (i := 1301) (by decide +kernel), List.mem_of_getElem? (i := 1576) (by decide +kernel), List.mem_of_getElem? (i := 1577) (by decide +kernel)⟩
theorem lw_p43 : lw_okq (⟨"MeshBillerModel", "stops", "(III)V"⟩, 40) := ⟨⟨by decide +kernel, by decide +kernel⟩, List.mem_of_getElem? (i := 1301) (by decide +kernel), List.mem_of_getElem? (i := 1580) (by decide +kernel), List.mem_of_getElem? (i := 1581) (by decide +kernel)⟩
theorem lw_p44 : lw_okq (⟨"MeshBillerModel", "allGoesBack", "(I)V"⟩, 40) := ⟨⟨by decide +kernel, by decide +kernel⟩, List.mem_of_getElem? (i := 1301) (by decide +kernel), List.mem_of_getElem? (i := 1584) (by decide +kernel), List.mem_of_getElem? (i := 1585) (by decide +kernel)⟩
theorem lw_p45 : lw_okq (⟨"MeshBillerModel", "partiesOf", "(I)I"⟩, 40) := ⟨⟨by decide +kernel, by decide +kernel⟩, List.mem_of_getElem? (i := 1301) (by decide +kernel), List.mem_of_getElem? (i := 1588) (by decide +kernel), List.mem_of_getElem? (i := 1589) (by decide +kernel)⟩
theorem lw_p46 : lw_okq (⟨"MeshBillerModel", "isCall", "(I)Z"⟩, 40) := ⟨⟨by decide +kernel, by decide +kernel⟩, List.mem_of_getElem? (i := 1301) (by decide +kernel), List.mem_of_getElem? (i := 1596) (by decide +kernel), List.mem_of_getElem? (i := 1597) (by decide +kernel)⟩
theorem lw_p47 : lw_okq (⟨"MeshBillerModel", "lives", "(I)V"⟩, 40) := ⟨⟨by decide +kernel, by decide +kernel⟩, List.mem_of_getElem? (i := 1301) (by decide +kernel), List.mem_of_getElem? (i := 1616) (by decide +kernel), List.mem_of_getElem? (i := 1617) (by decide +kernel)⟩
def lw_privs_3 : List (MethodName × Nat) := [(⟨"MeshBillerModel", "notes", "(IIII)V"⟩, 40), (⟨"MeshBillerModel", "getsSlice", "(I)V"⟩, 40), (⟨"MeshBillerModel", "bundleFor", "(I)I"⟩, 40), (⟨"MeshBillerModel", "isAhead", "(II)Z"⟩, 40), (⟨"MeshBillerModel", "moneyFor", "(I)I"⟩, 40), (⟨"MeshBillerModel", "rateNow", "(I)I"⟩, 40), (⟨"MeshBillerModel", "lets", "(II)I"⟩, 40), (⟨"MeshBillerModel", "costToday", "(I)I"⟩, 40), (⟨"MeshBillerModel", "giverTo", "(I)I"⟩, 40), (⟨"MeshBillerModel", "goesBack", "(II)V"⟩, 40), (⟨"MeshBillerModel", "closes", "(III)V"⟩, 40), (⟨"MeshBillerModel", "stops", "(III)V"⟩, 40), (⟨"MeshBillerModel", "allGoesBack", "(I)V"⟩, 40), (⟨"MeshBillerModel", "partiesOf", "(I)I"⟩, 40), (⟨"MeshBillerModel", "isCall", "(I)Z"⟩, 40), (⟨"MeshBillerModel", "lives", "(I)V"⟩, 40)]
theorem lw_r3 : ∀ q ∈ lw_privs_3, lw_okq q := List.forall_mem_cons.mpr ⟨lw_p32, List.forall_mem_cons.mpr ⟨lw_p33, List.forall_mem_cons.mpr ⟨lw_p34, List.forall_mem_cons.mpr ⟨lw_p35, List.forall_mem_cons.mpr ⟨lw_p36, List.forall_mem_cons.mpr ⟨lw_p37, List.forall_mem_cons.mpr ⟨lw_p38, List.forall_mem_cons.mpr ⟨lw_p39, List.forall_mem_cons.mpr ⟨lw_p40, List.forall_mem_cons.mpr ⟨lw_p41, List.forall_mem_cons.mpr ⟨lw_p42, List.forall_mem_cons.mpr ⟨lw_p43, List.forall_mem_cons.mpr ⟨lw_p44, List.forall_mem_cons.mpr ⟨lw_p45, List.forall_mem_cons.mpr ⟨lw_p46, List.forall_mem_cons.mpr ⟨lw_p47, fun _ h => absurd h List.not_mem_nil⟩⟩⟩⟩⟩⟩⟩⟩⟩⟩⟩⟩⟩⟩⟩⟩
theorem lw_p48 : lw_okq (⟨"MeshBillerModel", "rates", "(I)V"⟩, 40) := ⟨⟨by decide +kernel, by decide +kernel⟩, List.mem_of_getElem? (i := 1301) (by decide +kernel), List.mem_of_getElem? (i := 1620) (by decide +kernel), List.mem_of_getElem? (i := 1621) (by decide +kernel)⟩
theorem lw_p49 : lw_okq (⟨"MeshBillerModel", "isAsked", "(I)Z"⟩, 40) := ⟨⟨by decide +kernel, by decide +kernel⟩, List.mem_of_getElem? (i := 1301) (by decide +kernel), List.mem_of_getElem? (i := 1632) (by decide +kernel), List.mem_of_getElem? (i := 1633) (by decide +kernel)⟩
theorem lw_p50 : lw_okq (⟨"MeshBillerModel", "isAskedOf", "(I)Z"⟩, 40) := ⟨⟨by decide +kernel, by decide +kernel⟩, List.mem_of_getElem? (i := 1301) (by decide +kernel), List.mem_of_getElem? (i := 1660) (by decide +kernel), List.mem_of_getElem? (i := 1661) (by decide +kernel)⟩
theorem lw_p51 : lw_okq (⟨"MeshBillerModel", "isLeg", "(I)Z"⟩, 40) := ⟨⟨by decide +kernel, by decide +kernel⟩, List.mem_of_getElem? (i := 1301) (by decide +kernel), List.mem_of_getElem? (i := 1664) (by decide +kernel), List.mem_of_getElem? (i := 1665) (by decide +kernel)⟩
theorem lw_p52 : lw_okq (⟨"MeshBillerModel", "sealOf", "(I)I"⟩, 40) := ⟨⟨by decide +kernel, by decide +kernel⟩, List.mem_of_getElem? (i := 1301) (by decide +kernel), List.mem_of_getElem? (i := 1692) (by decide +kernel), List.mem_of_getElem? (i := 1693) (by decide +kernel)⟩
theorem lw_p53 : lw_okq (⟨"MeshBillerModel", "sign", "(I)V"⟩, 40) := ⟨⟨by decide +kernel, by decide +kernel⟩, List.mem_of_getElem? (i := 1301) (by decide +kernel), List.mem_of_getElem? (i := 1704) (by decide +kernel), List.mem_of_getElem? (i := 1705) (by decide +kernel)⟩
theorem lw_p54 : lw_okq (⟨"MeshBillerModel", "number", "(I)V"⟩, 40) := ⟨⟨by decide +kernel, by decide +kernel⟩, List.mem_of_getElem? (i := 1301) (by decide +kernel), List.mem_of_getElem? (i := 1708) (by decide +kernel), List.mem_of_getElem? (i := 1709) (by decide +kernel)⟩
def lw_privs_4 : List (MethodName × Nat) := [(⟨"MeshBillerModel", "rates", "(I)V"⟩, 40), (⟨"MeshBillerModel", "isAsked", "(I)Z"⟩, 40), (⟨"MeshBillerModel", "isAskedOf", "(I)Z"⟩, 40), (⟨"MeshBillerModel", "isLeg", "(I)Z"⟩, 40), (⟨"MeshBillerModel", "sealOf", "(I)I"⟩, 40), (⟨"MeshBillerModel", "sign", "(I)V"⟩, 40), (⟨"MeshBillerModel", "number", "(I)V"⟩, 40)]
theorem lw_r4 : ∀ q ∈ lw_privs_4, lw_okq q := List.forall_mem_cons.mpr ⟨lw_p48, List.forall_mem_cons.mpr ⟨lw_p49, List.forall_mem_cons.mpr ⟨lw_p50, List.forall_mem_cons.mpr ⟨lw_p51, List.forall_mem_cons.mpr ⟨lw_p52, List.forall_mem_cons.mpr ⟨lw_p53, List.forall_mem_cons.mpr ⟨lw_p54, fun _ h => absurd h List.not_mem_nil⟩⟩⟩⟩⟩⟩⟩
def lw_privs : List (MethodName × Nat) := lw_privs_1 ++ (lw_privs_2 ++ (lw_privs_3 ++ (lw_privs_4)))
def lw_tbl : List Cond := k2_sels lw_privs ++ tables_1
theorem lw_privs_ok : ∀ q ∈ lw_privs, lw_okq q := by
  show ∀ q ∈ lw_privs_1 ++ (lw_privs_2 ++ (lw_privs_3 ++ (lw_privs_4))), lw_okq q
  exact List.forall_mem_append.mpr ⟨lw_r1, List.forall_mem_append.mpr ⟨lw_r2, List.forall_mem_append.mpr ⟨lw_r3, lw_r4⟩⟩⟩
-- ===== end of PART A; then your names; then what follows =====
/-! ===== BEGIN words of one list among another's, by their places ===== -/
theorem goodIn_r {big : List Cond} (ws : List Cond) (ps : List Nat) (hp : ws = ps.filterMap (fun i => big[i]?)) (h : ws.all goodWord = true) : GoodIn big ws := by
  intro w hw
  have h1 := List.all_eq_true.mp h w hw
  rw [hp] at hw
  obtain ⟨i, -, hi⟩ := List.mem_filterMap.mp hw
  have hm : w ∈ big := by first | exact List.mem_of_getElem? hi | exact List.getElem?_mem hi
  exact ⟨hm, good_of_word h1⟩
theorem goodIn_app {big a b : List Cond} (ha : GoodIn big a) (hb : GoodIn big b) : GoodIn big (a ++ b) := fun w h => (List.mem_append.mp h).elim (ha w) (hb w)
theorem goodIn_ca {big a b : List Cond} {c : Cond} (ha : GoodIn big (c :: a)) (hb : GoodIn big b) : GoodIn big (c :: (a ++ b)) := fun w h => (List.mem_cons.mp h).elim (fun e => ha w (List.mem_cons.mpr (Or.inl e))) (fun h => (List.mem_append.mp h).elim (fun h => ha w (List.mem_cons.mpr (Or.inr h))) (hb w))
theorem goodIn_sub {big ws : List Cond} (hm : ∀ w ∈ ws, w ∈ big) (h : ws.all goodWord = true) : GoodIn big ws := fun w hw => ⟨hm w hw, good_of_word (List.all_eq_true.mp h w hw)⟩
/-! ===== END ===== -/

/-! ===== BEGIN exceptions that leave a method, and their catching by the caller (launches without stack traces) ===== -/
section VXA
/-! The laws vx_back, vx_callV, vx_callS, vx_callSW, vx_throw0, vx_throwS follow proofs of the library, with one case more: JvmDerived/Free/Laws.lean (Back.of_free), Shelf42/LK1.lean (callV, callS), Shelf/KitTraced.lean (throwNew0V, throwNewS). -/
/-- where a method has thrown q: the class by its name, the cell, what was written, the world -/
def vx_T (XC : String → State → State → Prop) (st : State) (q : Addr) (t : State) (mc ms : Nat) (free : Addr → Prop) : Prop :=
  ∃ (E : String) (ce : Cell) (L : List Loc), XC E st t ∧ t.heap[q]? = some ce ∧ ce.vm = .none ∧ st.vm.findClass E = some ce.cls ∧ st.WarmedH t.vm ∧ st.sameButNew ({ t with vm := st.vm } : State) L mc ms ∧ ∀ z ∈ L, free z.base
def vx_Q (Qc : Array Value → State → Outcome → State → Prop) (XC : String → State → State → Prop) (mc ms : Nat) (free : Addr → Prop) : Array Value → State → Outcome → State → Prop := fun a st o t =>
  (Qc a st o t ∧ ∃ L, FrameEnd st o t L mc ms ∧ ∀ q ∈ L, free q.base) ∨ ∃ q, o = .threw q ∧ vx_T XC st q t mc ms free
/-- a callee that returns or throws -/
def vx_Met (l : Launch) (y : MethodName) (ws : List Cond) (rm : Room) (Pc : Array Value → State → Prop) (Qc : Array Value → State → Outcome → State → Prop) (XC : String → State → State → Prop) (mc ms : Nat) (free : Addr → Prop) : Prop :=
  MetFree l y (headSpec ws rm) Pc (fun _ _ _ _ _ => True) (vx_Q Qc XC mc ms free)
def vx_Post (XC : String → State → State → Prop) (mc ms : Nat) (free : Addr → Prop) : Pt → Array Value → Addr → Pt → Prop := fun A a q B =>
  ∃ (g : JFrame) (mk : MethodId) (t : State) (L : List Loc) (E : String) (ce : Cell), B.U.heap = t.heap ∧ B.U.vm = t.vm ∧ XC E (A.U.calling g mk a) t ∧ t.heap[q]? = some ce ∧ ce.vm = .none ∧ A.U.vm.findClass E = some ce.cls ∧ B.locs = A.locs ++ L ∧ (∀ z ∈ L, free z.base) ∧ B.cells = A.cells + mc ∧ B.slots = A.slots + ms
def vx_Back (l : Launch) (R : Room) (p : Program) (e : Env) (below : List Frame) (s : State) (sargs : Array Value) (y : MethodName) (len W9 : Nat)
    (Pre : Pt → Array Value → Prop) (Post : Pt → Array Value → Option Value → Pt → Prop) (PostX : Pt → Array Value → Addr → Pt → Prop) : Prop :=
  ∀ (m : MethodId) (meth : Method) (c : Code) (A : Pt) (g : JFrame) (ig : Instr) (mk : MethodId) (a : Array Value),
    Stand p l e R s m sargs below meth c A.U A.locs A.cells A.slots → g.method = m → g.locals.size = c.maxLocals → decode c.code g.pc = .ok (ig, len) →
    2 * g.monitorRoom + (g.stack.map fun v => v.category).sum ≤ W9 → A.U.methodNamed? y = some mk → Pre A a →
    (∃ (v : Option Value) (B : Pt), Stand p l e R s m sargs below meth c B.U B.locs B.cells B.slots ∧ Post A a v B ∧
      Steps p.tables e below (doInvoke e (A.U.setTop g) [] mk a).1 (B.U.setTop { g with pc := g.pc + len, stack := v.toList ++ g.stack })) ∨
    (∃ (q : Addr) (B : Pt), Stand p l e R s m sargs below meth c B.U B.locs B.cells B.slots ∧ PostX A a q B ∧
      Steps p.tables e below (doInvoke e (A.U.setTop g) [] mk a).1 ((B.U.setTop g).pushFrame (.throwing q)))
section Payer
variable {l : Launch} {R : Room} {p : Program} {e : Env} {below : List Frame} {s : State} {sargs : Array Value} {y : MethodName} {len W9 : Nat}
theorem vx_back {ws : List Cond} {rm : Room} {Pc : Array Value → State → Prop} {Qc : Array Value → State → Outcome → State → Prop} {XC : String → State → State → Prop} {mc ms : Nat} {free : Addr → Prop} {bytes : ByteArray} {maxL : Nat} {ret : Option FieldType}
    (hM : vx_Met l y ws rm Pc Qc XC mc ms free) (hblind : FrameBlind Pc) (hrc : rm.cells = mc) (hrs : rm.slots = ms)
    (hframes : rm.frames + 1 ≤ R.frames) (hlocals : W9 + (maxL + 11) + rm.locals ≤ R.locals)
    (hws : ∀ w ∈ ws, ∀ a' U, s.WarmedH U.vm → w.before a' U = true) (hcode : Cond.code y bytes maxL ret ∈ ws) (hinit : ∀ a' U, s.WarmedH U.vm → (Cond.initialized y.cls).before a' U = true) :
    vx_Back l R p e below s sargs y len W9 (PreOf R mc ms Pc) (PostOf Qc mc ms free) (vx_Post XC mc ms free) := by
  intro m meth c A g ig mk a X hg hsize hdg hW hn hp
  have h1 : (headSpec ws rm).pre.before a A.U = true := atoms_intro fun w hw => hws w hw _ _ X.warmed
  have h2 : (Cond.code y bytes maxL ret).before a A.U = true := hws _ hcode _ _ X.warmed
  have h3 : (Cond.initialized y.cls).before a A.U = true := hinit _ _ X.warmed
  have h4 : A.cells + (headSpec ws rm).room.cells ≤ R.cells := by rw [show (headSpec ws rm).room.cells = mc from hrc]; exact hp.1
  have h5 : A.slots + (headSpec ws rm).room.slots ≤ R.slots := by rw [show (headSpec ws rm).room.slots = ms from hrs]; exact hp.2.1
  have hPc : Pc a (A.U.calling g mk a) := hblind _ _ _ _ hp.2.2
  obtain ⟨U, Ls, c0, s0⟩ := A
  dsimp only [Pt.U, Pt.locs, Pt.cells, Pt.slots] at h1 h2 h3 h4 h5 X hn hPc ⊢
  obtain ⟨methY, cY, hmY, hcY, -, hlY, -, -, -, -⟩ := Cond.code_spec hn h2
  obtain ⟨kY, hkY, -⟩ := className_of_methodNamed hn
  have hinitY : kY.init = .initialized := Cond.initialized_spec (findClass_of_methodNamed hn) hkY h3
  have h : At U g.method c below := by rw [hg]; exact X.here
  have hlocals9 : W9 + (maxL + 11) + (headSpec ws rm).room.locals ≤ R.locals := hlocals
  have happ : (headSpec ws rm).appliesLoose y e.platform (U.calling g mk a) = true :=
    Spec.appliesLoose_calling (g := g) h hdg hn hkY hinitY
      (X.room_calling (g := g) (R' := (headSpec ws rm).room) hsize hmY hcY hframes (by rw [hlY]; omega) h4 h5) h1
  obtain ⟨mid, hmid⟩ := h.above
  have hfr : (U.setTop g).frames = (.java g :: mid) ++ below := by rw [State.frames_setTop' g h.top, hmid]; rfl
  obtain ⟨o, s₂, hsteps, -, hend, hq⟩ := Steps.callFree hM p X.admits X.cas X.clock (acts := []) hfr happ hPc trivial
  have hq' : vx_Q Qc XC mc ms free a (U.calling g mk a) o s₂ := hq
  rw [State.frames_setTop' g h.top] at hend
  obtain ⟨g₀, hg0⟩ := Option.isSome_iff_exists.mp h.top
  obtain ⟨r, hr⟩ := State.topJava?_eq_some.mp hg0
  have hr' : (({ U with heap := s₂.heap, slotsUsed := s₂.slotsUsed } : State).setVm s₂.vm).frames = .java g₀ :: r := hr
  rcases hq' with ⟨hqc, L, hfe, hL⟩ | ⟨q, rfl, E, ce, L, hx, hce, hcv, hcl, hW₂, hsm, hL⟩
  · obtain ⟨⟨v, rfl⟩, hW₂, e2, q2, q3, q4, q5, q6⟩ := id hfe
    have e3 : s₂ = ({ (U.calling g mk a).setFrames s₂.frames with heap := s₂.heap, slotsUsed := s₂.slotsUsed } : State).setVm s₂.vm := by
      have : s₂ = ({ s₂ with vm := (U.calling g mk a).vm } : State).setVm s₂.vm := rfl
      rw [e2] at this
      exact this
    obtain ⟨c₂, i₂, len₂, hc₂, hd₂, hf₂⟩ := hend
    have hW' : U.WarmedH s₂.vm := hW₂
    have hcc : c₂ = c := by
      have h1 : s₂.code? g.method = U.code? g.method := by
        rw [State.code?_eq, State.code?_eq, hW'.alike.method?]
      exact Option.some.inj (hc₂.symm.trans (h1.trans h.code))
    subst hcc
    have hlen : len₂ = len := by rw [hdg] at hd₂; cases hd₂; rfl
    subst hlen
    have hs₂ : s₂ = (({ U with heap := s₂.heap, slotsUsed := s₂.slotsUsed } : State).setVm s₂.vm).setTop { g with pc := g.pc + len₂, stack := v.toList ++ g.stack } := by
      refine e3.trans ?_
      rw [hf₂, State.calling_eq h.top, State.setFrames_setFrames, State.setTop_of_frames _ hr', hr]
      rfl
    have hsame : U.sameButNew ({ U with heap := s₂.heap, slotsUsed := s₂.slotsUsed } : State) L mc ms := by
      refine ⟨?_, q2, q3, q4, q5, q6⟩
      obtain ⟨t, ht, -⟩ := State.frames_cons hr
      show ({ U with heap := s₂.heap, slotsUsed := s₂.slotsUsed } : State) = { U.setFrames U.frames with heap := s₂.heap, slotsUsed := s₂.slotsUsed }
      rw [State.setFrames_self ht]
    subst hg
    refine Or.inl ⟨v, ⟨(({ U with heap := s₂.heap, slotsUsed := s₂.slotsUsed } : State).setVm s₂.vm), Ls ++ L, c0 + mc, s0 + ms⟩,
      ⟨X.admits, X.cas, X.clock, X.frames, X.room, X.hears, X.method, X.code, (X.here.setHeapUsed s₂.heap s₂.slotsUsed).setVm hW'.alike, X.tail, State.WarmedH.trans X.warmed hW', X.limits, X.bytes, X.same.trans (hsame.setVm s.vm)⟩,
      ⟨g, mk, s₂, L, rfl, rfl, hqc, rfl, hL, rfl, rfl⟩, ?_⟩
    show Steps p.tables e below _ ((({ U with heap := s₂.heap, slotsUsed := s₂.slotsUsed } : State).setVm s₂.vm).setTop { g with pc := g.pc + len₂, stack := v.toList ++ g.stack })
    rw [← hs₂]
    exact hsteps
  · obtain ⟨e2, q2, q3, q4, q5, q6⟩ := id hsm
    have e3 : s₂ = ({ (U.calling g mk a).setFrames s₂.frames with heap := s₂.heap, slotsUsed := s₂.slotsUsed } : State).setVm s₂.vm := by
      have : s₂ = ({ s₂ with vm := (U.calling g mk a).vm } : State).setVm s₂.vm := rfl
      rw [e2] at this
      exact this
    have hf₂ : s₂.frames = .throwing q :: .java g :: U.frames.tail := hend
    have hW' : U.WarmedH s₂.vm := hW₂
    have hs₂ : s₂ = ((({ U with heap := s₂.heap, slotsUsed := s₂.slotsUsed } : State).setVm s₂.vm).setTop g).pushFrame (.throwing q) := by
      refine e3.trans ?_
      rw [hf₂, State.calling_eq h.top, State.setFrames_setFrames, State.pushFrame, State.frames_setTop _ hr', State.setTop_of_frames _ hr', State.setFrames_setFrames, hr]
      rfl
    have hsame : U.sameButNew ({ U with heap := s₂.heap, slotsUsed := s₂.slotsUsed } : State) L mc ms := by
      refine ⟨?_, q2, q3, q4, q5, q6⟩
      obtain ⟨t, ht, -⟩ := State.frames_cons hr
      show ({ U with heap := s₂.heap, slotsUsed := s₂.slotsUsed } : State) = { U.setFrames U.frames with heap := s₂.heap, slotsUsed := s₂.slotsUsed }
      rw [State.setFrames_self ht]
    subst hg
    refine Or.inr ⟨q, ⟨(({ U with heap := s₂.heap, slotsUsed := s₂.slotsUsed } : State).setVm s₂.vm), Ls ++ L, c0 + mc, s0 + ms⟩,
      ⟨X.admits, X.cas, X.clock, X.frames, X.room, X.hears, X.method, X.code, (X.here.setHeapUsed s₂.heap s₂.slotsUsed).setVm hW'.alike, X.tail, State.WarmedH.trans X.warmed hW', X.limits, X.bytes, X.same.trans (hsame.setVm s.vm)⟩,
      ⟨g, mk, s₂, L, E, ce, rfl, rfl, hx, hce, hcv, hcl, rfl, hL, rfl, rfl⟩, ?_⟩
    show Steps p.tables e below _ (((({ U with heap := s₂.heap, slotsUsed := s₂.slotsUsed } : State).setVm s₂.vm).setTop g).pushFrame (.throwing q))
    rw [← hs₂]
    exact hsteps
end Payer
section Calls
variable {p : Program} {l : Launch} {e : Env} {R : Room} {s : State} {m : MethodId} {args : Array Value} {below : List Frame} {meth : Method} {c : Code} {T : State} {locs : List Loc} {cells slots : Nat}
theorem vx_callV (X : Stand p l e R s m args below meth c T locs cells slots) (hexec : p.tables.exec = Jvm.exec) {own C : String} {index : Nat} {y : MethodName} {bytes : ByteArray} {maxL : Nat} {ret : Option FieldType}
    (hown : s.vm.findClass own = some m.cls) (hlink : (Cond.methodLink own index y).before args s = true) (hinst : (Cond.instanceMethod y).before args s = true) (hsel : (Cond.selects C y y).before args s = true)
    (hcode : (Cond.code y bytes maxL ret).before args s = true) (hy : y.cls ≠ "java/lang/invoke/MethodHandle" ∧ y.cls ≠ "java/lang/invoke/VarHandle")
    {W9 : Nat} {Pre : Pt → Array Value → Prop} {Post : Pt → Array Value → Option Value → Pt → Prop} {PostX : Pt → Array Value → Addr → Pt → Prop} (hK : vx_Back l R p e below s args y 3 W9 Pre Post PostX)
    {b : Addr} {cellB : Cell} (hcell : T.heap[b]? = some cellB) (hobj : cellB.vm.isStatics = false) (hcls : s.vm.findClass C = some cellB.cls)
    {g : JFrame} (hg : g.method = m) (hsize : g.locals.size = c.maxLocals) {argsL rest : List Value} (hlen : ∀ sig, parseMethodDescriptor y.desc = some sig → argsL.length = sig.parameters.length)
    (hstack : g.stack = argsL.reverse ++ .ref b :: rest) (hW : 2 * g.monitorRoom + (rest.map fun v => v.category).sum ≤ W9) (hdg : decode c.code g.pc = .ok (.invokevirtual index, 3))
    (hpre : ∀ vm₁, s.WarmedH vm₁ → Pre ⟨T.setVm vm₁, locs, cells, slots⟩ (Value.ref b :: argsL).toArray) :
    (∃ (v : Option Value) (vm₁ : Vm) (B : Pt), s.WarmedH vm₁ ∧ Stand p l e R s m args below meth c B.U B.locs B.cells B.slots ∧ Post ⟨T.setVm vm₁, locs, cells, slots⟩ (Value.ref b :: argsL).toArray v B ∧
      ∀ target, Steps p.tables e below (B.U.setTop { g with pc := g.pc + 3, stack := v.toList ++ rest }) target → Steps p.tables e below (T.setTop g) target) ∨
    (∃ (q : Addr) (vm₁ : Vm) (B : Pt), s.WarmedH vm₁ ∧ Stand p l e R s m args below meth c B.U B.locs B.cells B.slots ∧ PostX ⟨T.setVm vm₁, locs, cells, slots⟩ (Value.ref b :: argsL).toArray q B ∧
      Steps p.tables e below (T.setTop g) ((B.U.setTop { g with stack := rest }).pushFrame (.throwing q))) := by
  obtain ⟨mk, methM, hnamed, hmethM, hstM, habM⟩ := Cond.instanceMethod_spec hinst
  obtain ⟨methM', cM, hmethM', -, -, -, -, -, -, hsigM⟩ := Cond.code_spec hnamed hcode
  cases hmethM.symm.trans hmethM'
  obtain ⟨c2, r2, m2, q1, q2, q3, q4, kP, hkP, hkPi⟩ := Cond.selects_spec hsel
  cases hcls.symm.trans q1
  cases (State.methodFound?_of_named hnamed hy).symm.trans q2
  cases hnamed.symm.trans q3
  have hselP : selectMethod e.platform s.vm cellB.cls mk = .method mk := by rw [Launch.admits_selectMethod X.admits]; exact q4
  obtain ⟨vm₁, X₁, hstep₁⟩ := X.invokevirtual hexec hown hlink hnamed hmethM hstM hkP hkPi hy (a := b) (cell := cellB) hcell
    (fun z h => by rw [h] at hobj; cases hobj) hselP hmethM habM hkP hkPi (g := g) hg (argsL := argsL) (rest := rest) (hlen _ hsigM) hstack hdg
  rcases hK m meth c ⟨T.setVm vm₁, locs, cells, slots⟩ { g with stack := rest } (.invokevirtual index) mk (Value.ref b :: argsL).toArray X₁ hg hsize hdg hW (X₁.named hnamed) (hpre vm₁ X₁.warmed) with ⟨v, B, X', hpost, hsteps⟩ | ⟨q, B, X', hpost, hsteps⟩
  · exact Or.inl ⟨v, vm₁, B, X₁.warmed, X', hpost, fun target h => hstep₁ _ fun acts => by rw [doInvoke_state]; exact hsteps.trans h⟩
  · exact Or.inr ⟨q, vm₁, B, X₁.warmed, X', hpost, hstep₁ _ fun acts => by rw [doInvoke_state]; exact hsteps⟩
theorem vx_callS (X : Stand p l e R s m args below meth c T locs cells slots) (hexec : p.tables.exec = Jvm.exec) {own : String} {index : Nat} {y : MethodName} {bytes : ByteArray} {maxL : Nat} {ret : Option FieldType}
    (hown : s.vm.findClass own = some m.cls) (hlink : (Cond.methodLink own index y).before args s = true) (hstat : (Cond.static y).before args s = true) (hinit : (Cond.initialized y.cls).before args s = true)
    (hcode : (Cond.code y bytes maxL ret).before args s = true) (hy : y.cls ≠ "java/lang/invoke/MethodHandle" ∧ y.cls ≠ "java/lang/invoke/VarHandle")
    {W9 : Nat} {Pre : Pt → Array Value → Prop} {Post : Pt → Array Value → Option Value → Pt → Prop} {PostX : Pt → Array Value → Addr → Pt → Prop} (hK : vx_Back l R p e below s args y 3 W9 Pre Post PostX)
    {g : JFrame} (hg : g.method = m) (hsize : g.locals.size = c.maxLocals) {argsL rest : List Value} (hlen : ∀ sig, parseMethodDescriptor y.desc = some sig → argsL.length = sig.parameters.length)
    (hstack : g.stack = argsL.reverse ++ rest) (hW : 2 * g.monitorRoom + (rest.map fun v => v.category).sum ≤ W9) (hdg : decode c.code g.pc = .ok (.invokestatic index, 3))
    (hpre : ∀ vm₁, s.WarmedH vm₁ → Pre ⟨T.setVm vm₁, locs, cells, slots⟩ argsL.toArray) :
    (∃ (v : Option Value) (vm₁ : Vm) (B : Pt), s.WarmedH vm₁ ∧ Stand p l e R s m args below meth c B.U B.locs B.cells B.slots ∧ Post ⟨T.setVm vm₁, locs, cells, slots⟩ argsL.toArray v B ∧
      ∀ target, Steps p.tables e below (B.U.setTop { g with pc := g.pc + 3, stack := v.toList ++ rest }) target → Steps p.tables e below (T.setTop g) target) ∨
    (∃ (q : Addr) (vm₁ : Vm) (B : Pt), s.WarmedH vm₁ ∧ Stand p l e R s m args below meth c B.U B.locs B.cells B.slots ∧ PostX ⟨T.setVm vm₁, locs, cells, slots⟩ argsL.toArray q B ∧
      Steps p.tables e below (T.setTop g) ((B.U.setTop { g with stack := rest }).pushFrame (.throwing q))) := by
  obtain ⟨mk, hnamed⟩ := Cond.code_named hcode
  obtain ⟨methM, cM, hmethM, -, -, -, -, -, -, hsigM⟩ := Cond.code_spec hnamed hcode
  have hstatic : methM.isStatic = true := Cond.static_spec hnamed hmethM hstat
  obtain ⟨kP, hkP, -⟩ := className_of_methodNamed hnamed
  have hinitP : kP.init = .initialized := Cond.initialized_spec (findClass_of_methodNamed hnamed) hkP hinit
  obtain ⟨vm₁, X₁, hstep₁⟩ := X.invokestatic hexec hown hlink hnamed hmethM hstatic hkP hinitP hy (g := g) hg (argsL := argsL) (rest := rest) (hlen _ hsigM) hstack hdg
  rcases hK m meth c ⟨T.setVm vm₁, locs, cells, slots⟩ { g with stack := rest } (.invokestatic index) mk argsL.toArray X₁ hg hsize hdg hW (X₁.named hnamed) (hpre vm₁ X₁.warmed) with ⟨v, B, X', hpost, hsteps⟩ | ⟨q, B, X', hpost, hsteps⟩
  · exact Or.inl ⟨v, vm₁, B, X₁.warmed, X', hpost, fun target h => hstep₁ _ fun acts => by rw [doInvoke_state]; exact hsteps.trans h⟩
  · exact Or.inr ⟨q, vm₁, B, X₁.warmed, X', hpost, hstep₁ _ fun acts => by rw [doInvoke_state]; exact hsteps⟩
end Calls
theorem vx_cls {s : State} {T : State} {vm₁ : Vm} {E : String} {k : ClassId} (hW : s.WarmedH vm₁) (h : (T.setVm vm₁).vm.findClass E = some k) : s.vm.findClass E = some k := by
  have h1 : vm₁.findClass E = some k := h
  rw [hW.alike.findClass] at h1
  exact h1
/-- the method's frame g, with q thrown over it -/
def vx_W (p : Program) (l : Launch) (e : Env) (R : Room) (s : State) (m : MethodId) (args : Array Value) (below : List Frame) (meth : Method) (c : Code) (H : Heap) (locs : List Loc) (cells slots : Nat) (Q : State → Prop) (g : JFrame) (q : Addr) : Prop :=
  ∀ T : State, T.heap = H → Stand p l e R s m args below meth c T locs cells slots → ∃ t, Steps p.tables e below ((T.setTop g).pushFrame (.throwing q)) t ∧ Q t
def vx_Run (p : Program) (l : Launch) (e : Env) (R : Room) (s : State) (m : MethodId) (args : Array Value) (below : List Frame) (meth : Method) (c : Code) (H : Heap) (locs : List Loc) (cells slots mc ms : Nat) (g : JFrame) (rest : List Value) (Qa : State → Outcome → State → Prop) (XC : String → State → State → Prop) (free : Addr → Prop) : Prop :=
  ∀ T : State, T.heap = H → Stand p l e R s m args below meth c T locs cells slots →
    (∃ (v : Option Value) (st₀ t T' : State) (L : List Loc), st₀.heap = H ∧ Stand p l e R s m args below meth c T' (locs ++ L) (cells + mc) (slots + ms) ∧ (∀ q ∈ L, free q.base) ∧ T'.heap = t.heap ∧ T'.vm = t.vm ∧ Qa st₀ (.returned v) t ∧
      Goes p e below T g T' { g with pc := g.pc + 3, stack := v.toList ++ rest }) ∨
    (∃ (q : Addr) (st₀ t T' : State) (L : List Loc) (E : String) (ce : Cell), st₀.heap = H ∧ Stand p l e R s m args below meth c T' (locs ++ L) (cells + mc) (slots + ms) ∧ (∀ z ∈ L, free z.base) ∧ T'.heap = t.heap ∧ T'.vm = t.vm ∧ XC E st₀ t ∧ t.heap[q]? = some ce ∧ ce.vm = .none ∧ s.vm.findClass E = some ce.cls ∧
      Steps p.tables e below (T.setTop g) ((T'.setTop { g with stack := rest }).pushFrame (.throwing q)))
def vx_X {S : Type} (px : S → Prop) (B : String → S → State → Prop) (A : Nat → Prop) : String → State → State → Prop := fun E st t => ∃ u : S, px u ∧ B E u t ∧ va_F A st t
section Runs
variable {p : Program} {l : Launch} {e : Env} {R : Room} {s : State} {m : MethodId} {args : Array Value} {below : List Frame} {meth : Method} {c : Code} {H : Heap} {locs : List Loc} {cells slots : Nat}
variable {y : MethodName} {bytes cc : ByteArray} {maxL nL mc ms n index : Nat} {ret : Option FieldType} {ws : List Cond} {rm : Room} {Pc : Array Value → State → Prop} {Qc : Array Value → State → Outcome → State → Prop} {XC : String → State → State → Prop} {free : Addr → Prop} {Ts : List Cond} {own C : String} {b : Addr} {As rest : List Value} {g : JFrame}
theorem vx_callBack (cb : CallB R s args own index y bytes maxL ret ws rm mc ms n) (hM : vx_Met l y ws rm Pc Qc XC mc ms free) (hbl : FrameBlind Pc) : vx_Back l R p e below s args y 3 8 (PreOf R mc ms Pc) (PostOf Qc mc ms free) (vx_Post XC mc ms free) := by
  obtain ⟨hrc, hrs, hfr, hlo, hws, hcw, -, hini, -⟩ := cb
  exact vx_back (bytes := bytes) (maxL := maxL) (ret := ret) hM hbl hrc hrs hfr hlo hws hcw (fun a' U hW => word_at hW (Or.inl (by first | rfl | simp [Cond.onTables, Cond.keeps, Cond.steady])) hini)
theorem vx_runV (S : CallFix p m c cc nL s args Ts own) (hM : vx_Met l y ws rm Pc Qc XC mc ms free) (cw : CallW R s args own C index y bytes maxL ret ws rm mc ms n) (hp : PreV s H C b Pc As)
    (hg : g.method = m) (hn : As.length = n) (hsize : g.locals.size = nL) (hstack : g.stack = As.reverse ++ .ref b :: rest) (hW : 2 * g.monitorRoom + (rest.map fun v => v.category).sum ≤ 8) (hdg : decode cc g.pc = .ok (.invokevirtual index, 3)) (hf : cells + mc ≤ R.cells ∧ slots + ms ≤ R.slots) :
    vx_Run p l e R s m args below meth c H locs cells slots mc ms g rest (Qc (Value.ref b :: As).toArray) XC free := by
  have hK : vx_Back l R p e below s args y 3 8 (PreOf R mc ms Pc) (PostOf Qc mc ms free) (vx_Post XC mc ms free) := vx_callBack cw.1 hM hp.1
  obtain ⟨⟨-, -, -, -, -, -, hcode, -, hy, hlen, hl⟩, hin, hse⟩ := cw
  obtain ⟨hx, hb, hml, ho, -⟩ := S
  obtain ⟨-, ⟨cellB, hcB, hoB, hclB⟩, hPc⟩ := hp
  intro T hT X
  rcases vx_callV X hx (C := C) (bytes := bytes) (maxL := maxL) (ret := ret) ho hl hin hse hcode hy hK (by rw [hT]; exact hcB) hoB hclB hg (hsize.trans hml.symm) (argsL := As) (rest := rest) (fun sig h => hn.trans (hlen sig h)) hstack hW (by rw [hb]; exact hdg)
    (fun vm₁ hW₁ => ⟨hf.1, hf.2, hPc (T.setVm vm₁) hT hW₁⟩) with ⟨v, vm₁, ⟨U', l2, c2, s2⟩, hW₁, X', ⟨g', mk, t, L, e1, e2, hq, h1, hL, h2, h3⟩, st⟩ | ⟨q, vm₁, ⟨U', l2, c2, s2⟩, hW₁, X', ⟨g', mk, t, L, E, ce, e1, e2, hq, hce, hcv, hcl, h1, hL, h2, h3⟩, st⟩
  · dsimp only [Pt.U, Pt.locs, Pt.cells, Pt.slots] at X' e1 e2 h1 h2 h3 st
    subst h1; subst h2; subst h3
    exact Or.inl ⟨v, (T.setVm vm₁).calling g' mk (Value.ref b :: As).toArray, t, U', L, hT, X', hL, e1, e2, hq, st⟩
  · dsimp only [Pt.U, Pt.locs, Pt.cells, Pt.slots] at X' e1 e2 h1 h2 h3 st hcl
    subst h1; subst h2; subst h3
    exact Or.inr ⟨q, (T.setVm vm₁).calling g' mk (Value.ref b :: As).toArray, t, U', L, E, ce, hT, X', hL, e1, e2, hq, hce, hcv, vx_cls hW₁ hcl, st⟩
theorem vx_runS (S : CallFix p m c cc nL s args Ts own) (hM : vx_Met l y ws rm Pc Qc XC mc ms free) (cw : CallB R s args own index y bytes maxL ret ws rm mc ms n ∧ (Cond.static y).before args s = true) (hp : PreS s H Pc As)
    (hg : g.method = m) (hn : As.length = n) (hsize : g.locals.size = nL) (hstack : g.stack = As.reverse ++ rest) (hW : 2 * g.monitorRoom + (rest.map fun v => v.category).sum ≤ 8) (hdg : decode cc g.pc = .ok (.invokestatic index, 3)) (hf : cells + mc ≤ R.cells ∧ slots + ms ≤ R.slots) :
    vx_Run p l e R s m args below meth c H locs cells slots mc ms g rest (Qc As.toArray) XC free := by
  have hK : vx_Back l R p e below s args y 3 8 (PreOf R mc ms Pc) (PostOf Qc mc ms free) (vx_Post XC mc ms free) := vx_callBack cw.1 hM hp.1
  obtain ⟨⟨-, -, -, -, -, -, hcode, hini, hy, hlen, hl⟩, hstt⟩ := cw
  obtain ⟨hx, hb, hml, ho, -⟩ := S
  intro T hT X
  rcases vx_callS X hx (bytes := bytes) (maxL := maxL) (ret := ret) ho hl hstt hini hcode hy hK hg (hsize.trans hml.symm) (argsL := As) (rest := rest) (fun sig h => hn.trans (hlen sig h)) hstack hW (by rw [hb]; exact hdg)
    (fun vm₁ hW₁ => ⟨hf.1, hf.2, hp.2 (T.setVm vm₁) hT hW₁⟩) with ⟨v, vm₁, ⟨U', l2, c2, s2⟩, hW₁, X', ⟨g', mk, t, L, e1, e2, hq, h1, hL, h2, h3⟩, st⟩ | ⟨q, vm₁, ⟨U', l2, c2, s2⟩, hW₁, X', ⟨g', mk, t, L, E, ce, e1, e2, hq, hce, hcv, hcl, h1, hL, h2, h3⟩, st⟩
  · dsimp only [Pt.U, Pt.locs, Pt.cells, Pt.slots] at X' e1 e2 h1 h2 h3 st
    subst h1; subst h2; subst h3
    exact Or.inl ⟨v, (T.setVm vm₁).calling g' mk As.toArray, t, U', L, hT, X', hL, e1, e2, hq, st⟩
  · dsimp only [Pt.U, Pt.locs, Pt.cells, Pt.slots] at X' e1 e2 h1 h2 h3 st hcl
    subst h1; subst h2; subst h3
    exact Or.inr ⟨q, (T.setVm vm₁).calling g' mk As.toArray, t, U', L, E, ce, hT, X', hL, e1, e2, hq, hce, hcv, vx_cls hW₁ hcl, st⟩
end Runs
section Rows
variable {p : Program} {l : Launch} {e : Env} {R : Room} {s : State} {m : MethodId} {args : Array Value} {below : List Frame} {meth : Method} {c : Code} {H : Heap} {locs : List Loc} {cells slots : Nat} {Q : State → Prop}
variable {mc ms : Nat} {free : Addr → Prop} {A0 A1 : Nat → Prop} {H0 : Heap} {a : Array Value} {pc : Nat} {ls : Array Slot} {st0 rest : List Value}
theorem vx_keep {st₀ t T' : State} {L : List Loc} (h0 : st₀.heap = H) (e1 : T'.heap = t.heap) (hS : va_S A0 H0 H locs) (hA : ∀ q, q < H.size → A1 q → A0 q) (hf : ∀ q, free q → A0 q) (hL : ∀ q ∈ L, free q.base) (hF : va_F A1 st₀ t) :
    H.size ≤ T'.heap.size ∧ (∀ q : Nat, q < H.size → ¬ A1 q → T'.heap[q]? = H[q]?) ∧ va_S A0 H0 T'.heap (locs ++ L) := by
  obtain ⟨hz, hk⟩ := hF
  rw [h0] at hz hk
  exact ⟨by rw [e1]; exact hz, fun q h1 h2 => by rw [e1]; exact hk q h1 h2,
    ⟨Nat.le_trans hS.1 (by rw [e1]; exact hz), fun q h1 h2 => by rw [e1, hk q (Nat.lt_of_lt_of_le h1 hS.1) (fun z => h2 (hA q (Nat.lt_of_lt_of_le h1 hS.1) z))]; exact hS.2.1 q h1 h2, fun q hq => by
      rcases List.mem_append.mp hq with h | h
      · exact hS.2.2 q h
      · exact hf _ (hL q h)⟩⟩
theorem vx_calli {S SX : Type} {post : Int32 → S → Prop} {px : SX → Prop} {B : S → State → Prop} {BX : String → SX → State → Prop} {AX : Nat → Prop} (hr : vx_Run p l e R s m args below meth c H locs cells slots mc ms (F0 m pc ls st0) rest (va_Qi post B A1 a) (vx_X px BX AX) free) (hS : va_S A0 H0 H locs) (hA : ∀ q, q < H.size → A1 q → A0 q) (hf : ∀ q, free q → A0 q) (hAX : ∀ q, q < H.size → AX q → A0 q)
    (kx : ∀ (E : String) (ce : Cell) (q9 : Addr) (u : SX) (t : State) (H1 : Heap) (locs1 : List Loc), t.heap = H1 → s.vm.Alike t.vm → px u → BX E u t → H.size ≤ H1.size → (∀ q : Nat, q < H.size → ¬ AX q → H1[q]? = H[q]?) → va_S A0 H0 H1 locs1 → H1[q9]? = some ce → ce.vm = .none → s.vm.findClass E = some ce.cls → vx_W p l e R s m args below meth c H1 locs1 (cells + mc) (slots + ms) Q (F0 m pc ls rest) q9)
    (kk : ∀ (r : Int32) (u : S) (t : State) (H1 : Heap) (locs1 : List Loc), t.heap = H1 → s.vm.Alike t.vm → post r u → B u t → H.size ≤ H1.size → (∀ q : Nat, q < H.size → ¬ A1 q → H1[q]? = H[q]?) → va_S A0 H0 H1 locs1 → W p l e R s m args below meth c H1 locs1 (cells + mc) (slots + ms) Q (F0 m (pc + 3) ls (.int r :: rest))) : W p l e R s m args below meth c H locs cells slots Q (F0 m pc ls st0) := by
  intro T hT X
  rcases hr T hT X with ⟨v, st₀, t, T', L, h0, X', hL, e1, e2, ⟨⟨r, u, hv, hp, hb⟩, hF⟩, st⟩ | ⟨q, st₀, t, T', L, E, ce, h0, X', hL, e1, e2, ⟨u, hp, hb, hF⟩, hce, hcv, hcl, st⟩
  · cases hv
    obtain ⟨k1, k2, k3⟩ := vx_keep h0 e1 hS hA hf hL hF
    obtain ⟨t2, a1, b1⟩ := kk r u t T'.heap (locs ++ L) e1.symm (by rw [← e2]; exact X'.warmed.alike) hp hb k1 k2 k3 T' rfl X'
    exact ⟨t2, st t2 a1, b1⟩
  · obtain ⟨k1, k2, k3⟩ := vx_keep h0 e1 hS hAX hf hL hF
    obtain ⟨t2, a1, b1⟩ := kx E ce q u t T'.heap (locs ++ L) e1.symm (by rw [← e2]; exact X'.warmed.alike) hp hb k1 k2 k3 (by rw [e1]; exact hce) hcv hcl T' rfl X'
    exact ⟨t2, st.trans a1, b1⟩
theorem vx_calll {S SX : Type} {post : Int64 → S → Prop} {px : SX → Prop} {B : S → State → Prop} {BX : String → SX → State → Prop} {AX : Nat → Prop} (hr : vx_Run p l e R s m args below meth c H locs cells slots mc ms (F0 m pc ls st0) rest (va_Ql post B A1 a) (vx_X px BX AX) free) (hS : va_S A0 H0 H locs) (hA : ∀ q, q < H.size → A1 q → A0 q) (hf : ∀ q, free q → A0 q) (hAX : ∀ q, q < H.size → AX q → A0 q)
    (kx : ∀ (E : String) (ce : Cell) (q9 : Addr) (u : SX) (t : State) (H1 : Heap) (locs1 : List Loc), t.heap = H1 → s.vm.Alike t.vm → px u → BX E u t → H.size ≤ H1.size → (∀ q : Nat, q < H.size → ¬ AX q → H1[q]? = H[q]?) → va_S A0 H0 H1 locs1 → H1[q9]? = some ce → ce.vm = .none → s.vm.findClass E = some ce.cls → vx_W p l e R s m args below meth c H1 locs1 (cells + mc) (slots + ms) Q (F0 m pc ls rest) q9)
    (kk : ∀ (r : Int64) (u : S) (t : State) (H1 : Heap) (locs1 : List Loc), t.heap = H1 → s.vm.Alike t.vm → post r u → B u t → H.size ≤ H1.size → (∀ q : Nat, q < H.size → ¬ A1 q → H1[q]? = H[q]?) → va_S A0 H0 H1 locs1 → W p l e R s m args below meth c H1 locs1 (cells + mc) (slots + ms) Q (F0 m (pc + 3) ls (.long r :: rest))) : W p l e R s m args below meth c H locs cells slots Q (F0 m pc ls st0) := by
  intro T hT X
  rcases hr T hT X with ⟨v, st₀, t, T', L, h0, X', hL, e1, e2, ⟨⟨r, u, hv, hp, hb⟩, hF⟩, st⟩ | ⟨q, st₀, t, T', L, E, ce, h0, X', hL, e1, e2, ⟨u, hp, hb, hF⟩, hce, hcv, hcl, st⟩
  · cases hv
    obtain ⟨k1, k2, k3⟩ := vx_keep h0 e1 hS hA hf hL hF
    obtain ⟨t2, a1, b1⟩ := kk r u t T'.heap (locs ++ L) e1.symm (by rw [← e2]; exact X'.warmed.alike) hp hb k1 k2 k3 T' rfl X'
    exact ⟨t2, st t2 a1, b1⟩
  · obtain ⟨k1, k2, k3⟩ := vx_keep h0 e1 hS hAX hf hL hF
    obtain ⟨t2, a1, b1⟩ := kx E ce q u t T'.heap (locs ++ L) e1.symm (by rw [← e2]; exact X'.warmed.alike) hp hb k1 k2 k3 (by rw [e1]; exact hce) hcv hcl T' rfl X'
    exact ⟨t2, st.trans a1, b1⟩
theorem vx_callf {S SX : Type} {post : UInt32 → S → Prop} {px : SX → Prop} {B : S → State → Prop} {BX : String → SX → State → Prop} {AX : Nat → Prop} (hr : vx_Run p l e R s m args below meth c H locs cells slots mc ms (F0 m pc ls st0) rest (va_Qf post B A1 a) (vx_X px BX AX) free) (hS : va_S A0 H0 H locs) (hA : ∀ q, q < H.size → A1 q → A0 q) (hf : ∀ q, free q → A0 q) (hAX : ∀ q, q < H.size → AX q → A0 q)
    (kx : ∀ (E : String) (ce : Cell) (q9 : Addr) (u : SX) (t : State) (H1 : Heap) (locs1 : List Loc), t.heap = H1 → s.vm.Alike t.vm → px u → BX E u t → H.size ≤ H1.size → (∀ q : Nat, q < H.size → ¬ AX q → H1[q]? = H[q]?) → va_S A0 H0 H1 locs1 → H1[q9]? = some ce → ce.vm = .none → s.vm.findClass E = some ce.cls → vx_W p l e R s m args below meth c H1 locs1 (cells + mc) (slots + ms) Q (F0 m pc ls rest) q9)
    (kk : ∀ (r : UInt32) (u : S) (t : State) (H1 : Heap) (locs1 : List Loc), t.heap = H1 → s.vm.Alike t.vm → post r u → B u t → H.size ≤ H1.size → (∀ q : Nat, q < H.size → ¬ A1 q → H1[q]? = H[q]?) → va_S A0 H0 H1 locs1 → W p l e R s m args below meth c H1 locs1 (cells + mc) (slots + ms) Q (F0 m (pc + 3) ls (.float r :: rest))) : W p l e R s m args below meth c H locs cells slots Q (F0 m pc ls st0) := by
  intro T hT X
  rcases hr T hT X with ⟨v, st₀, t, T', L, h0, X', hL, e1, e2, ⟨⟨r, u, hv, hp, hb⟩, hF⟩, st⟩ | ⟨q, st₀, t, T', L, E, ce, h0, X', hL, e1, e2, ⟨u, hp, hb, hF⟩, hce, hcv, hcl, st⟩
  · cases hv
    obtain ⟨k1, k2, k3⟩ := vx_keep h0 e1 hS hA hf hL hF
    obtain ⟨t2, a1, b1⟩ := kk r u t T'.heap (locs ++ L) e1.symm (by rw [← e2]; exact X'.warmed.alike) hp hb k1 k2 k3 T' rfl X'
    exact ⟨t2, st t2 a1, b1⟩
  · obtain ⟨k1, k2, k3⟩ := vx_keep h0 e1 hS hAX hf hL hF
    obtain ⟨t2, a1, b1⟩ := kx E ce q u t T'.heap (locs ++ L) e1.symm (by rw [← e2]; exact X'.warmed.alike) hp hb k1 k2 k3 (by rw [e1]; exact hce) hcv hcl T' rfl X'
    exact ⟨t2, st.trans a1, b1⟩
theorem vx_calld {S SX : Type} {post : UInt64 → S → Prop} {px : SX → Prop} {B : S → State → Prop} {BX : String → SX → State → Prop} {AX : Nat → Prop} (hr : vx_Run p l e R s m args below meth c H locs cells slots mc ms (F0 m pc ls st0) rest (va_Qd post B A1 a) (vx_X px BX AX) free) (hS : va_S A0 H0 H locs) (hA : ∀ q, q < H.size → A1 q → A0 q) (hf : ∀ q, free q → A0 q) (hAX : ∀ q, q < H.size → AX q → A0 q)
    (kx : ∀ (E : String) (ce : Cell) (q9 : Addr) (u : SX) (t : State) (H1 : Heap) (locs1 : List Loc), t.heap = H1 → s.vm.Alike t.vm → px u → BX E u t → H.size ≤ H1.size → (∀ q : Nat, q < H.size → ¬ AX q → H1[q]? = H[q]?) → va_S A0 H0 H1 locs1 → H1[q9]? = some ce → ce.vm = .none → s.vm.findClass E = some ce.cls → vx_W p l e R s m args below meth c H1 locs1 (cells + mc) (slots + ms) Q (F0 m pc ls rest) q9)
    (kk : ∀ (r : UInt64) (u : S) (t : State) (H1 : Heap) (locs1 : List Loc), t.heap = H1 → s.vm.Alike t.vm → post r u → B u t → H.size ≤ H1.size → (∀ q : Nat, q < H.size → ¬ A1 q → H1[q]? = H[q]?) → va_S A0 H0 H1 locs1 → W p l e R s m args below meth c H1 locs1 (cells + mc) (slots + ms) Q (F0 m (pc + 3) ls (.double r :: rest))) : W p l e R s m args below meth c H locs cells slots Q (F0 m pc ls st0) := by
  intro T hT X
  rcases hr T hT X with ⟨v, st₀, t, T', L, h0, X', hL, e1, e2, ⟨⟨r, u, hv, hp, hb⟩, hF⟩, st⟩ | ⟨q, st₀, t, T', L, E, ce, h0, X', hL, e1, e2, ⟨u, hp, hb, hF⟩, hce, hcv, hcl, st⟩
  · cases hv
    obtain ⟨k1, k2, k3⟩ := vx_keep h0 e1 hS hA hf hL hF
    obtain ⟨t2, a1, b1⟩ := kk r u t T'.heap (locs ++ L) e1.symm (by rw [← e2]; exact X'.warmed.alike) hp hb k1 k2 k3 T' rfl X'
    exact ⟨t2, st t2 a1, b1⟩
  · obtain ⟨k1, k2, k3⟩ := vx_keep h0 e1 hS hAX hf hL hF
    obtain ⟨t2, a1, b1⟩ := kx E ce q u t T'.heap (locs ++ L) e1.symm (by rw [← e2]; exact X'.warmed.alike) hp hb k1 k2 k3 (by rw [e1]; exact hce) hcv hcl T' rfl X'
    exact ⟨t2, st.trans a1, b1⟩
theorem vx_callv {S SX : Type} {post : S → Prop} {px : SX → Prop} {B : S → State → Prop} {BX : String → SX → State → Prop} {AX : Nat → Prop} (hr : vx_Run p l e R s m args below meth c H locs cells slots mc ms (F0 m pc ls st0) rest (va_Qv post B A1 a) (vx_X px BX AX) free) (hS : va_S A0 H0 H locs) (hA : ∀ q, q < H.size → A1 q → A0 q) (hf : ∀ q, free q → A0 q) (hAX : ∀ q, q < H.size → AX q → A0 q)
    (kx : ∀ (E : String) (ce : Cell) (q9 : Addr) (u : SX) (t : State) (H1 : Heap) (locs1 : List Loc), t.heap = H1 → s.vm.Alike t.vm → px u → BX E u t → H.size ≤ H1.size → (∀ q : Nat, q < H.size → ¬ AX q → H1[q]? = H[q]?) → va_S A0 H0 H1 locs1 → H1[q9]? = some ce → ce.vm = .none → s.vm.findClass E = some ce.cls → vx_W p l e R s m args below meth c H1 locs1 (cells + mc) (slots + ms) Q (F0 m pc ls rest) q9)
    (kk : ∀ (u : S) (t : State) (H1 : Heap) (locs1 : List Loc), t.heap = H1 → s.vm.Alike t.vm → post u → B u t → H.size ≤ H1.size → (∀ q : Nat, q < H.size → ¬ A1 q → H1[q]? = H[q]?) → va_S A0 H0 H1 locs1 → W p l e R s m args below meth c H1 locs1 (cells + mc) (slots + ms) Q (F0 m (pc + 3) ls (rest))) : W p l e R s m args below meth c H locs cells slots Q (F0 m pc ls st0) := by
  intro T hT X
  rcases hr T hT X with ⟨v, st₀, t, T', L, h0, X', hL, e1, e2, ⟨⟨u, hv, hp, hb⟩, hF⟩, st⟩ | ⟨q, st₀, t, T', L, E, ce, h0, X', hL, e1, e2, ⟨u, hp, hb, hF⟩, hce, hcv, hcl, st⟩
  · cases hv
    obtain ⟨k1, k2, k3⟩ := vx_keep h0 e1 hS hA hf hL hF
    obtain ⟨t2, a1, b1⟩ := kk u t T'.heap (locs ++ L) e1.symm (by rw [← e2]; exact X'.warmed.alike) hp hb k1 k2 k3 T' rfl X'
    exact ⟨t2, st t2 a1, b1⟩
  · obtain ⟨k1, k2, k3⟩ := vx_keep h0 e1 hS hAX hf hL hF
    obtain ⟨t2, a1, b1⟩ := kx E ce q u t T'.heap (locs ++ L) e1.symm (by rw [← e2]; exact X'.warmed.alike) hp hb k1 k2 k3 (by rw [e1]; exact hce) hcv hcl T' rfl X'
    exact ⟨t2, st.trans a1, b1⟩
/-- caught by the row x of this method's table; the rows ahead don't take it -/
theorem vx_catch {own name : String} {E : String} {ce : Cell} {q : Addr} (hown : s.vm.findClass own = some m.cls) (pre : List ExceptionTableEntry) (x : ExceptionTableEntry) (suf : List ExceptionTableEntry) (hsplit : c.exceptionTable.toList = pre ++ x :: suf)
    (hpass : ∀ z ∈ pre, covers z pc = false ∨ (z.catchType ≠ 0 ∧ ∃ nm : String, (Cond.classLink own z.catchType nm).before args s = true ∧ va_Nc E nm s)) (hx : covers x pc = true) (h0 : x.catchType ≠ 0)
    (hlink : (Cond.classLink own x.catchType name).before args s = true) (hcast : (Cond.castable E name).before args s = true) (hcell : H[q]? = some ce) (hv : ce.vm = .none) (hcl : s.vm.findClass E = some ce.cls)
    (kk : W p l e R s m args below meth c H locs cells slots Q (F0 m x.handlerPc ls [.ref q])) : vx_W p l e R s m args below meth c H locs cells slots Q (F0 m pc ls rest) q := by
  intro T hT X
  have hpl : e.platform.magicAccessors = ({} : Platform).magicAccessors := by rw [X.admits.platform]
  obtain ⟨c3, c4, hc3, hc4, hasg⟩ := Cond.castable_spec hcast
  cases Option.some.inj (hc3.symm.trans hcl)
  obtain ⟨c5, hc5, hcl5⟩ := Cond.classLink_spec hown hlink e.platform hpl
  cases Option.some.inj (hc4.symm.trans hc5)
  obtain ⟨vm', X', st⟩ := X.thenCaughtThrough q (g := F0 m pc ls rest) rfl (Steps.refl _) (by rw [hT]; exact hcell) (by rw [hv]; rfl) (by obtain ⟨k9, h9, -⟩ := Vm.findClass_spec hcl; exact ⟨k9, h9⟩) pre x suf hsplit
    (fun z hz => by
      rcases hpass z hz with h | ⟨hz0, nm, hl1, hn1⟩
      · exact Or.inl h
      · obtain ⟨c6, hc6, hcl6⟩ := Cond.classLink_spec hown hl1 e.platform hpl
        obtain ⟨a8, b8, h1, h2, h3⟩ := hn1
        cases Option.some.inj (h1.symm.trans hcl)
        cases Option.some.inj (h2.symm.trans hc6)
        exact Or.inr ⟨hz0, _, hcl6, h3⟩) hx (Or.inr ⟨h0, c4, hcl5, hasg⟩)
  obtain ⟨t, a1, b1⟩ := kk (T.setVm vm') hT X'
  exact ⟨t, st.trans a1, b1⟩
end Rows
section Ends
variable {p : Program} {l : Launch} {e : Env} {R : Room} {s : State} {m : MethodId} {args : Array Value} {below : List Frame} {meth : Method} {c : Code} {H : Heap} {locs : List Loc} {cells slots : Nat} {Q : State → Prop}
variable {mc ms : Nat} {free : Addr → Prop} {A0 A1 : Nat → Prop} {H0 : Heap} {a : Array Value} {ls : Array Slot} {st0 rest : List Value}
variable {Qc : Array Value → State → Outcome → State → Prop} {XC : String → State → State → Prop}
/-- what a body that may throw owes at its end -/
def vx_MQ (below : List Frame) (Qc : Array Value → State → Outcome → State → Prop) (XC : String → State → State → Prop) (a : Array Value) (s : State) (mc ms : Nat) (free : Addr → Prop) : State → Prop := fun t =>
  ∃ o, t.status = .running ∧ Ended t below o ∧ vx_Q Qc XC mc ms free a s o t
theorem vx_ret {g : JFrame} {mc ms : Nat} (k : W p l e R s m args below meth c H locs cells slots (MQ below Qc args s mc ms free) g) : W p l e R s m args below meth c H locs cells slots (vx_MQ below Qc XC args s mc ms free) g := by
  intro T hT X
  obtain ⟨t, a1, o, b1, b2, b3, b4⟩ := k T hT X
  exact ⟨t, a1, o, b1, b2, Or.inl ⟨b3, b4⟩⟩
/-- not caught here: it goes on to the caller -/
theorem vx_widen {g : JFrame} {q : Addr} {k n : Nat} (h1 : cells ≤ k) (h2 : slots ≤ n) (kk : vx_W p l e R s m args below meth c H locs k n Q g q) : vx_W p l e R s m args below meth c H locs cells slots Q g q := fun T hT X => kk T hT (stand_widen X h1 h2)
theorem vx_out {pc : Nat} {E : String} {ce : Cell} {q : Addr} {mc ms : Nat} (hout : ∀ x ∈ c.exceptionTable.toList, covers x pc = false) (hlocks : meth.locks = false) (hcell : H[q]? = some ce) (hv : ce.vm = .none) (hcl : s.vm.findClass E = some ce.cls)
    (hx : ∀ t : State, t.heap = H → s.vm.Alike t.vm → XC E s t) (hf : ∀ z ∈ locs, free z.base) (hc : cells ≤ mc) (hs : slots ≤ ms) :
    vx_W p l e R s m args below meth c H locs cells slots (vx_MQ below Qc XC args s mc ms free) (F0 m pc ls rest) q := by
  intro T hT X
  obtain ⟨st1, hrun, hend, hW, hsm⟩ := X.leaveThrown q (g := F0 m pc ls rest) rfl rfl rfl hout hlocks
  have hcell9 : (T.setFrames (.throwing q :: below)).heap[q]? = some ce := by
    show T.heap[q]? = some ce
    rw [hT]; exact hcell
  exact ⟨_, st1, .threw q, hrun, hend, Or.inr ⟨q, rfl, E, ce, locs, hx _ hT hW.alike, hcell9, hv, hcl, hW, hsm.mono hc hs, hf⟩⟩
theorem vx_frame {U : State} {k n : Nat} (h : s.sameButNew ({ U with vm := s.vm } : State) locs k n) : s.heap.size ≤ U.heap.size ∧ ∀ q : Nat, q < s.heap.size → (∀ z ∈ locs, z.base ≠ q) → U.heap[q]? = s.heap[q]? := by
  obtain ⟨-, h2, -, -, -, h6⟩ := h
  refine ⟨h2, fun q hq hz => ?_⟩
  obtain ⟨c9, e1, e2, e3, e4⟩ := h6 q _ (Array.getElem?_eq_getElem hq)
  have hs : c9.slots = (s.heap[q]).slots := Array.ext_getElem? fun i => e4 i fun hm => hz _ hm rfl
  have h9 : c9 = s.heap[q] := by
    rw [hs] at e2
    exact e2
  have e5 : U.heap[q]? = some c9 := e1
  rw [e5, h9, Array.getElem?_eq_getElem hq]
/-- the words of a throw but the four that speak of the heap -/
def vx_no (w : Cond) : Bool := decide (w ≠ .isRef (.static Bundle.tN "UNASSIGNED_STACK" Bundle.steD)) && decide (w ≠ .isRef (.static Bundle.tN "SUPPRESSED_SENTINEL" Bundle.listD)) && decide (w ≠ .laysStatic Bundle.tN "UNASSIGNED_STACK" Bundle.steD) && decide (w ≠ .laysStatic Bundle.tN "SUPPRESSED_SENTINEL" Bundle.listD)
def vx_at0 (own : String) (ic : Nat) (X : String) (names : List String) : List Cond := (Bundle.ownAtoms0 own ic X names).filter vx_no
def vx_atS (own : String) (ic : Nat) (X : String) (names : List String) : List Cond := (Bundle.ownAtoms own ic X names).filter vx_no
/-- a word that the tables alone decide, or a good one -/
def vx_ot (w : Cond) : Bool := w.onTables || goodWord w
theorem vx_ot_at {args a' : Array Value} {s U : State} {w : Cond} (hW : s.WarmedH U.vm) (hvm : s.vm = U.vm) (hg : vx_ot w = true) (h : w.before args s = true) : w.before a' U = true := by
  simp only [vx_ot, Bool.or_eq_true] at hg
  rcases hg with hg | hg
  · exact va_tabs hg hvm h
  · exact word_at hW (good_of_word hg) h
/-- a list's words: the good ones out of the method's own list, the others by premises of their own -/
theorem vx_hat {args : Array Value} {s : State} {L B : List Cond} (h1 : ∀ w ∈ L.filter goodWord, w.before args s = true) (h2 : ∀ w ∈ L.filter (fun w => !goodWord w), w ∈ B) (h3 : ∀ w ∈ B, w.before args s = true) : ∀ w ∈ L, w.before args s = true := by
  intro w hw
  by_cases g : goodWord w = true
  · exact h1 w (List.mem_filter.mpr ⟨hw, g⟩)
  · refine h3 w (h2 w (List.mem_filter.mpr ⟨hw, ?_⟩))
    show (!goodWord w) = true
    cases hgw : goodWord w
    · rfl
    · exact absurd hgw g
theorem vx_c {args : Array Value} {s : State} {w : Cond} {B : List Cond} (h : w.before args s = true) (t : ∀ w ∈ B, w.before args s = true) : ∀ w' ∈ w :: B, w'.before args s = true := fun w' h' => (List.mem_cons.mp h').elim (fun e => by rw [e]; exact h) (t w')
theorem vx_n {args : Array Value} {s : State} : ∀ w ∈ ([] : List Cond), w.before args s = true := fun _ h => nomatch h
theorem vx_own {args : Array Value} {s : State} {L : List Cond} (h1 : ∀ w ∈ L.filter vx_no, w.before args s = true)
    (hU : (Cond.isRef (.static Bundle.tN "UNASSIGNED_STACK" Bundle.steD)).before args s = true) (hN : (Cond.isRef (.static Bundle.tN "SUPPRESSED_SENTINEL" Bundle.listD)).before args s = true)
    (lU : (Cond.laysStatic Bundle.tN "UNASSIGNED_STACK" Bundle.steD).before args s = true) (lN : (Cond.laysStatic Bundle.tN "SUPPRESSED_SENTINEL" Bundle.listD).before args s = true) : ∀ w ∈ L, w.before args s = true := by
  intro w hw
  by_cases e1 : w = .isRef (.static Bundle.tN "UNASSIGNED_STACK" Bundle.steD)
  · rw [e1]; exact hU
  · by_cases e2 : w = .isRef (.static Bundle.tN "SUPPRESSED_SENTINEL" Bundle.listD)
    · rw [e2]; exact hN
    · by_cases e3 : w = .laysStatic Bundle.tN "UNASSIGNED_STACK" Bundle.steD
      · rw [e3]; exact lU
      · by_cases e4 : w = .laysStatic Bundle.tN "SUPPRESSED_SENTINEL" Bundle.listD
        · rw [e4]; exact lN
        · exact h1 w (List.mem_filter.mpr ⟨hw, by unfold vx_no; rw [decide_eq_true e1, decide_eq_true e2, decide_eq_true e3, decide_eq_true e4]; rfl⟩)
/-- where a static field lies, its class's statics cell in H -/
def vx_L (C n d : String) (A : Nat → Prop) (U : State) (H : Heap) : Prop := ∃ (c : ClassId) (k : Class) (i : Nat) (f : Field) (a : Nat) (cell : Cell), U.vm.findClass C = some c ∧ U.fieldFound? C n d = some (c, k, i, f) ∧ f.isStatic = true ∧ k.statics = some a ∧ H[a]? = some cell ∧ cell.vm.isStatics = true ∧ cell.cls = c ∧ f.slot < cell.slots.size ∧ k.staticTypes[f.slot]? = some f.type ∧ ¬ A a
theorem vx_L.moved {C n d : String} {A : Nat → Prop} {u U : State} {H : Heap} (hvm : u.vm.Alike U.vm) (h : vx_L C n d A u H) : vx_L C n d A U H := by
  obtain ⟨c, k, i, f, a, cell, h1, h2, h3, h4, h5, h6, h7, h8, h9, h10⟩ := h
  obtain ⟨k', hi', he⟩ := State.fieldFound?_setVm hvm h2
  exact ⟨c, k', i, f, a, cell, by rw [hvm.findClass]; exact h1, hi', h3, by rw [he]; exact h4, h5, h6, h7, h8, by rw [he]; exact h9, h10⟩
theorem vx_L.kept {C n d : String} {A : Nat → Prop} {U : State} {H H1 : Heap} (h : vx_L C n d A U H) (hq : ∀ a : Nat, a < H.size → ¬ A a → H1[a]? = H[a]?) : vx_L C n d A U H1 := by
  obtain ⟨c, k, i, f, a, cell, h1, h2, h3, h4, h5, h6, h7, h8, h9, h10⟩ := h
  exact ⟨c, k, i, f, a, cell, h1, h2, h3, h4, by rw [hq a (Array.getElem?_eq_some_iff.mp h5).1 h10]; exact h5, h6, h7, h8, h9, h10⟩
theorem vx_L.narrow {C n d : String} {A B : Nat → Prop} {U : State} {H : Heap} (h : vx_L C n d A U H) (hAB : ∀ q, B q → A q) : vx_L C n d B U H := by
  obtain ⟨c, k, i, f, a, cell, h1, h2, h3, h4, h5, h6, h7, h8, h9, h10⟩ := h
  exact ⟨c, k, i, f, a, cell, h1, h2, h3, h4, h5, h6, h7, h8, h9, fun z => h10 (hAB _ z)⟩
theorem vx_L.word {C n d : String} {A : Nat → Prop} {s : State} {args : Array Value} (h : vx_L C n d A s s.heap) : (Cond.laysStatic C n d).before args s = true := by
  obtain ⟨c, k, i, f, a, cell, h1, h2, h3, h4, h5, h6, h7, h8, h9, -⟩ := h
  show (Cond.laysStatic C n d).holds args s none s [] = true
  exact Cond.laysStatic_of h1 h2 h3 h4 h5 h6 h7 h8 h9
/-- .. and what it holds: null or some reference -/
def vx_Zq (C n d : String) (A : Nat → Prop) (U : State) (H : Heap) : Prop := va_Zq C n d A U H ∧ vx_L C n d A U H
theorem vx_Zq.moved {C n d : String} {A : Nat → Prop} {u U : State} {H : Heap} (hvm : u.vm.Alike U.vm) (h : vx_Zq C n d A u H) : vx_Zq C n d A U H := ⟨va_Zq.moved hvm h.1, vx_L.moved hvm h.2⟩
theorem vx_Zq.kept {C n d : String} {A : Nat → Prop} {U : State} {H H1 : Heap} (h : vx_Zq C n d A U H) (hq : ∀ a : Nat, a < H.size → ¬ A a → H1[a]? = H[a]?) : vx_Zq C n d A U H1 := ⟨va_Zq.kept h.1 hq, vx_L.kept h.2 hq⟩
theorem vx_Zq.narrow {C n d : String} {A B : Nat → Prop} {U : State} {H : Heap} (h : vx_Zq C n d A U H) (hAB : ∀ q, B q → A q) : vx_Zq C n d B U H := ⟨va_Zq.narrow h.1 hAB, vx_L.narrow h.2 hAB⟩
theorem vx_Zqof {args : Array Value} {s : State} {C n d : String} {A : Nat → Prop} (hl : (Cond.laysStatic C n d).before args s = true) (hini : (Cond.initialized C).before args s = true) (h : (Cond.isRef (.static C n d)).before args s = true) (hA : ∀ a : Nat, a < s.heap.size → ¬ A a) : vx_Zq C n d A s s.heap := by
  refine ⟨va_Zqof hl hini h hA, ?_⟩
  obtain ⟨c, k, i, f, a, cell, h1, h2, h3, h4, h5, h6, h7, h8, h9⟩ := Cond.laysStatic_spec hl
  exact ⟨c, k, i, f, a, cell, h1, h2, h3, h4, h5, h6, h7, h8, h9, hA a (Array.getElem?_eq_some_iff.mp h5).1⟩
theorem vx_isRef {C n d : String} {v : Value} {A : Nat → Prop} {s : State} {args : Array Value} (h : va_Z C n d v A s s.heap) (hv : v.isRef = true) : (Cond.isRef (.static C n d)).before args s = true := by
  obtain ⟨cf, kf, fi, f, a, cell, h1, h2, h3, h4, h5, h6, h7, -⟩ := h
  have he : (Term.static C n d).eval args s none [] s = some v := by
    simp [Term.eval, State.fieldNamed?, h1, h2, h4, h5, h6, h7]
  simp only [Cond.before, Cond.holds, Cond.value, he]
  cases v <;> simp_all [Value.isRef]
theorem vx_isRefq {C n d : String} {A : Nat → Prop} {s : State} {args : Array Value} (h : va_Zq C n d A s s.heap) : (Cond.isRef (.static C n d)).before args s = true := by
  rcases h with h | ⟨t, h⟩
  · exact vx_isRef h rfl
  · exact vx_isRef h rfl
/-- the same frame, seen from here: as if the method were called anew in this heap -/
theorem vx_rebase {T : State} (X : Stand p l e R s m args below meth c T locs cells slots) {R' : Room} (hf : R'.frames ≤ R.frames) (hl : R'.locals ≤ R.locals) (hc : cells + R'.cells ≤ R.cells) (hs : slots + R'.slots ≤ R.slots) :
    Stand p l e R' ((T.setVm s.vm).setFrames (.invoking m args :: below)) m args below meth c T [] 0 0 := by
  have htop : (T.setVm s.vm).topJava?.isSome := X.here.top
  have hF : ((T.setVm s.vm).setFrames (.invoking m args :: below)).frames = .invoking m args :: below := State.frames_setFrames _ (State.cur_lt_of_top htop)
  obtain ⟨g₀, hg0⟩ := Option.isSome_iff_exists.mp htop
  obtain ⟨r, hr⟩ := State.topJava?_eq_some.mp hg0
  have hl9 : e.platform.stackLimits (T.setVm s.vm).me = e.platform.stackLimits s.me := X.limits
  have hb9 : (T.setVm s.vm).me.stackBytes = s.me.stackBytes := X.bytes
  refine ⟨X.admits, X.cas, X.clock, hF, ?_, X.hears, X.method, X.code, X.here, X.tail, X.warmed, ?_, ?_, ?_⟩
  · have h := X.room
    have hU : ((T.setVm s.vm).setFrames (.invoking m args :: below)).localsInUse = s.localsInUse := by
      rw [State.localsInUse_invoking hF (meth := meth) (c := c) X.method X.code, State.localsInUse_invoking X.frames X.method X.code]
    simp only [State.hasRoom, Bool.and_eq_true, decide_eq_true_eq] at h ⊢
    obtain ⟨⟨⟨⟨h1, h2, h3, h4, h5, h6⟩, h7⟩, h8⟩, h9⟩ := h
    rw [X.frames, List.length_cons] at h2 h3
    have q1 := X.heapSize
    have q2 := X.used
    simp only [hF, hU, List.length_cons, State.stackLimits_setFrames, State.stackBytes_setFrames, hl9, hb9]
    refine ⟨⟨⟨⟨by omega, by omega, by omega, by omega, by omega, h6⟩, ?_⟩, ?_⟩, X.book⟩
    · show T.heap.size + R'.cells ≤ e.platform.maxCells
      omega
    · show T.slotsUsed + R'.slots ≤ e.platform.maxSlots
      omega
  · rw [State.stackLimits_setFrames]; rfl
  · rw [State.stackBytes_setFrames]; rfl
  · refine ⟨?_, Nat.le_refl _, Nat.le_refl _, ?_, ?_, fun a c9 h9 => ⟨c9, h9, rfl, rfl, fun _ _ => rfl⟩⟩
    · obtain ⟨t, ht, -⟩ := State.frames_cons hr
      show T.setVm s.vm = { ((T.setVm s.vm).setFrames (.invoking m args :: below)).setFrames (T.setVm s.vm).frames with heap := T.heap, slotsUsed := T.slotsUsed }
      rw [State.setFrames_setFrames, State.setFrames_self ht]
      rfl
    · show T.slotsUsed = T.slotsUsed + ((T.heap.toList.drop T.heap.size).map (·.slots.size)).sum
      rw [List.drop_eq_nil_of_le (Nat.le_of_eq Array.length_toList)]
      rfl
    · show ((T.heap.toList.drop T.heap.size).map (·.slots.size)).sum ≤ 0
      rw [List.drop_eq_nil_of_le (Nat.le_of_eq Array.length_toList)]
      exact Nat.le_refl _
/-- 'throw new E()': new; dup; invokespecial; athrow -/
theorem vx_throw0 {cc : ByteArray} {pc : Nat} (hexec : p.tables.exec = Jvm.exec) (hb : c.code = cc) (hl : l.stackTraces = false) {own cls : String} {names : List String} {ik ic mc ms : Nat} {A : Nat → Prop}
    (hown : s.vm.findClass own = some m.cls) (hcls : Bundle.fit cls = true) (hnames : ∀ n ∈ names, Bundle.fit n = true)
    (hk : (Cond.classLink own ik cls).before args s = true) (hini : (Cond.initialized cls).before args s = true) (hat : ∀ w ∈ vx_at0 own ic cls names, w.before args s = true)
    (hgood : ∀ w ∈ Cond.classLink own ik cls :: Cond.initialized cls :: vx_at0 own ic cls names, vx_ot w = true)
    (hU : vx_Zq Bundle.tN "UNASSIGNED_STACK" Bundle.steD A s s.heap) (hN : vx_Zq Bundle.tN "SUPPRESSED_SENTINEL" Bundle.listD A s s.heap) (hS : va_S A s.heap H locs) (hsize : ls.size = c.maxLocals)
    (d0 : decode cc pc = .ok (.new ik, 3)) (d3 : decode cc (pc + 3) = .ok (.dup, 1)) (d4 : decode cc (pc + 4) = .ok (.invokespecial ic, 3)) (d7 : decode cc (pc + 7) = .ok (.athrow, 1))
    (hout : ∀ x ∈ c.exceptionTable.toList, covers x (pc + 7) = false)
    (hRframes : names.length + 3 < R.frames) (hRlocals : (rest.map fun v => v.category).sum + (13 * (names.length + 1) + 42) ≤ R.locals) (hRcells : cells + 1 ≤ R.cells) (hRslots : slots + 6 ≤ R.slots) (hlocks : meth.locks = false)
    (hx : ∀ t : State, s.vm.Alike t.vm → H.size ≤ t.heap.size → (∀ q : Nat, q < H.size → t.heap[q]? = H[q]?) → XC cls s t)
    (hf : ∀ z ∈ locs, free z.base) (hc : cells + 1 ≤ mc) (hs : slots + 6 ≤ ms) :
    W p l e R s m args below meth c H locs cells slots (vx_MQ below Qc XC args s mc ms free) (F0 m pc ls rest) := by
  intro T hT X
  have htr : e.platform.stackTraces = false := (show e.platform.stackTraces = l.stackTraces by rw [X.admits.platform]).trans hl
  have Y := vx_rebase X (R' := { frames := R.frames, locals := R.locals, cells := 1, slots := 6 }) (Nat.le_refl _) (Nat.le_refl _) hRcells hRslots
  obtain ⟨s', hA⟩ : ∃ z, z = (T.setVm s.vm).setFrames (.invoking m args :: below) := ⟨_, rfl⟩
  rw [← hA] at Y
  have hvm : s'.vm = s.vm := by rw [hA]; rfl
  have hhp : s'.heap = H := by rw [hA]; exact hT
  have hW0 : s.WarmedH s'.vm := by rw [hvm]; exact State.WarmedH.refl s
  have hat' : ∀ w ∈ vx_at0 own ic cls names, w.before args s' = true := fun w hw => vx_ot_at hW0 hvm.symm (hgood w (List.mem_cons_of_mem _ (List.mem_cons_of_mem _ hw))) (hat w hw)
  have hk' : (Cond.classLink own ik cls).before args s' = true := vx_ot_at hW0 hvm.symm (hgood _ List.mem_cons_self) hk
  have hini' : (Cond.initialized cls).before args s' = true := vx_ot_at hW0 hvm.symm (hgood _ (List.mem_cons_of_mem _ List.mem_cons_self)) hini
  have hU' : vx_Zq Bundle.tN "UNASSIGNED_STACK" Bundle.steD A s' s'.heap := by rw [hhp]; exact vx_Zq.moved hW0.alike (hU.kept hS.2.1)
  have hN' : vx_Zq Bundle.tN "SUPPRESSED_SENTINEL" Bundle.listD A s' s'.heap := by rw [hhp]; exact vx_Zq.moved hW0.alike (hN.kept hS.2.1)
  have h : ∀ w ∈ Bundle.ownAtoms0 own ic cls names, w.before args s' = true := vx_own hat' (vx_isRefq hU'.1) (vx_isRefq hN'.1) hU'.2.word hN'.2.word
  have hown' : s'.vm.findClass own = some m.cls := by rw [hvm]; exact hown
  have hins : (Cond.instantiable cls 6).before args s' = true := h _ (by simp [Bundle.ownAtoms0])
  obtain ⟨vm₁, cX, kX, hfX, hkX, -, -, X₁, st1⟩ := Y.newCold hexec (own := own) (C := cls) (index := ik) (n := 6) hown' hk' hins hini'
    (g := F0 m pc ls rest) rfl (by rw [hb]; exact d0) (Nat.le_refl _) (Nat.le_refl _)
  generalize hT1 : (T.setVm vm₁).pushCell { cls := cX, slots := kX.instanceTypes.map defaultValue, vm := .none } = T1 at X₁ st1
  have hcat : (Value.ref T.heap.size).category = 1 := rfl
  have hcellA : T1.heap[T.heap.size]? = some (freshCell cX kX) := by rw [← hT1]; exact State.heap_pushCell_size _ _
  have d3' : decode c.code (pc + 3) = .ok (.dup, 1) := by rw [hb]; exact d3
  obtain ⟨U, hsteps, hrun, hend, hW, hsame, ce, hce, hO⟩ := X₁.ctorThrow0 hexec htr (own := own) (cls := cls) (names := names) (ic := ic) hown' hcls hnames h (fun x hx => nomatch hx) hfX hkX hcellA (by rw [hhp, hT]; exact Nat.le_refl _)
    (g := { method := m, pc := pc + 4, locals := ls, stack := .ref T.heap.size :: .ref T.heap.size :: rest, locked := none }) rfl hsize rfl rfl (rest := rest) rfl
    (by rw [hb]; exact d4) (by rw [hb]; exact d7) hout hRframes (by simp only [List.map_cons, List.sum_cons, hcat]; omega) hlocks
  obtain ⟨f1, f2⟩ := vx_frame hsame
  rw [hhp] at f1 f2
  have hWs : s.WarmedH U.vm := State.WarmedH.trans hW0 hW
  have hcl : s.vm.findClass cls = some ce.cls := by
    have h9 := hO.cls
    rw [hvm] at h9
    exact h9
  have hall : s.sameButNew ({ U with vm := s.vm } : State) locs mc ms := by
    subst hA
    obtain ⟨e1, e2⟩ := hsame
    rw [State.setFrames_setFrames] at e1
    have h2 : (T.setVm s.vm).sameButNew ({ U with vm := s.vm } : State) [] (0 + 1) (0 + 6) := ⟨e1, e2⟩
    have h3 := X.same.trans h2
    rw [List.append_nil] at h3
    exact h3.mono hc hs
  refine ⟨U, ?_, .threw T.heap.size, hrun, hend, Or.inr ⟨T.heap.size, rfl, cls, ce, locs, hx U hWs.alike f1 (fun q hq => f2 q hq (fun z hz => nomatch hz)), hce, hO.vm, hcl, hWs, hall, hf⟩⟩
  refine st1 _ ?_
  show Steps p.tables e below (T1.setTop { method := m, pc := pc + 3, locals := ls, stack := .ref T.heap.size :: rest, locked := none }) _
  jvm_step X₁.here [X₁.here.top, hexec, d3', Value.category]
  exact hsteps
/-- 'throw new E("text")': new; dup; ldc; invokespecial; athrow -/
theorem vx_throwS {cc : ByteArray} {pc : Nat} (hexec : p.tables.exec = Jvm.exec) (hb : c.code = cc) (hl : l.stackTraces = false) {own cls text : String} {names : List String} {ik is ic mc ms sa : Nat} {A : Nat → Prop}
    (hown : s.vm.findClass own = some m.cls) (hcls : Bundle.fit cls = true) (hnames : ∀ n ∈ names, Bundle.fit n = true)
    (hk : (Cond.classLink own ik cls).before args s = true) (hini : (Cond.initialized cls).before args s = true) (hstr : vk_R own is text sa s) (hat : ∀ w ∈ vx_atS own ic cls names, w.before args s = true)
    (hgood : ∀ w ∈ Cond.classLink own ik cls :: Cond.initialized cls :: vx_atS own ic cls names, vx_ot w = true)
    (hU : vx_Zq Bundle.tN "UNASSIGNED_STACK" Bundle.steD A s s.heap) (hN : vx_Zq Bundle.tN "SUPPRESSED_SENTINEL" Bundle.listD A s s.heap) (hS : va_S A s.heap H locs) (hsize : ls.size = c.maxLocals)
    (d0 : decode cc pc = .ok (.new ik, 3)) (d3 : decode cc (pc + 3) = .ok (.dup, 1)) (d4 : decode cc (pc + 4) = .ok (.ldc is, 2)) (d6 : decode cc (pc + 6) = .ok (.invokespecial ic, 3)) (d9 : decode cc (pc + 9) = .ok (.athrow, 1))
    (hout : ∀ x ∈ c.exceptionTable.toList, covers x (pc + 9) = false)
    (hRframes : names.length + 3 < R.frames) (hRlocals : (rest.map fun v => v.category).sum + (13 * (names.length + 1) + 43) ≤ R.locals) (hRcells : cells + 1 ≤ R.cells) (hRslots : slots + 6 ≤ R.slots) (hlocks : meth.locks = false)
    (hx : ∀ t : State, s.vm.Alike t.vm → H.size ≤ t.heap.size → (∀ q : Nat, q < H.size → t.heap[q]? = H[q]?) → XC cls s t)
    (hf : ∀ z ∈ locs, free z.base) (hc : cells + 1 ≤ mc) (hs : slots + 6 ≤ ms) :
    W p l e R s m args below meth c H locs cells slots (vx_MQ below Qc XC args s mc ms free) (F0 m pc ls rest) := by
  intro T hT X
  have htr : e.platform.stackTraces = false := (show e.platform.stackTraces = l.stackTraces by rw [X.admits.platform]).trans hl
  have Y := vx_rebase X (R' := { frames := R.frames, locals := R.locals, cells := 1, slots := 6 }) (Nat.le_refl _) (Nat.le_refl _) hRcells hRslots
  obtain ⟨s', hA⟩ : ∃ z, z = (T.setVm s.vm).setFrames (.invoking m args :: below) := ⟨_, rfl⟩
  rw [← hA] at Y
  have hvm : s'.vm = s.vm := by rw [hA]; rfl
  have hhp : s'.heap = H := by rw [hA]; exact hT
  have hW0 : s.WarmedH s'.vm := by rw [hvm]; exact State.WarmedH.refl s
  have hat' : ∀ w ∈ vx_atS own ic cls names, w.before args s' = true := fun w hw => vx_ot_at hW0 hvm.symm (hgood w (List.mem_cons_of_mem _ (List.mem_cons_of_mem _ hw))) (hat w hw)
  have hk' : (Cond.classLink own ik cls).before args s' = true := vx_ot_at hW0 hvm.symm (hgood _ List.mem_cons_self) hk
  have hini' : (Cond.initialized cls).before args s' = true := vx_ot_at hW0 hvm.symm (hgood _ (List.mem_cons_of_mem _ List.mem_cons_self)) hini
  have hU' : vx_Zq Bundle.tN "UNASSIGNED_STACK" Bundle.steD A s' s'.heap := by rw [hhp]; exact vx_Zq.moved hW0.alike (hU.kept hS.2.1)
  have hN' : vx_Zq Bundle.tN "SUPPRESSED_SENTINEL" Bundle.listD A s' s'.heap := by rw [hhp]; exact vx_Zq.moved hW0.alike (hN.kept hS.2.1)
  have h : ∀ w ∈ Bundle.ownAtoms own ic cls names, w.before args s' = true := vx_own hat' (vx_isRefq hU'.1) (vx_isRefq hN'.1) hU'.2.word hN'.2.word
  have hown' : s'.vm.findClass own = some m.cls := by rw [hvm]; exact hown
  have hins : (Cond.instantiable cls 6).before args s' = true := h _ (by simp [Bundle.ownAtoms])
  obtain ⟨vm₁, cX, kX, hfX, hkX, -, -, X₁, st1⟩ := Y.newCold hexec (own := own) (C := cls) (index := ik) (n := 6) hown' hk' hins hini'
    (g := F0 m pc ls rest) rfl (by rw [hb]; exact d0) (Nat.le_refl _) (Nat.le_refl _)
  generalize hT1 : (T.setVm vm₁).pushCell { cls := cX, slots := kX.instanceTypes.map defaultValue, vm := .none } = T1 at X₁ st1
  have hcat : (Value.ref T.heap.size).category = 1 := rfl
  have hcellA : T1.heap[T.heap.size]? = some (freshCell cX kX) := by rw [← hT1]; exact State.heap_pushCell_size _ _
  have d3' : decode c.code (pc + 3) = .ok (.dup, 1) := by rw [hb]; exact d3
  have d4' : decode c.code (pc + 4) = .ok (.ldc is, 2) := by rw [hb]; exact d4
  have hstr' : vk_R own is text sa s' := vk_R.warm hW0 hstr
  obtain ⟨U, hsteps, hrun, hend, hW, hsame, ce, hce, hO⟩ := X₁.ctorThrowS hexec htr (own := own) (cls := cls) (names := names) (ic := ic) hown' hcls hnames h (fun x hx => nomatch hx) hfX hkX hcellA (by rw [hhp, hT]; exact Nat.le_refl _) (msg := .ref sa) rfl
    (g := { method := m, pc := pc + 6, locals := ls, stack := .ref sa :: .ref T.heap.size :: .ref T.heap.size :: rest, locked := none }) rfl hsize rfl rfl (rest := rest) rfl
    (by rw [hb]; exact d6) (by rw [hb]; exact d9) hout hRframes (by simp only [List.map_cons, List.sum_cons, hcat]; omega) hlocks
  obtain ⟨f1, f2⟩ := vx_frame hsame
  rw [hhp] at f1 f2
  have hWs : s.WarmedH U.vm := State.WarmedH.trans hW0 hW
  have hcl : s.vm.findClass cls = some ce.cls := by
    have h9 := hO.cls
    rw [hvm] at h9
    exact h9
  have hall : s.sameButNew ({ U with vm := s.vm } : State) locs mc ms := by
    subst hA
    obtain ⟨e1, e2⟩ := hsame
    rw [State.setFrames_setFrames] at e1
    have h2 : (T.setVm s.vm).sameButNew ({ U with vm := s.vm } : State) [] (0 + 1) (0 + 6) := ⟨e1, e2⟩
    have h3 := X.same.trans h2
    rw [List.append_nil] at h3
    exact h3.mono hc hs
  refine ⟨U, ?_, .threw T.heap.size, hrun, hend, Or.inr ⟨T.heap.size, rfl, cls, ce, locs, hx U hWs.alike f1 (fun q hq => f2 q hq (fun z hz => nomatch hz)), hce, hO.vm, hcl, hWs, hall, hf⟩⟩
  refine st1 _ ?_
  show Steps p.tables e below (T1.setTop { method := m, pc := pc + 3, locals := ls, stack := .ref T.heap.size :: rest, locked := none }) _
  jvm_step X₁.here [X₁.here.top, hexec, d3', Value.category]
  exact X₁.ldcString hexec (own := own) (text := text) (index := is) (a := sa) hown' hstr'.1 hstr'.2
    (g := { method := m, pc := pc + 4, locals := ls, stack := .ref T.heap.size :: .ref T.heap.size :: rest, locked := none }) rfl d4' _ hsteps
/-- 'throw new E("text")', the text by a wide index -/
theorem vx_throwSW {cc : ByteArray} {pc : Nat} (hexec : p.tables.exec = Jvm.exec) (hb : c.code = cc) (hl : l.stackTraces = false) {own cls text : String} {names : List String} {ik is ic mc ms sa : Nat} {A : Nat → Prop}
    (hown : s.vm.findClass own = some m.cls) (hcls : Bundle.fit cls = true) (hnames : ∀ n ∈ names, Bundle.fit n = true)
    (hk : (Cond.classLink own ik cls).before args s = true) (hini : (Cond.initialized cls).before args s = true) (hstr : vk_R own is text sa s) (hat : ∀ w ∈ vx_atS own ic cls names, w.before args s = true)
    (hgood : ∀ w ∈ Cond.classLink own ik cls :: Cond.initialized cls :: vx_atS own ic cls names, vx_ot w = true)
    (hU : vx_Zq Bundle.tN "UNASSIGNED_STACK" Bundle.steD A s s.heap) (hN : vx_Zq Bundle.tN "SUPPRESSED_SENTINEL" Bundle.listD A s s.heap) (hS : va_S A s.heap H locs) (hsize : ls.size = c.maxLocals)
    (d0 : decode cc pc = .ok (.new ik, 3)) (d3 : decode cc (pc + 3) = .ok (.dup, 1)) (d4 : decode cc (pc + 4) = .ok (.ldc_w is, 3)) (d7 : decode cc (pc + 7) = .ok (.invokespecial ic, 3)) (d10 : decode cc (pc + 10) = .ok (.athrow, 1))
    (hout : ∀ x ∈ c.exceptionTable.toList, covers x (pc + 10) = false)
    (hRframes : names.length + 3 < R.frames) (hRlocals : (rest.map fun v => v.category).sum + (13 * (names.length + 1) + 43) ≤ R.locals) (hRcells : cells + 1 ≤ R.cells) (hRslots : slots + 6 ≤ R.slots) (hlocks : meth.locks = false)
    (hx : ∀ t : State, s.vm.Alike t.vm → H.size ≤ t.heap.size → (∀ q : Nat, q < H.size → t.heap[q]? = H[q]?) → XC cls s t)
    (hf : ∀ z ∈ locs, free z.base) (hc : cells + 1 ≤ mc) (hs : slots + 6 ≤ ms) :
    W p l e R s m args below meth c H locs cells slots (vx_MQ below Qc XC args s mc ms free) (F0 m pc ls rest) := by
  intro T hT X
  have htr : e.platform.stackTraces = false := (show e.platform.stackTraces = l.stackTraces by rw [X.admits.platform]).trans hl
  have Y := vx_rebase X (R' := { frames := R.frames, locals := R.locals, cells := 1, slots := 6 }) (Nat.le_refl _) (Nat.le_refl _) hRcells hRslots
  obtain ⟨s', hA⟩ : ∃ z, z = (T.setVm s.vm).setFrames (.invoking m args :: below) := ⟨_, rfl⟩
  rw [← hA] at Y
  have hvm : s'.vm = s.vm := by rw [hA]; rfl
  have hhp : s'.heap = H := by rw [hA]; exact hT
  have hW0 : s.WarmedH s'.vm := by rw [hvm]; exact State.WarmedH.refl s
  have hat' : ∀ w ∈ vx_atS own ic cls names, w.before args s' = true := fun w hw => vx_ot_at hW0 hvm.symm (hgood w (List.mem_cons_of_mem _ (List.mem_cons_of_mem _ hw))) (hat w hw)
  have hk' : (Cond.classLink own ik cls).before args s' = true := vx_ot_at hW0 hvm.symm (hgood _ List.mem_cons_self) hk
  have hini' : (Cond.initialized cls).before args s' = true := vx_ot_at hW0 hvm.symm (hgood _ (List.mem_cons_of_mem _ List.mem_cons_self)) hini
  have hU' : vx_Zq Bundle.tN "UNASSIGNED_STACK" Bundle.steD A s' s'.heap := by rw [hhp]; exact vx_Zq.moved hW0.alike (hU.kept hS.2.1)
  have hN' : vx_Zq Bundle.tN "SUPPRESSED_SENTINEL" Bundle.listD A s' s'.heap := by rw [hhp]; exact vx_Zq.moved hW0.alike (hN.kept hS.2.1)
  have h : ∀ w ∈ Bundle.ownAtoms own ic cls names, w.before args s' = true := vx_own hat' (vx_isRefq hU'.1) (vx_isRefq hN'.1) hU'.2.word hN'.2.word
  have hown' : s'.vm.findClass own = some m.cls := by rw [hvm]; exact hown
  have hins : (Cond.instantiable cls 6).before args s' = true := h _ (by simp [Bundle.ownAtoms])
  obtain ⟨vm₁, cX, kX, hfX, hkX, -, -, X₁, st1⟩ := Y.newCold hexec (own := own) (C := cls) (index := ik) (n := 6) hown' hk' hins hini'
    (g := F0 m pc ls rest) rfl (by rw [hb]; exact d0) (Nat.le_refl _) (Nat.le_refl _)
  generalize hT1 : (T.setVm vm₁).pushCell { cls := cX, slots := kX.instanceTypes.map defaultValue, vm := .none } = T1 at X₁ st1
  have hcat : (Value.ref T.heap.size).category = 1 := rfl
  have hcellA : T1.heap[T.heap.size]? = some (freshCell cX kX) := by rw [← hT1]; exact State.heap_pushCell_size _ _
  have d3' : decode c.code (pc + 3) = .ok (.dup, 1) := by rw [hb]; exact d3
  have d4' : decode c.code (pc + 4) = .ok (.ldc_w is, 3) := by rw [hb]; exact d4
  have hstr' : vk_R own is text sa s' := vk_R.warm hW0 hstr
  obtain ⟨U, hsteps, hrun, hend, hW, hsame, ce, hce, hO⟩ := X₁.ctorThrowS hexec htr (own := own) (cls := cls) (names := names) (ic := ic) hown' hcls hnames h (fun x hx => nomatch hx) hfX hkX hcellA (by rw [hhp, hT]; exact Nat.le_refl _) (msg := .ref sa) rfl
    (g := { method := m, pc := pc + 7, locals := ls, stack := .ref sa :: .ref T.heap.size :: .ref T.heap.size :: rest, locked := none }) rfl hsize rfl rfl (rest := rest) rfl
    (by rw [hb]; exact d7) (by rw [hb]; exact d10) hout hRframes (by simp only [List.map_cons, List.sum_cons, hcat]; omega) hlocks
  obtain ⟨f1, f2⟩ := vx_frame hsame
  rw [hhp] at f1 f2
  have hWs : s.WarmedH U.vm := State.WarmedH.trans hW0 hW
  have hcl : s.vm.findClass cls = some ce.cls := by
    have h9 := hO.cls
    rw [hvm] at h9
    exact h9
  have hall : s.sameButNew ({ U with vm := s.vm } : State) locs mc ms := by
    subst hA
    obtain ⟨e1, e2⟩ := hsame
    rw [State.setFrames_setFrames] at e1
    have h2 : (T.setVm s.vm).sameButNew ({ U with vm := s.vm } : State) [] (0 + 1) (0 + 6) := ⟨e1, e2⟩
    have h3 := X.same.trans h2
    rw [List.append_nil] at h3
    exact h3.mono hc hs
  refine ⟨U, ?_, .threw T.heap.size, hrun, hend, Or.inr ⟨T.heap.size, rfl, cls, ce, locs, hx U hWs.alike f1 (fun q hq => f2 q hq (fun z hz => nomatch hz)), hce, hO.vm, hcl, hWs, hall, hf⟩⟩
  refine st1 _ ?_
  show Steps p.tables e below (T1.setTop { method := m, pc := pc + 3, locals := ls, stack := .ref T.heap.size :: rest, locked := none }) _
  jvm_step X₁.here [X₁.here.top, hexec, d3', Value.category]
  exact X₁.ldcStringW hexec (own := own) (text := text) (index := is) (a := sa) hown' hstr'.1 hstr'.2
    (g := { method := m, pc := pc + 4, locals := ls, stack := .ref T.heap.size :: .ref T.heap.size :: rest, locked := none }) rfl d4' _ hsteps
end Ends
section Bodies
variable {l : Launch}
theorem vx_ofW {y : MethodName} {ws ws' : List Cond} {rm : Room} {Pc : Array Value → State → Prop} {Qc : Array Value → State → Outcome → State → Prop} {XC : String → State → State → Prop} {mc ms : Nat} {free : Addr → Prop} {cc : ByteArray} {maxL : Nat} {ret : Option FieldType}
    (hy : plainName y.cls = true) (hw : ws = Cond.code y cc maxL ret :: ws')
    (body : ∀ p e s m args below meth c s₁, BodyLoose p l y (headSpec ws rm) cc maxL ret e s m args below meth c s₁ → c.maxLocals = maxL → (∀ x ∈ c.exceptionTable.toList, False) → Pc args s →
      W p l e (headSpec ws rm).room s m args below meth c s.heap [] 0 0 (vx_MQ below Qc XC args s mc ms free) (entryFrame m args maxL)) : vx_Met l y ws rm Pc Qc XC mc ms free := by
  refine MetFree.of_bodyS (code := cc) (maxLocals := maxL) (ret := ret) hy ?_ ?_
  · intro args s m h hn
    obtain ⟨meth, c, h1, h2, h3, h4, h5, h6, -, -⟩ := Cond.code_spec hn (atoms_spec (ws := ws) h _ (by rw [hw]; exact List.mem_cons_self))
    exact ⟨meth, c, h1, h2, h3, h4, h5, h6⟩
  · intro p e s m args below meth c s₁ B hml hP _
    have hh0 : s₁.heap = s.heap := by rw [B.state]; rfl
    have ht : ∀ x ∈ c.exceptionTable.toList, False := by
      obtain ⟨meth9, c9, h1, h2, -, -, -, -, h7, -⟩ := Cond.code_spec B.named (atoms_spec (ws := ws) B.pre _ (by rw [hw]; exact List.mem_cons_self))
      cases Option.some.inj (h1.symm.trans B.method)
      cases Option.some.inj (h2.symm.trans (Stand.of_body B).code)
      intro x hx
      rw [Array.isEmpty_iff.mp h7] at hx
      cases hx
    obtain ⟨t, a1, o, b1, b2, b3⟩ := body p e s m args below meth c s₁ B hml ht hP s₁ hh0 (Stand.of_body B)
    exact ⟨t, o, a1, b1, b2, b3⟩
/-- the table of a body with handlers -/
theorem vx_table {p : Program} {x y : MethodName} {S : Spec} {cc bytes : ByteArray} {maxL maxL' : Nat} {ret ret' : Option FieldType} {e : Env} {s s₁ : State} {m : MethodId} {args : Array Value} {below : List Frame} {meth : Method} {c : Code} {hh : List (Nat × Nat × Nat × Nat)}
    (B : BodyLoose p l y S cc maxL ret e s m args below meth c s₁) (h : (Cond.codeWith y bytes maxL' ret' hh).before args s = true) : c.exceptionTable.toList = tableOf hh := by
  obtain ⟨m9, meth9, c9, hn9, h1, h2, -, -, h6, -⟩ := Cond.codeWith_spec h
  cases Option.some.inj (hn9.symm.trans B.named)
  cases Option.some.inj (h1.symm.trans B.method)
  cases Option.some.inj (h2.symm.trans (Stand.of_body B).code)
  rw [← h6, table_eq]
end Bodies
end VXA
/-! ===== END ===== -/
/-! ===== BEGIN a static call of a method with an exception table ===== -/
section VXS
variable {p : Program} {l : Launch} {e : Env} {R : Room} {s : State} {m : MethodId} {args : Array Value} {below : List Frame} {meth : Method} {c : Code} {T : State} {H : Heap} {locs : List Loc} {cells slots : Nat}
abbrev vx_CSW (R : Room) (s : State) (args : Array Value) (own : String) (index : Nat) (y : MethodName) (bytes : ByteArray) (maxL : Nat) (ret : Option FieldType) (hh : List (Nat × Nat × Nat × Nat)) (ws : List Cond) (rm : Room) (mc ms n : Nat) : Prop :=
  (rm.cells = mc ∧ rm.slots = ms ∧ rm.frames + 1 ≤ R.frames ∧ 8 + (maxL + 11) + rm.locals ≤ R.locals ∧ (∀ w ∈ ws, ∀ (a' : Array Value) (U : State), s.WarmedH U.vm → w.before a' U = true) ∧ Cond.codeWith y bytes maxL ret hh ∈ ws) ∧
  (Cond.codeWith y bytes maxL ret hh).before args s = true ∧ (Cond.initialized y.cls).before args s = true ∧ (y.cls ≠ "java/lang/invoke/MethodHandle" ∧ y.cls ≠ "java/lang/invoke/VarHandle") ∧
  (∀ sig, parseMethodDescriptor y.desc = some sig → n = sig.parameters.length) ∧ (Cond.methodLink own index y).before args s = true ∧ (Cond.static y).before args s = true
theorem vx_cwSW {own : String} {index maxL mc ms : Nat} {y : MethodName} {bytes : ByteArray} {ret : Option FieldType} {hh : List (Nat × Nat × Nat × Nat)} {Ts ws ws' : List Cond} {rm : Room} (n : Nat) (ht : ∀ w ∈ Ts, w.before args s = true) (hT : GoodIn Ts (va_wsS own index y ws)) (hw : ws = Cond.codeWith y bytes maxL ret hh :: ws') (hrc : rm.cells = mc) (hrs : rm.slots = ms)
    (hd : y.cls ≠ "java/lang/invoke/MethodHandle" ∧ y.cls ≠ "java/lang/invoke/VarHandle" ∧ (parseMethodDescriptor y.desc).map (fun d => d.parameters.length) = some n) (hR : rm.frames + 1 ≤ R.frames ∧ 8 + (maxL + 11) + rm.locals ≤ R.locals) :
    vx_CSW R s args own index y bytes maxL ret hh ws rm mc ms n := by
  have ok : ∀ w ∈ va_wsS own index y ws, w.before args s = true := fun w h => ht w (hT w h).1
  have hG : GoodIn Ts ws := fun w h => hT w (by unfold va_wsS; exact List.mem_append_right _ h)
  have hc : Cond.codeWith y bytes maxL ret hh ∈ ws := by rw [hw]; exact List.mem_cons_self
  refine ⟨⟨hrc, hrs, hR.1, hR.2, pay_in ht hG, hc⟩, ht _ (hG _ hc).1, ok _ (by simp [va_wsS]), ⟨hd.1, hd.2.1⟩, fun sig h => ?_, ok _ (by simp [va_wsS]), ok _ (by simp [va_wsS])⟩
  have h2 := hd.2.2
  rw [h] at h2
  exact (Option.some.inj h2).symm
theorem vx_callSW (X : Stand p l e R s m args below meth c T locs cells slots) (hexec : p.tables.exec = Jvm.exec) {own : String} {index : Nat} {y : MethodName} {bytes : ByteArray} {maxL : Nat} {ret : Option FieldType} {hh : List (Nat × Nat × Nat × Nat)}
    (hown : s.vm.findClass own = some m.cls) (hlink : (Cond.methodLink own index y).before args s = true) (hstat : (Cond.static y).before args s = true) (hinit : (Cond.initialized y.cls).before args s = true)
    (hcode : (Cond.codeWith y bytes maxL ret hh).before args s = true) (hy : y.cls ≠ "java/lang/invoke/MethodHandle" ∧ y.cls ≠ "java/lang/invoke/VarHandle")
    {W9 : Nat} {Pre : Pt → Array Value → Prop} {Post : Pt → Array Value → Option Value → Pt → Prop} (hK : Back l R p e below s args y 3 W9 Pre Post)
    {g : JFrame} (hg : g.method = m) (hsize : g.locals.size = c.maxLocals) {argsL rest : List Value} (hlen : ∀ sig, parseMethodDescriptor y.desc = some sig → argsL.length = sig.parameters.length)
    (hstack : g.stack = argsL.reverse ++ rest) (hW : 2 * g.monitorRoom + (rest.map fun v => v.category).sum ≤ W9) (hdg : decode c.code g.pc = .ok (.invokestatic index, 3))
    (hpre : ∀ vm₁, s.WarmedH vm₁ → Pre ⟨T.setVm vm₁, locs, cells, slots⟩ argsL.toArray) :
    ∃ (v : Option Value) (vm₁ : Vm) (B : Pt), s.WarmedH vm₁ ∧ Stand p l e R s m args below meth c B.U B.locs B.cells B.slots ∧ Post ⟨T.setVm vm₁, locs, cells, slots⟩ argsL.toArray v B ∧
      ∀ target, Steps p.tables e below (B.U.setTop { g with pc := g.pc + 3, stack := v.toList ++ rest }) target → Steps p.tables e below (T.setTop g) target := by
  obtain ⟨mk, methM, cM, hnamed, hmethM, -, -, -, -, -, -, hsigM⟩ := Cond.codeWith_spec hcode
  have hstatic : methM.isStatic = true := Cond.static_spec hnamed hmethM hstat
  obtain ⟨kP, hkP, -⟩ := className_of_methodNamed hnamed
  have hinitP : kP.init = .initialized := Cond.initialized_spec (findClass_of_methodNamed hnamed) hkP hinit
  obtain ⟨vm₁, X₁, hstep₁⟩ := X.invokestatic hexec hown hlink hnamed hmethM hstatic hkP hinitP hy (g := g) hg (argsL := argsL) (rest := rest) (hlen _ hsigM) hstack hdg
  obtain ⟨v, B, X', hpost, hsteps⟩ := hK m meth c ⟨T.setVm vm₁, locs, cells, slots⟩ { g with stack := rest } (.invokestatic index) mk argsL.toArray X₁ hg hsize hdg hW (X₁.named hnamed) (hpre vm₁ X₁.warmed)
  exact ⟨v, vm₁, B, X₁.warmed, X', hpost, fun target h => hstep₁ _ fun acts => by rw [doInvoke_state]; exact hsteps.trans h⟩
theorem vx_runSW {y : MethodName} {bytes cc : ByteArray} {maxL nL mc ms n index : Nat} {ret : Option FieldType} {hh : List (Nat × Nat × Nat × Nat)} {ws : List Cond} {rm : Room} {Pc : Array Value → State → Prop} {Qc : Array Value → State → Outcome → State → Prop} {free : Addr → Prop} {Ts : List Cond} {own : String} {As rest : List Value} {g : JFrame}
    (S : CallFix p m c cc nL s args Ts own) (hM : Met l y ws rm Pc Qc mc ms free) (cw : vx_CSW R s args own index y bytes maxL ret hh ws rm mc ms n) (hp : PreS s H Pc As)
    (hg : g.method = m) (hn : As.length = n) (hsize : g.locals.size = nL) (hstack : g.stack = As.reverse ++ rest) (hW : 2 * g.monitorRoom + (rest.map fun v => v.category).sum ≤ 8) (hdg : decode cc g.pc = .ok (.invokestatic index, 3)) (hf : cells + mc ≤ R.cells ∧ slots + ms ≤ R.slots) :
    va_Run p l e R s m args below meth c H locs cells slots mc ms g rest (Qc As.toArray) (free) := by
  obtain ⟨⟨hrc, hrs, hfr, hlo, hws, hcw⟩, hcode, hini, hy, hlen, hl, hstt⟩ := cw
  have hK : Back l R p e below s args y 3 8 (PreOf R mc ms Pc) (PostOf Qc mc ms free) := va_backW (hh := hh) (bytes := bytes) (maxL := maxL) (ret := ret) hM hp.1 hrc hrs hfr hlo hws hcw (fun a' U hW => word_at hW (Or.inl (by first | rfl | simp [Cond.onTables, Cond.keeps, Cond.steady])) hini)
  obtain ⟨hx, hb, hml, ho, -⟩ := S
  intro T hT X
  obtain ⟨v, vm₁, ⟨U', l2, c2, s2⟩, hW₁, X', ⟨g', mk, t, L, e1, e2, hq, h1, hL, h2, h3⟩, st⟩ := vx_callSW X hx (hh := hh) (bytes := bytes) (maxL := maxL) (ret := ret) ho hl hstt hini hcode hy hK hg (hsize.trans hml.symm) (argsL := As) (rest := rest) (fun sig h => hn.trans (hlen sig h)) hstack hW (by rw [hb]; exact hdg)
    (fun vm₁ hW₁ => ⟨hf.1, hf.2, hp.2 (T.setVm vm₁) hT hW₁⟩)
  dsimp only [Pt.U, Pt.locs, Pt.cells, Pt.slots] at X' e1 e2 h1 h2 h3 st
  subst h1; subst h2; subst h3
  exact ⟨v, (T.setVm vm₁).calling g' mk As.toArray, t, U', L, hT, X', hL, e1, e2, hq, st⟩
/-- not caught here, past rows that name other classes: it goes on to the caller -/
theorem vx_outP {p : Program} {l : Launch} {e : Env} {R : Room} {s : State} {m : MethodId} {args : Array Value} {below : List Frame} {meth : Method} {c : Code} {H : Heap} {locs : List Loc} {cells slots : Nat} {free : Addr → Prop} {ls : Array Slot} {rest : List Value} {Qc : Array Value → State → Outcome → State → Prop} {XC : String → State → State → Prop}
    {pc : Nat} {own E : String} {ce : Cell} {q : Addr} {mc ms : Nat} (hown : s.vm.findClass own = some m.cls) (hlocks : meth.locks = false)
    (hpass : ∀ z ∈ c.exceptionTable.toList, covers z pc = false ∨ (z.catchType ≠ 0 ∧ ∃ nm : String, (Cond.classLink own z.catchType nm).before args s = true ∧ va_Nc E nm s)) (hcell : H[q]? = some ce) (hv : ce.vm = .none) (hcl : s.vm.findClass E = some ce.cls)
    (hx : ∀ t : State, t.heap = H → s.vm.Alike t.vm → XC E s t) (hf : ∀ z ∈ locs, free z.base) (hc : cells ≤ mc) (hs : slots ≤ ms) :
    vx_W p l e R s m args below meth c H locs cells slots (vx_MQ below Qc XC args s mc ms free) (F0 m pc ls rest) q := by
  intro T hT X
  have hpl : e.platform.magicAccessors = ({} : Platform).magicAccessors := by rw [X.admits.platform]
  obtain ⟨vm', hW', X', st⟩ := X.outThrough hlocks q (g := F0 m pc ls rest) rfl rfl rfl (cell := ce) (by rw [hT]; exact hcell) (by rw [hv]; rfl)
    (by obtain ⟨k9, h9, -⟩ := Vm.findClass_spec hcl; exact ⟨k9, h9⟩) (fun z hz => by
      rcases hpass z hz with h | ⟨hz0, nm, hl1, hn1⟩
      · exact Or.inl h
      · obtain ⟨c6, hc6, hcl6⟩ := Cond.classLink_spec hown hl1 e.platform hpl
        obtain ⟨a8, b8, h1, h2, h3⟩ := hn1
        cases Option.some.inj (h1.symm.trans hcl)
        cases Option.some.inj (h2.symm.trans hc6)
        exact Or.inr ⟨hz0, _, hcl6, h3⟩)
  obtain ⟨g₀, hfr⟩ := X'.frames_eq
  have hcell9 : ((T.setVm vm').setFrames (.throwing q :: below)).heap[q]? = some ce := by
    show T.heap[q]? = some ce
    rw [hT]; exact hcell
  have hend : Ended ((T.setVm vm').setFrames (.throwing q :: below)) below (.threw q) := State.frames_setFrames _ (State.cur_lt_of_frames hfr)
  refine ⟨(T.setVm vm').setFrames (.throwing q :: below), ?_, .threw q, X'.here.running, hend, Or.inr ⟨q, rfl, E, ce, locs, hx _ hT (X'.ends _).1.alike, hcell9, hv, hcl, (X'.ends _).1, (X'.ends _).2.mono hc hs, hf⟩⟩
  rw [X.pushThrowing_eq]
  exact st
/-- a thing of a world lies in the heap -/
theorem vx_lt {D : va_G} {cl : List vw_C} {ws : va_W} {H1 : Heap} (h : va_P D cl ws H1) {k : Nat} {q : Nat × va_E} (hk : ws[k]? = some q) : q.1 < H1.size := (h k q hk).lt
end VXS
/-! ===== END ===== -/
/-! ===== BEGIN methods with a table of their own: called by a name, returning or throwing ===== -/
section VXH
/-! vx_backW, vx_callVX, vx_callSX, vx_callVW, vx_runVW, vx_runVX, vx_runSX, vx_ofWH follow the same proofs as their sisters above (Free/Laws.lean, Shelf42/LK1.lean); vx_outP calls Shelf42/NT130.lean (outThrough). -/
section
variable {l : Launch} {R : Room} {p : Program} {e : Env} {below : List Frame} {s : State} {sargs : Array Value} {y : MethodName} {len W9 : Nat}
theorem vx_backW {ws : List Cond} {rm : Room} {Pc : Array Value → State → Prop} {Qc : Array Value → State → Outcome → State → Prop} {XC : String → State → State → Prop} {mc ms : Nat} {free : Addr → Prop} {bytes : ByteArray} {maxL : Nat} {ret : Option FieldType} {hh : List (Nat × Nat × Nat × Nat)}
    (hM : vx_Met l y ws rm Pc Qc XC mc ms free) (hblind : FrameBlind Pc) (hrc : rm.cells = mc) (hrs : rm.slots = ms)
    (hframes : rm.frames + 1 ≤ R.frames) (hlocals : W9 + (maxL + 11) + rm.locals ≤ R.locals)
    (hws : ∀ w ∈ ws, ∀ a' U, s.WarmedH U.vm → w.before a' U = true) (hcode : Cond.codeWith y bytes maxL ret hh ∈ ws) (hinit : ∀ a' U, s.WarmedH U.vm → (Cond.initialized y.cls).before a' U = true) :
    vx_Back l R p e below s sargs y len W9 (PreOf R mc ms Pc) (PostOf Qc mc ms free) (vx_Post XC mc ms free) := by
  intro m meth c A g ig mk a X hg hsize hdg hW hn hp
  have h1 : (headSpec ws rm).pre.before a A.U = true := atoms_intro fun w hw => hws w hw _ _ X.warmed
  have h2 : (Cond.codeWith y bytes maxL ret hh).before a A.U = true := hws _ hcode _ _ X.warmed
  have h3 : (Cond.initialized y.cls).before a A.U = true := hinit _ _ X.warmed
  have h4 : A.cells + (headSpec ws rm).room.cells ≤ R.cells := by rw [show (headSpec ws rm).room.cells = mc from hrc]; exact hp.1
  have h5 : A.slots + (headSpec ws rm).room.slots ≤ R.slots := by rw [show (headSpec ws rm).room.slots = ms from hrs]; exact hp.2.1
  have hPc : Pc a (A.U.calling g mk a) := hblind _ _ _ _ hp.2.2
  obtain ⟨U, Ls, c0, s0⟩ := A
  dsimp only [Pt.U, Pt.locs, Pt.cells, Pt.slots] at h1 h2 h3 h4 h5 X hn hPc ⊢
  obtain ⟨m9, methY, cY, hn9, hmY, hcY, -, hlY, -⟩ := Cond.codeWith_spec h2
  cases Option.some.inj (hn9.symm.trans hn)
  obtain ⟨kY, hkY, -⟩ := className_of_methodNamed hn
  have hinitY : kY.init = .initialized := Cond.initialized_spec (findClass_of_methodNamed hn) hkY h3
  have h : At U g.method c below := by rw [hg]; exact X.here
  have hlocals9 : W9 + (maxL + 11) + (headSpec ws rm).room.locals ≤ R.locals := hlocals
  have happ : (headSpec ws rm).appliesLoose y e.platform (U.calling g mk a) = true :=
    Spec.appliesLoose_calling (g := g) h hdg hn hkY hinitY
      (X.room_calling (g := g) (R' := (headSpec ws rm).room) hsize hmY hcY hframes (by rw [hlY]; omega) h4 h5) h1
  obtain ⟨mid, hmid⟩ := h.above
  have hfr : (U.setTop g).frames = (.java g :: mid) ++ below := by rw [State.frames_setTop' g h.top, hmid]; rfl
  obtain ⟨o, s₂, hsteps, -, hend, hq⟩ := Steps.callFree hM p X.admits X.cas X.clock (acts := []) hfr happ hPc trivial
  have hq' : vx_Q Qc XC mc ms free a (U.calling g mk a) o s₂ := hq
  rw [State.frames_setTop' g h.top] at hend
  obtain ⟨g₀, hg0⟩ := Option.isSome_iff_exists.mp h.top
  obtain ⟨r, hr⟩ := State.topJava?_eq_some.mp hg0
  have hr' : (({ U with heap := s₂.heap, slotsUsed := s₂.slotsUsed } : State).setVm s₂.vm).frames = .java g₀ :: r := hr
  rcases hq' with ⟨hqc, L, hfe, hL⟩ | ⟨q, rfl, E, ce, L, hx, hce, hcv, hcl, hW₂, hsm, hL⟩
  · obtain ⟨⟨v, rfl⟩, hW₂, e2, q2, q3, q4, q5, q6⟩ := id hfe
    have e3 : s₂ = ({ (U.calling g mk a).setFrames s₂.frames with heap := s₂.heap, slotsUsed := s₂.slotsUsed } : State).setVm s₂.vm := by
      have : s₂ = ({ s₂ with vm := (U.calling g mk a).vm } : State).setVm s₂.vm := rfl
      rw [e2] at this
      exact this
    obtain ⟨c₂, i₂, len₂, hc₂, hd₂, hf₂⟩ := hend
    have hW' : U.WarmedH s₂.vm := hW₂
    have hcc : c₂ = c := by
      have h1 : s₂.code? g.method = U.code? g.method := by
        rw [State.code?_eq, State.code?_eq, hW'.alike.method?]
      exact Option.some.inj (hc₂.symm.trans (h1.trans h.code))
    subst hcc
    have hlen : len₂ = len := by rw [hdg] at hd₂; cases hd₂; rfl
    subst hlen
    have hs₂ : s₂ = (({ U with heap := s₂.heap, slotsUsed := s₂.slotsUsed } : State).setVm s₂.vm).setTop { g with pc := g.pc + len₂, stack := v.toList ++ g.stack } := by
      refine e3.trans ?_
      rw [hf₂, State.calling_eq h.top, State.setFrames_setFrames, State.setTop_of_frames _ hr', hr]
      rfl
    have hsame : U.sameButNew ({ U with heap := s₂.heap, slotsUsed := s₂.slotsUsed } : State) L mc ms := by
      refine ⟨?_, q2, q3, q4, q5, q6⟩
      obtain ⟨t, ht, -⟩ := State.frames_cons hr
      show ({ U with heap := s₂.heap, slotsUsed := s₂.slotsUsed } : State) = { U.setFrames U.frames with heap := s₂.heap, slotsUsed := s₂.slotsUsed }
      rw [State.setFrames_self ht]
    subst hg
    refine Or.inl ⟨v, ⟨(({ U with heap := s₂.heap, slotsUsed := s₂.slotsUsed } : State).setVm s₂.vm), Ls ++ L, c0 + mc, s0 + ms⟩,
      ⟨X.admits, X.cas, X.clock, X.frames, X.room, X.hears, X.method, X.code, (X.here.setHeapUsed s₂.heap s₂.slotsUsed).setVm hW'.alike, X.tail, State.WarmedH.trans X.warmed hW', X.limits, X.bytes, X.same.trans (hsame.setVm s.vm)⟩,
      ⟨g, mk, s₂, L, rfl, rfl, hqc, rfl, hL, rfl, rfl⟩, ?_⟩
    show Steps p.tables e below _ ((({ U with heap := s₂.heap, slotsUsed := s₂.slotsUsed } : State).setVm s₂.vm).setTop { g with pc := g.pc + len₂, stack := v.toList ++ g.stack })
    rw [← hs₂]
    exact hsteps
  · obtain ⟨e2, q2, q3, q4, q5, q6⟩ := id hsm
    have e3 : s₂ = ({ (U.calling g mk a).setFrames s₂.frames with heap := s₂.heap, slotsUsed := s₂.slotsUsed } : State).setVm s₂.vm := by
      have : s₂ = ({ s₂ with vm := (U.calling g mk a).vm } : State).setVm s₂.vm := rfl
      rw [e2] at this
      exact this
    have hf₂ : s₂.frames = .throwing q :: .java g :: U.frames.tail := hend
    have hW' : U.WarmedH s₂.vm := hW₂
    have hs₂ : s₂ = ((({ U with heap := s₂.heap, slotsUsed := s₂.slotsUsed } : State).setVm s₂.vm).setTop g).pushFrame (.throwing q) := by
      refine e3.trans ?_
      rw [hf₂, State.calling_eq h.top, State.setFrames_setFrames, State.pushFrame, State.frames_setTop _ hr', State.setTop_of_frames _ hr', State.setFrames_setFrames, hr]
      rfl
    have hsame : U.sameButNew ({ U with heap := s₂.heap, slotsUsed := s₂.slotsUsed } : State) L mc ms := by
      refine ⟨?_, q2, q3, q4, q5, q6⟩
      obtain ⟨t, ht, -⟩ := State.frames_cons hr
      show ({ U with heap := s₂.heap, slotsUsed := s₂.slotsUsed } : State) = { U.setFrames U.frames with heap := s₂.heap, slotsUsed := s₂.slotsUsed }
      rw [State.setFrames_self ht]
    subst hg
    refine Or.inr ⟨q, ⟨(({ U with heap := s₂.heap, slotsUsed := s₂.slotsUsed } : State).setVm s₂.vm), Ls ++ L, c0 + mc, s0 + ms⟩,
      ⟨X.admits, X.cas, X.clock, X.frames, X.room, X.hears, X.method, X.code, (X.here.setHeapUsed s₂.heap s₂.slotsUsed).setVm hW'.alike, X.tail, State.WarmedH.trans X.warmed hW', X.limits, X.bytes, X.same.trans (hsame.setVm s.vm)⟩,
      ⟨g, mk, s₂, L, E, ce, rfl, rfl, hx, hce, hcv, hcl, rfl, hL, rfl, rfl⟩, ?_⟩
    show Steps p.tables e below _ (((({ U with heap := s₂.heap, slotsUsed := s₂.slotsUsed } : State).setVm s₂.vm).setTop g).pushFrame (.throwing q))
    rw [← hs₂]
    exact hsteps
end
variable {p : Program} {l : Launch} {e : Env} {R : Room} {s : State} {m : MethodId} {args : Array Value} {below : List Frame} {meth : Method} {c : Code} {T : State} {H : Heap} {locs : List Loc} {cells slots : Nat}
theorem vx_callVX (X : Stand p l e R s m args below meth c T locs cells slots) (hexec : p.tables.exec = Jvm.exec) {own C : String} {index : Nat} {y : MethodName} {bytes : ByteArray} {maxL : Nat} {ret : Option FieldType} {hh : List (Nat × Nat × Nat × Nat)}
    (hown : s.vm.findClass own = some m.cls) (hlink : (Cond.methodLink own index y).before args s = true) (hinst : (Cond.instanceMethod y).before args s = true) (hsel : (Cond.selects C y y).before args s = true)
    (hcode : (Cond.codeWith y bytes maxL ret hh).before args s = true) (hy : y.cls ≠ "java/lang/invoke/MethodHandle" ∧ y.cls ≠ "java/lang/invoke/VarHandle")
    {W9 : Nat} {Pre : Pt → Array Value → Prop} {Post : Pt → Array Value → Option Value → Pt → Prop} {PostX : Pt → Array Value → Addr → Pt → Prop} (hK : vx_Back l R p e below s args y 3 W9 Pre Post PostX)
    {b : Addr} {cellB : Cell} (hcell : T.heap[b]? = some cellB) (hobj : cellB.vm.isStatics = false) (hcls : s.vm.findClass C = some cellB.cls)
    {g : JFrame} (hg : g.method = m) (hsize : g.locals.size = c.maxLocals) {argsL rest : List Value} (hlen : ∀ sig, parseMethodDescriptor y.desc = some sig → argsL.length = sig.parameters.length)
    (hstack : g.stack = argsL.reverse ++ .ref b :: rest) (hW : 2 * g.monitorRoom + (rest.map fun v => v.category).sum ≤ W9) (hdg : decode c.code g.pc = .ok (.invokevirtual index, 3))
    (hpre : ∀ vm₁, s.WarmedH vm₁ → Pre ⟨T.setVm vm₁, locs, cells, slots⟩ (Value.ref b :: argsL).toArray) :
    (∃ (v : Option Value) (vm₁ : Vm) (B : Pt), s.WarmedH vm₁ ∧ Stand p l e R s m args below meth c B.U B.locs B.cells B.slots ∧ Post ⟨T.setVm vm₁, locs, cells, slots⟩ (Value.ref b :: argsL).toArray v B ∧
      ∀ target, Steps p.tables e below (B.U.setTop { g with pc := g.pc + 3, stack := v.toList ++ rest }) target → Steps p.tables e below (T.setTop g) target) ∨
    (∃ (q : Addr) (vm₁ : Vm) (B : Pt), s.WarmedH vm₁ ∧ Stand p l e R s m args below meth c B.U B.locs B.cells B.slots ∧ PostX ⟨T.setVm vm₁, locs, cells, slots⟩ (Value.ref b :: argsL).toArray q B ∧
      Steps p.tables e below (T.setTop g) ((B.U.setTop { g with stack := rest }).pushFrame (.throwing q))) := by
  obtain ⟨mk, methM, hnamed, hmethM, hstM, habM⟩ := Cond.instanceMethod_spec hinst
  obtain ⟨m8, methM', cM, hn8, hmethM', -, -, -, -, -, -, hsigM⟩ := Cond.codeWith_spec hcode
  cases Option.some.inj (hn8.symm.trans hnamed)
  cases hmethM.symm.trans hmethM'
  obtain ⟨c2, r2, m2, q1, q2, q3, q4, kP, hkP, hkPi⟩ := Cond.selects_spec hsel
  cases hcls.symm.trans q1
  cases (State.methodFound?_of_named hnamed hy).symm.trans q2
  cases hnamed.symm.trans q3
  have hselP : selectMethod e.platform s.vm cellB.cls mk = .method mk := by rw [Launch.admits_selectMethod X.admits]; exact q4
  obtain ⟨vm₁, X₁, hstep₁⟩ := X.invokevirtual hexec hown hlink hnamed hmethM hstM hkP hkPi hy (a := b) (cell := cellB) hcell
    (fun z h => by rw [h] at hobj; cases hobj) hselP hmethM habM hkP hkPi (g := g) hg (argsL := argsL) (rest := rest) (hlen _ hsigM) hstack hdg
  rcases hK m meth c ⟨T.setVm vm₁, locs, cells, slots⟩ { g with stack := rest } (.invokevirtual index) mk (Value.ref b :: argsL).toArray X₁ hg hsize hdg hW (X₁.named hnamed) (hpre vm₁ X₁.warmed) with ⟨v, B, X', hpost, hsteps⟩ | ⟨q, B, X', hpost, hsteps⟩
  · exact Or.inl ⟨v, vm₁, B, X₁.warmed, X', hpost, fun target h => hstep₁ _ fun acts => by rw [doInvoke_state]; exact hsteps.trans h⟩
  · exact Or.inr ⟨q, vm₁, B, X₁.warmed, X', hpost, hstep₁ _ fun acts => by rw [doInvoke_state]; exact hsteps⟩
theorem vx_callSX (X : Stand p l e R s m args below meth c T locs cells slots) (hexec : p.tables.exec = Jvm.exec) {own : String} {index : Nat} {y : MethodName} {bytes : ByteArray} {maxL : Nat} {ret : Option FieldType} {hh : List (Nat × Nat × Nat × Nat)}
    (hown : s.vm.findClass own = some m.cls) (hlink : (Cond.methodLink own index y).before args s = true) (hstat : (Cond.static y).before args s = true) (hinit : (Cond.initialized y.cls).before args s = true)
    (hcode : (Cond.codeWith y bytes maxL ret hh).before args s = true) (hy : y.cls ≠ "java/lang/invoke/MethodHandle" ∧ y.cls ≠ "java/lang/invoke/VarHandle")
    {W9 : Nat} {Pre : Pt → Array Value → Prop} {Post : Pt → Array Value → Option Value → Pt → Prop} {PostX : Pt → Array Value → Addr → Pt → Prop} (hK : vx_Back l R p e below s args y 3 W9 Pre Post PostX)
    {g : JFrame} (hg : g.method = m) (hsize : g.locals.size = c.maxLocals) {argsL rest : List Value} (hlen : ∀ sig, parseMethodDescriptor y.desc = some sig → argsL.length = sig.parameters.length)
    (hstack : g.stack = argsL.reverse ++ rest) (hW : 2 * g.monitorRoom + (rest.map fun v => v.category).sum ≤ W9) (hdg : decode c.code g.pc = .ok (.invokestatic index, 3))
    (hpre : ∀ vm₁, s.WarmedH vm₁ → Pre ⟨T.setVm vm₁, locs, cells, slots⟩ argsL.toArray) :
    (∃ (v : Option Value) (vm₁ : Vm) (B : Pt), s.WarmedH vm₁ ∧ Stand p l e R s m args below meth c B.U B.locs B.cells B.slots ∧ Post ⟨T.setVm vm₁, locs, cells, slots⟩ argsL.toArray v B ∧
      ∀ target, Steps p.tables e below (B.U.setTop { g with pc := g.pc + 3, stack := v.toList ++ rest }) target → Steps p.tables e below (T.setTop g) target) ∨
    (∃ (q : Addr) (vm₁ : Vm) (B : Pt), s.WarmedH vm₁ ∧ Stand p l e R s m args below meth c B.U B.locs B.cells B.slots ∧ PostX ⟨T.setVm vm₁, locs, cells, slots⟩ argsL.toArray q B ∧
      Steps p.tables e below (T.setTop g) ((B.U.setTop { g with stack := rest }).pushFrame (.throwing q))) := by
  obtain ⟨mk, methM, cM, hnamed, hmethM, -, -, -, -, -, -, hsigM⟩ := Cond.codeWith_spec hcode
  have hstatic : methM.isStatic = true := Cond.static_spec hnamed hmethM hstat
  obtain ⟨kP, hkP, -⟩ := className_of_methodNamed hnamed
  have hinitP : kP.init = .initialized := Cond.initialized_spec (findClass_of_methodNamed hnamed) hkP hinit
  obtain ⟨vm₁, X₁, hstep₁⟩ := X.invokestatic hexec hown hlink hnamed hmethM hstatic hkP hinitP hy (g := g) hg (argsL := argsL) (rest := rest) (hlen _ hsigM) hstack hdg
  rcases hK m meth c ⟨T.setVm vm₁, locs, cells, slots⟩ { g with stack := rest } (.invokestatic index) mk argsL.toArray X₁ hg hsize hdg hW (X₁.named hnamed) (hpre vm₁ X₁.warmed) with ⟨v, B, X', hpost, hsteps⟩ | ⟨q, B, X', hpost, hsteps⟩
  · exact Or.inl ⟨v, vm₁, B, X₁.warmed, X', hpost, fun target h => hstep₁ _ fun acts => by rw [doInvoke_state]; exact hsteps.trans h⟩
  · exact Or.inr ⟨q, vm₁, B, X₁.warmed, X', hpost, hstep₁ _ fun acts => by rw [doInvoke_state]; exact hsteps⟩
theorem vx_callVW (X : Stand p l e R s m args below meth c T locs cells slots) (hexec : p.tables.exec = Jvm.exec) {own C : String} {index : Nat} {y : MethodName} {bytes : ByteArray} {maxL : Nat} {ret : Option FieldType} {hh : List (Nat × Nat × Nat × Nat)}
    (hown : s.vm.findClass own = some m.cls) (hlink : (Cond.methodLink own index y).before args s = true) (hinst : (Cond.instanceMethod y).before args s = true) (hsel : (Cond.selects C y y).before args s = true)
    (hcode : (Cond.codeWith y bytes maxL ret hh).before args s = true) (hy : y.cls ≠ "java/lang/invoke/MethodHandle" ∧ y.cls ≠ "java/lang/invoke/VarHandle")
    {W9 : Nat} {Pre : Pt → Array Value → Prop} {Post : Pt → Array Value → Option Value → Pt → Prop} (hK : Back l R p e below s args y 3 W9 Pre Post)
    {b : Addr} {cellB : Cell} (hcell : T.heap[b]? = some cellB) (hobj : cellB.vm.isStatics = false) (hcls : s.vm.findClass C = some cellB.cls)
    {g : JFrame} (hg : g.method = m) (hsize : g.locals.size = c.maxLocals) {argsL rest : List Value} (hlen : ∀ sig, parseMethodDescriptor y.desc = some sig → argsL.length = sig.parameters.length)
    (hstack : g.stack = argsL.reverse ++ .ref b :: rest) (hW : 2 * g.monitorRoom + (rest.map fun v => v.category).sum ≤ W9) (hdg : decode c.code g.pc = .ok (.invokevirtual index, 3))
    (hpre : ∀ vm₁, s.WarmedH vm₁ → Pre ⟨T.setVm vm₁, locs, cells, slots⟩ (Value.ref b :: argsL).toArray) :
    ∃ (v : Option Value) (vm₁ : Vm) (B : Pt), s.WarmedH vm₁ ∧ Stand p l e R s m args below meth c B.U B.locs B.cells B.slots ∧ Post ⟨T.setVm vm₁, locs, cells, slots⟩ (Value.ref b :: argsL).toArray v B ∧
      ∀ target, Steps p.tables e below (B.U.setTop { g with pc := g.pc + 3, stack := v.toList ++ rest }) target → Steps p.tables e below (T.setTop g) target := by
  obtain ⟨mk, methM, hnamed, hmethM, hstM, habM⟩ := Cond.instanceMethod_spec hinst
  obtain ⟨m8, methM', cM, hn8, hmethM', -, -, -, -, -, -, hsigM⟩ := Cond.codeWith_spec hcode
  cases Option.some.inj (hn8.symm.trans hnamed)
  cases hmethM.symm.trans hmethM'
  obtain ⟨c2, r2, m2, q1, q2, q3, q4, kP, hkP, hkPi⟩ := Cond.selects_spec hsel
  cases hcls.symm.trans q1
  cases (State.methodFound?_of_named hnamed hy).symm.trans q2
  cases hnamed.symm.trans q3
  have hselP : selectMethod e.platform s.vm cellB.cls mk = .method mk := by rw [Launch.admits_selectMethod X.admits]; exact q4
  obtain ⟨vm₁, X₁, hstep₁⟩ := X.invokevirtual hexec hown hlink hnamed hmethM hstM hkP hkPi hy (a := b) (cell := cellB) hcell
    (fun z h => by rw [h] at hobj; cases hobj) hselP hmethM habM hkP hkPi (g := g) hg (argsL := argsL) (rest := rest) (hlen _ hsigM) hstack hdg
  obtain ⟨v, B, X', hpost, hsteps⟩ := hK m meth c ⟨T.setVm vm₁, locs, cells, slots⟩ { g with stack := rest } (.invokevirtual index) mk (Value.ref b :: argsL).toArray X₁ hg hsize hdg hW (X₁.named hnamed) (hpre vm₁ X₁.warmed)
  exact ⟨v, vm₁, B, X₁.warmed, X', hpost, fun target h => hstep₁ _ fun acts => by rw [doInvoke_state]; exact hsteps.trans h⟩
abbrev vx_CVW (R : Room) (s : State) (args : Array Value) (own C : String) (index : Nat) (y : MethodName) (bytes : ByteArray) (maxL : Nat) (ret : Option FieldType) (hh : List (Nat × Nat × Nat × Nat)) (ws : List Cond) (rm : Room) (mc ms n : Nat) : Prop :=
  (rm.cells = mc ∧ rm.slots = ms ∧ rm.frames + 1 ≤ R.frames ∧ 8 + (maxL + 11) + rm.locals ≤ R.locals ∧ (∀ w ∈ ws, ∀ (a' : Array Value) (U : State), s.WarmedH U.vm → w.before a' U = true) ∧ Cond.codeWith y bytes maxL ret hh ∈ ws) ∧
  (Cond.codeWith y bytes maxL ret hh).before args s = true ∧ (Cond.initialized y.cls).before args s = true ∧ (y.cls ≠ "java/lang/invoke/MethodHandle" ∧ y.cls ≠ "java/lang/invoke/VarHandle") ∧
  (∀ sig, parseMethodDescriptor y.desc = some sig → n = sig.parameters.length) ∧ (Cond.methodLink own index y).before args s = true ∧ (Cond.instanceMethod y).before args s = true ∧ (Cond.selects C y y).before args s = true
theorem vx_cwVW {own C : String} {index maxL mc ms : Nat} {y : MethodName} {bytes : ByteArray} {ret : Option FieldType} {hh : List (Nat × Nat × Nat × Nat)} {Ts ws ws' : List Cond} {rm : Room} (n : Nat) (ht : ∀ w ∈ Ts, w.before args s = true) (hT : GoodIn Ts (wsV own index C y ws)) (hw : ws = Cond.codeWith y bytes maxL ret hh :: ws') (hrc : rm.cells = mc) (hrs : rm.slots = ms)
    (hd : y.cls = C ∧ y.cls ≠ "java/lang/invoke/MethodHandle" ∧ y.cls ≠ "java/lang/invoke/VarHandle" ∧ (parseMethodDescriptor y.desc).map (fun d => d.parameters.length) = some n) (hR : rm.frames + 1 ≤ R.frames ∧ 8 + (maxL + 11) + rm.locals ≤ R.locals) :
    vx_CVW R s args own C index y bytes maxL ret hh ws rm mc ms n := by
  obtain ⟨hC, hd⟩ := hd
  subst hC
  have ok : ∀ w ∈ wsV own index y.cls y ws, w.before args s = true := fun w h => ht w (hT w h).1
  have hG : GoodIn Ts ws := fun w h => hT w (by unfold wsV; exact List.mem_append_right _ h)
  have hc : Cond.codeWith y bytes maxL ret hh ∈ ws := by rw [hw]; exact List.mem_cons_self
  refine ⟨⟨hrc, hrs, hR.1, hR.2, pay_in ht hG, hc⟩, ht _ (hG _ hc).1, ok _ (by simp [wsV]), ⟨hd.1, hd.2.1⟩, fun sig h => ?_, ok _ (by simp [wsV]), ok _ (by simp [wsV]), ok _ (by simp [wsV])⟩
  have h2 := hd.2.2
  rw [h] at h2
  exact (Option.some.inj h2).symm
theorem vx_runVW {y : MethodName} {bytes cc : ByteArray} {maxL nL mc ms n index : Nat} {ret : Option FieldType} {hh : List (Nat × Nat × Nat × Nat)} {ws : List Cond} {rm : Room} {Pc : Array Value → State → Prop} {Qc : Array Value → State → Outcome → State → Prop} {free : Addr → Prop} {Ts : List Cond} {own C : String} {b : Addr} {As rest : List Value} {g : JFrame}
    (S : CallFix p m c cc nL s args Ts own) (hM : Met l y ws rm Pc Qc mc ms free) (cw : vx_CVW R s args own C index y bytes maxL ret hh ws rm mc ms n) (hp : PreV s H C b Pc As)
    (hg : g.method = m) (hn : As.length = n) (hsize : g.locals.size = nL) (hstack : g.stack = As.reverse ++ .ref b :: rest) (hW : 2 * g.monitorRoom + (rest.map fun v => v.category).sum ≤ 8) (hdg : decode cc g.pc = .ok (.invokevirtual index, 3)) (hf : cells + mc ≤ R.cells ∧ slots + ms ≤ R.slots) :
    va_Run p l e R s m args below meth c H locs cells slots mc ms g rest (Qc (Value.ref b :: As).toArray) free := by
  obtain ⟨⟨hrc, hrs, hfr, hlo, hws, hcw⟩, hcode, hini, hy, hlen, hl, hin, hse⟩ := cw
  have hK : Back l R p e below s args y 3 8 (PreOf R mc ms Pc) (PostOf Qc mc ms free) := va_backW (hh := hh) (bytes := bytes) (maxL := maxL) (ret := ret) hM hp.1 hrc hrs hfr hlo hws hcw (fun a' U hW => word_at hW (Or.inl (by first | rfl | simp [Cond.onTables, Cond.keeps, Cond.steady])) hini)
  obtain ⟨hx, hb, hml, ho, -⟩ := S
  obtain ⟨-, ⟨cellB, hcB, hoB, hclB⟩, hPc⟩ := hp
  intro T hT X
  obtain ⟨v, vm₁, ⟨U', l2, c2, s2⟩, hW₁, X', ⟨g', mk, t, L, e1, e2, hq, h1, hL, h2, h3⟩, st⟩ := vx_callVW X hx (C := C) (hh := hh) (bytes := bytes) (maxL := maxL) (ret := ret) ho hl hin hse hcode hy hK (by rw [hT]; exact hcB) hoB hclB hg (hsize.trans hml.symm) (argsL := As) (rest := rest) (fun sig h => hn.trans (hlen sig h)) hstack hW (by rw [hb]; exact hdg)
    (fun vm₁ hW₁ => ⟨hf.1, hf.2, hPc (T.setVm vm₁) hT hW₁⟩)
  dsimp only [Pt.U, Pt.locs, Pt.cells, Pt.slots] at X' e1 e2 h1 h2 h3 st
  subst h1; subst h2; subst h3
  exact ⟨v, (T.setVm vm₁).calling g' mk (Value.ref b :: As).toArray, t, U', L, hT, X', hL, e1, e2, hq, st⟩
section
variable {y : MethodName} {bytes cc : ByteArray} {maxL nL mc ms n index : Nat} {ret : Option FieldType} {ws : List Cond} {rm : Room} {Pc : Array Value → State → Prop} {Qc : Array Value → State → Outcome → State → Prop} {XC : String → State → State → Prop} {free : Addr → Prop} {Ts : List Cond} {own C : String} {b : Addr} {As rest : List Value} {g : JFrame}
theorem vx_runVX {hh : List (Nat × Nat × Nat × Nat)} (S : CallFix p m c cc nL s args Ts own) (hM : vx_Met l y ws rm Pc Qc XC mc ms free) (cw : vx_CVW R s args own C index y bytes maxL ret hh ws rm mc ms n) (hp : PreV s H C b Pc As)
    (hg : g.method = m) (hn : As.length = n) (hsize : g.locals.size = nL) (hstack : g.stack = As.reverse ++ .ref b :: rest) (hW : 2 * g.monitorRoom + (rest.map fun v => v.category).sum ≤ 8) (hdg : decode cc g.pc = .ok (.invokevirtual index, 3)) (hf : cells + mc ≤ R.cells ∧ slots + ms ≤ R.slots) :
    vx_Run p l e R s m args below meth c H locs cells slots mc ms g rest (Qc (Value.ref b :: As).toArray) XC free := by
  obtain ⟨⟨hrc, hrs, hfr, hlo, hws, hcw⟩, hcode, hini, hy, hlen, hl, hin, hse⟩ := cw
  have hK : vx_Back l R p e below s args y 3 8 (PreOf R mc ms Pc) (PostOf Qc mc ms free) (vx_Post XC mc ms free) := vx_backW (hh := hh) (bytes := bytes) (maxL := maxL) (ret := ret) hM hp.1 hrc hrs hfr hlo hws hcw (fun a' U hW => word_at hW (Or.inl (by first | rfl | simp [Cond.onTables, Cond.keeps, Cond.steady])) hini)
  obtain ⟨hx, hb, hml, ho, -⟩ := S
  obtain ⟨-, ⟨cellB, hcB, hoB, hclB⟩, hPc⟩ := hp
  intro T hT X
  rcases vx_callVX X hx (C := C) (hh := hh) (bytes := bytes) (maxL := maxL) (ret := ret) ho hl hin hse hcode hy hK (by rw [hT]; exact hcB) hoB hclB hg (hsize.trans hml.symm) (argsL := As) (rest := rest) (fun sig h => hn.trans (hlen sig h)) hstack hW (by rw [hb]; exact hdg)
    (fun vm₁ hW₁ => ⟨hf.1, hf.2, hPc (T.setVm vm₁) hT hW₁⟩) with ⟨v, vm₁, ⟨U', l2, c2, s2⟩, hW₁, X', ⟨g', mk, t, L, e1, e2, hq, h1, hL, h2, h3⟩, st⟩ | ⟨q, vm₁, ⟨U', l2, c2, s2⟩, hW₁, X', ⟨g', mk, t, L, E, ce, e1, e2, hq, hce, hcv, hcl, h1, hL, h2, h3⟩, st⟩
  · dsimp only [Pt.U, Pt.locs, Pt.cells, Pt.slots] at X' e1 e2 h1 h2 h3 st
    subst h1; subst h2; subst h3
    exact Or.inl ⟨v, (T.setVm vm₁).calling g' mk (Value.ref b :: As).toArray, t, U', L, hT, X', hL, e1, e2, hq, st⟩
  · dsimp only [Pt.U, Pt.locs, Pt.cells, Pt.slots] at X' e1 e2 h1 h2 h3 st hcl
    subst h1; subst h2; subst h3
    exact Or.inr ⟨q, (T.setVm vm₁).calling g' mk (Value.ref b :: As).toArray, t, U', L, E, ce, hT, X', hL, e1, e2, hq, hce, hcv, vx_cls hW₁ hcl, st⟩
theorem vx_runSX {hh : List (Nat × Nat × Nat × Nat)} (S : CallFix p m c cc nL s args Ts own) (hM : vx_Met l y ws rm Pc Qc XC mc ms free) (cw : vx_CSW R s args own index y bytes maxL ret hh ws rm mc ms n) (hp : PreS s H Pc As)
    (hg : g.method = m) (hn : As.length = n) (hsize : g.locals.size = nL) (hstack : g.stack = As.reverse ++ rest) (hW : 2 * g.monitorRoom + (rest.map fun v => v.category).sum ≤ 8) (hdg : decode cc g.pc = .ok (.invokestatic index, 3)) (hf : cells + mc ≤ R.cells ∧ slots + ms ≤ R.slots) :
    vx_Run p l e R s m args below meth c H locs cells slots mc ms g rest (Qc As.toArray) XC free := by
  obtain ⟨⟨hrc, hrs, hfr, hlo, hws, hcw⟩, hcode, hini, hy, hlen, hl, hstt⟩ := cw
  have hK : vx_Back l R p e below s args y 3 8 (PreOf R mc ms Pc) (PostOf Qc mc ms free) (vx_Post XC mc ms free) := vx_backW (hh := hh) (bytes := bytes) (maxL := maxL) (ret := ret) hM hp.1 hrc hrs hfr hlo hws hcw (fun a' U hW => word_at hW (Or.inl (by first | rfl | simp [Cond.onTables, Cond.keeps, Cond.steady])) hini)
  obtain ⟨hx, hb, hml, ho, -⟩ := S
  intro T hT X
  rcases vx_callSX X hx (hh := hh) (bytes := bytes) (maxL := maxL) (ret := ret) ho hl hstt hini hcode hy hK hg (hsize.trans hml.symm) (argsL := As) (rest := rest) (fun sig h => hn.trans (hlen sig h)) hstack hW (by rw [hb]; exact hdg)
    (fun vm₁ hW₁ => ⟨hf.1, hf.2, hp.2 (T.setVm vm₁) hT hW₁⟩) with ⟨v, vm₁, ⟨U', l2, c2, s2⟩, hW₁, X', ⟨g', mk, t, L, e1, e2, hq, h1, hL, h2, h3⟩, st⟩ | ⟨q, vm₁, ⟨U', l2, c2, s2⟩, hW₁, X', ⟨g', mk, t, L, E, ce, e1, e2, hq, hce, hcv, hcl, h1, hL, h2, h3⟩, st⟩
  · dsimp only [Pt.U, Pt.locs, Pt.cells, Pt.slots] at X' e1 e2 h1 h2 h3 st
    subst h1; subst h2; subst h3
    exact Or.inl ⟨v, (T.setVm vm₁).calling g' mk As.toArray, t, U', L, hT, X', hL, e1, e2, hq, st⟩
  · dsimp only [Pt.U, Pt.locs, Pt.cells, Pt.slots] at X' e1 e2 h1 h2 h3 st hcl
    subst h1; subst h2; subst h3
    exact Or.inr ⟨q, (T.setVm vm₁).calling g' mk As.toArray, t, U', L, E, ce, hT, X', hL, e1, e2, hq, hce, hcv, vx_cls hW₁ hcl, st⟩
end
end VXH
theorem vx_ofWH {l : Launch} {y : MethodName} {ws ws' : List Cond} {rm : Room} {Pc : Array Value → State → Prop} {Qc : Array Value → State → Outcome → State → Prop} {XC : String → State → State → Prop} {mc ms : Nat} {free : Addr → Prop} {cc : ByteArray} {maxL : Nat} {ret : Option FieldType} {hh : List (Nat × Nat × Nat × Nat)}
    (hy : plainName y.cls = true) (hw : ws = Cond.codeWith y cc maxL ret hh :: ws')
    (body : ∀ p e s m args below meth c s₁, BodyLoose p l y (headSpec ws rm) cc maxL ret e s m args below meth c s₁ → c.maxLocals = maxL → Pc args s →
      W p l e (headSpec ws rm).room s m args below meth c s.heap [] 0 0 (vx_MQ below Qc XC args s mc ms free) (entryFrame m args maxL)) : vx_Met l y ws rm Pc Qc XC mc ms free := by
  refine MetFree.of_bodyS (code := cc) (maxLocals := maxL) (ret := ret) hy ?_ ?_
  · intro args s m h hn
    obtain ⟨m9, meth, c, hn9, h1, h2, h3, h4, -, h5, h6, -⟩ := Cond.codeWith_spec (atoms_spec (ws := ws) h _ (by rw [hw]; exact List.mem_cons_self))
    cases hn.symm.trans hn9
    exact ⟨meth, c, h1, h2, h3, h4, h5, h6⟩
  · intro p e s m args below meth c s₁ B hml hP _
    have hh0 : s₁.heap = s.heap := by rw [B.state]; rfl
    obtain ⟨t, a1, o, b1, b2, b3⟩ := body p e s m args below meth c s₁ B hml hP s₁ hh0 (Stand.of_body B)
    exact ⟨t, o, a1, b1, b2, b3⟩
/-! ===== END ===== -/

/-! printed names -/
def RX0 : String := "MeshBiller$Bundle"
def TX0 : u_T := fun k => match k with
  | 0 => ("MeshBiller$Bundle", "zoneBits", "I", true)
  | 1 => ("MeshBiller$Bundle", "overDay", "I", true)
  | 2 => ("MeshBiller$Bundle", "rank", "I", true)
  | _ => ("MeshBiller$Bundle", "seconds", "I", false)
def tyX0 : Nat → FieldType := fun k => match k with
  | 0 => .int
  | 1 => .int
  | 2 => .int
  | _ => .int
theorem nmX0 : ∀ a, a < 4 → ∀ b, b < 4 → a ≠ b → (TX0 a).2.1 ≠ (TX0 b).2.1 := by decide +kernel
theorem tyX0_ok : ∀ k, k < 4 → parseFieldDescriptor (TX0 k).2.2.1 = some (tyX0 k) := by decide +kernel
abbrev cX0_init : ByteArray := prog_2_method_1_code
def yX0_init : MethodName := ⟨RX0, "<init>", "(IIII)V"⟩
abbrev cX0_isFor : ByteArray := prog_2_method_2_code
def yX0_isFor : MethodName := ⟨RX0, "isFor", "(LMeshBiller$Zone;)Z"⟩
abbrev cX0_isOver : ByteArray := prog_2_method_3_code
def yX0_isOver : MethodName := ⟨RX0, "isOver", "(I)Z"⟩
abbrev cX0_isUsedAhead : ByteArray := prog_2_method_4_code
def yX0_isUsedAhead : MethodName := ⟨RX0, "isUsedAhead", "(LMeshBiller$Bundle;)Z"⟩
def RX1 : String := "MeshBiller$Call"
def TX1 : u_T := fun k => match k with
  | 0 => ("MeshBiller$Call", "number", "I", true)
  | 1 => ("MeshBiller$Call", "host", "LMeshBiller$Phone;", true)
  | _ => ("MeshBiller$Call", "members", "Ljava/util/ArrayList;", true)
def tyX1 : Nat → FieldType := fun k => match k with
  | 0 => .int
  | 1 => .object "MeshBiller$Phone"
  | _ => .object "java/util/ArrayList"
theorem nmX1 : ∀ a, a < 3 → ∀ b, b < 3 → a ≠ b → (TX1 a).2.1 ≠ (TX1 b).2.1 := by decide +kernel
theorem tyX1_ok : ∀ k, k < 3 → parseFieldDescriptor (TX1 k).2.2.1 = some (tyX1 k) := by decide +kernel
abbrev cX1_init : ByteArray := prog_3_method_1_code
def yX1_init : MethodName := ⟨RX1, "<init>", "(ILMeshBiller$Phone;)V"⟩
abbrev cX1_countParties : ByteArray := prog_3_method_2_code
def yX1_countParties : MethodName := ⟨RX1, "countParties", "()I"⟩
abbrev cX1_findOnlyParty : ByteArray := prog_3_method_3_code
def yX1_findOnlyParty : MethodName := ⟨RX1, "findOnlyParty", "()LMeshBiller$Leg;"⟩
def RX2 : String := "MeshBiller$Cell"
def TX2 : u_T := fun k => match k with
  | 0 => ("MeshBiller$Cell", "number", "I", true)
  | 1 => ("MeshBiller$Cell", "zone", "LMeshBiller$Zone;", false)
  | 2 => ("MeshBiller$Cell", "channels", "I", false)
  | _ => ("MeshBiller$Cell", "guarded", "I", false)
def tyX2 : Nat → FieldType := fun k => match k with
  | 0 => .int
  | 1 => .object "MeshBiller$Zone"
  | 2 => .int
  | _ => .int
theorem nmX2 : ∀ a, a < 4 → ∀ b, b < 4 → a ≠ b → (TX2 a).2.1 ≠ (TX2 b).2.1 := by decide +kernel
theorem tyX2_ok : ∀ k, k < 4 → parseFieldDescriptor (TX2 k).2.2.1 = some (tyX2 k) := by decide +kernel
abbrev cX2_init : ByteArray := prog_4_method_1_code
def yX2_init : MethodName := ⟨RX2, "<init>", "(ILMeshBiller$Zone;)V"⟩
abbrev cX2_isNextTo : ByteArray := prog_4_method_2_code
def yX2_isNextTo : MethodName := ⟨RX2, "isNextTo", "(LMeshBiller$Cell;)Z"⟩
def RX3 : String := "MeshBiller$Event"
def TX3 : u_T := fun k => match k with
  | 0 => ("MeshBiller$Event", "kind", "I", true)
  | 1 => ("MeshBiller$Event", "second", "I", true)
  | _ => ("MeshBiller$Event", "cell", "LMeshBiller$Cell;", true)
def tyX3 : Nat → FieldType := fun k => match k with
  | 0 => .int
  | 1 => .int
  | _ => .object "MeshBiller$Cell"
theorem nmX3 : ∀ a, a < 3 → ∀ b, b < 3 → a ≠ b → (TX3 a).2.1 ≠ (TX3 b).2.1 := by decide +kernel
theorem tyX3_ok : ∀ k, k < 3 → parseFieldDescriptor (TX3 k).2.2.1 = some (tyX3 k) := by decide +kernel
abbrev cX3_init : ByteArray := prog_5_method_1_code
def yX3_init : MethodName := ⟨RX3, "<init>", "(IILMeshBiller$Cell;)V"⟩
def RX4 : String := "MeshBiller$Leg"
def TX4 : u_T := fun k => match k with
  | 0 => ("MeshBiller$Leg", "number", "I", true)
  | 1 => ("MeshBiller$Leg", "phone", "LMeshBiller$Phone;", true)
  | 2 => ("MeshBiller$Leg", "call", "LMeshBiller$Call;", true)
  | 3 => ("MeshBiller$Leg", "payer", "LMeshBiller$Wallet;", true)
  | 4 => ("MeshBiller$Leg", "start", "I", true)
  | 5 => ("MeshBiller$Leg", "slice", "LMeshBiller$Slice;", true)
  | 6 => ("MeshBiller$Leg", "events", "Ljava/util/ArrayList;", true)
  | 7 => ("MeshBiller$Leg", "state", "I", false)
  | 8 => ("MeshBiller$Leg", "ratedSeconds", "I", false)
  | 9 => ("MeshBiller$Leg", "chargedMoney", "I", false)
  | 10 => ("MeshBiller$Leg", "coveredMoney", "I", false)
  | _ => ("MeshBiller$Leg", "tagByte", "B", false)
def tyX4 : Nat → FieldType := fun k => match k with
  | 0 => .int
  | 1 => .object "MeshBiller$Phone"
  | 2 => .object "MeshBiller$Call"
  | 3 => .object "MeshBiller$Wallet"
  | 4 => .int
  | 5 => .object "MeshBiller$Slice"
  | 6 => .object "java/util/ArrayList"
  | 7 => .int
  | 8 => .int
  | 9 => .int
  | 10 => .int
  | _ => .byte
theorem nmX4 : ∀ a, a < 12 → ∀ b, b < 12 → a ≠ b → (TX4 a).2.1 ≠ (TX4 b).2.1 := by decide +kernel
theorem tyX4_ok : ∀ k, k < 12 → parseFieldDescriptor (TX4 k).2.2.1 = some (tyX4 k) := by decide +kernel
abbrev cX4_init : ByteArray := prog_6_method_1_code
def yX4_init : MethodName := ⟨RX4, "<init>", "(ILMeshBiller$Phone;LMeshBiller$Call;LMeshBiller$Wallet;I)V"⟩
abbrev cX4_keepEvent : ByteArray := prog_6_method_2_code
def yX4_keepEvent : MethodName := ⟨RX4, "keepEvent", "(IILMeshBiller$Cell;)V"⟩
abbrev cX4_firstUnratedSecond : ByteArray := prog_6_method_3_code
def yX4_firstUnratedSecond : MethodName := ⟨RX4, "firstUnratedSecond", "()I"⟩
abbrev cX4_useSecond : ByteArray := prog_6_method_4_code
def yX4_useSecond : MethodName := ⟨RX4, "useSecond", "(II)V"⟩
abbrev cX4_computeSeal : ByteArray := prog_6_method_5_code
def yX4_computeSeal : MethodName := ⟨RX4, "computeSeal", "()I"⟩
def RX5 : String := "MeshBiller$Phone"
def TX5 : u_T := fun k => match k with
  | 0 => ("MeshBiller$Phone", "number", "I", true)
  | 1 => ("MeshBiller$Phone", "cell", "LMeshBiller$Cell;", false)
  | 2 => ("MeshBiller$Phone", "wallet", "LMeshBiller$Wallet;", false)
  | 3 => ("MeshBiller$Phone", "cap", "I", false)
  | 4 => ("MeshBiller$Phone", "leg", "LMeshBiller$Leg;", false)
  | 5 => ("MeshBiller$Phone", "costDay", "I", false)
  | _ => ("MeshBiller$Phone", "costOfDay", "I", false)
def tyX5 : Nat → FieldType := fun k => match k with
  | 0 => .int
  | 1 => .object "MeshBiller$Cell"
  | 2 => .object "MeshBiller$Wallet"
  | 3 => .int
  | 4 => .object "MeshBiller$Leg"
  | 5 => .int
  | _ => .int
theorem nmX5 : ∀ a, a < 7 → ∀ b, b < 7 → a ≠ b → (TX5 a).2.1 ≠ (TX5 b).2.1 := by decide +kernel
theorem tyX5_ok : ∀ k, k < 7 → parseFieldDescriptor (TX5 k).2.2.1 = some (tyX5 k) := by decide +kernel
abbrev cX5_init : ByteArray := prog_7_method_1_code
def yX5_init : MethodName := ⟨RX5, "<init>", "(ILMeshBiller$Cell;LMeshBiller$Wallet;)V"⟩
abbrev cX5_addCost : ByteArray := prog_7_method_2_code
def yX5_addCost : MethodName := ⟨RX5, "addCost", "(II)V"⟩
abbrev cX5_mostByCap : ByteArray := prog_7_method_3_code
def yX5_mostByCap : MethodName := ⟨RX5, "mostByCap", "(I)I"⟩
def RX6 : String := "MeshBiller$RateHistory"
def TX6 : u_T := fun k => match k with
  | 0 => ("MeshBiller$RateHistory", "steps", "Ljava/util/ArrayList;", true)
  | _ => ("MeshBiller$RateHistory", "latest", "I", false)
def tyX6 : Nat → FieldType := fun k => match k with
  | 0 => .object "java/util/ArrayList"
  | _ => .int
theorem nmX6 : ∀ a, a < 2 → ∀ b, b < 2 → a ≠ b → (TX6 a).2.1 ≠ (TX6 b).2.1 := by decide +kernel
theorem tyX6_ok : ∀ k, k < 2 → parseFieldDescriptor (TX6 k).2.2.1 = some (tyX6 k) := by decide +kernel
abbrev cX6_init : ByteArray := prog_8_method_1_code
def yX6_init : MethodName := ⟨RX6, "<init>", "(I)V"⟩
abbrev cX6_change : ByteArray := prog_8_method_2_code
def yX6_change : MethodName := ⟨RX6, "change", "(II)V"⟩
abbrev cX6_costOf : ByteArray := prog_8_method_3_code
def yX6_costOf : MethodName := ⟨RX6, "costOf", "(II)I"⟩
def RX7 : String := "MeshBiller$RateStep"
def TX7 : u_T := fun k => match k with
  | 0 => ("MeshBiller$RateStep", "since", "I", true)
  | _ => ("MeshBiller$RateStep", "rate", "I", true)
def tyX7 : Nat → FieldType := fun k => match k with
  | 0 => .int
  | _ => .int
theorem nmX7 : ∀ a, a < 2 → ∀ b, b < 2 → a ≠ b → (TX7 a).2.1 ≠ (TX7 b).2.1 := by decide +kernel
theorem tyX7_ok : ∀ k, k < 2 → parseFieldDescriptor (TX7 k).2.2.1 = some (tyX7 k) := by decide +kernel
abbrev cX7_init : ByteArray := prog_9_method_1_code
def yX7_init : MethodName := ⟨RX7, "<init>", "(II)V"⟩
def RX8 : String := "MeshBiller$Slice"
def TX8 : u_T := fun k => match k with
  | 0 => ("MeshBiller$Slice", "seconds", "I", false)
  | 1 => ("MeshBiller$Slice", "rate", "I", false)
  | _ => ("MeshBiller$Slice", "bundle", "LMeshBiller$Bundle;", false)
def tyX8 : Nat → FieldType := fun k => match k with
  | 0 => .int
  | 1 => .int
  | _ => .object "MeshBiller$Bundle"
theorem nmX8 : ∀ a, a < 3 → ∀ b, b < 3 → a ≠ b → (TX8 a).2.1 ≠ (TX8 b).2.1 := by decide +kernel
theorem tyX8_ok : ∀ k, k < 3 → parseFieldDescriptor (TX8 k).2.2.1 = some (tyX8 k) := by decide +kernel
abbrev cX8_init : ByteArray := prog_10_method_1_code
def yX8_init : MethodName := ⟨RX8, "<init>", "()V"⟩
abbrev cX8_takeFromBundle : ByteArray := prog_10_method_2_code
def yX8_takeFromBundle : MethodName := ⟨RX8, "takeFromBundle", "(LMeshBiller$Bundle;I)V"⟩
abbrev cX8_takeFromMoney : ByteArray := prog_10_method_3_code
def yX8_takeFromMoney : MethodName := ⟨RX8, "takeFromMoney", "(II)V"⟩
abbrev cX8_moneyLeft : ByteArray := prog_10_method_4_code
def yX8_moneyLeft : MethodName := ⟨RX8, "moneyLeft", "()I"⟩
def RX9 : String := "MeshBiller$Wallet"
def TX9 : u_T := fun k => match k with
  | 0 => ("MeshBiller$Wallet", "number", "I", true)
  | 1 => ("MeshBiller$Wallet", "bundles", "Ljava/util/ArrayList;", true)
  | 2 => ("MeshBiller$Wallet", "money", "I", false)
  | _ => ("MeshBiller$Wallet", "chargedSoFar", "I", false)
def tyX9 : Nat → FieldType := fun k => match k with
  | 0 => .int
  | 1 => .object "java/util/ArrayList"
  | 2 => .int
  | _ => .int
theorem nmX9 : ∀ a, a < 4 → ∀ b, b < 4 → a ≠ b → (TX9 a).2.1 ≠ (TX9 b).2.1 := by decide +kernel
theorem tyX9_ok : ∀ k, k < 4 → parseFieldDescriptor (TX9 k).2.2.1 = some (tyX9 k) := by decide +kernel
abbrev cX9_init : ByteArray := prog_11_method_1_code
def yX9_init : MethodName := ⟨RX9, "<init>", "(I)V"⟩
abbrev cX9_addInOrderOfUse : ByteArray := prog_11_method_2_code
def yX9_addInOrderOfUse : MethodName := ⟨RX9, "addInOrderOfUse", "(LMeshBiller$Bundle;)V"⟩
abbrev cX9_findBundle : ByteArray := prog_11_method_3_code
def yX9_findBundle : MethodName := ⟨RX9, "findBundle", "(LMeshBiller$Zone;I)LMeshBiller$Bundle;"⟩
def RX10 : String := "MeshBiller$Zone"
def TX10 : u_T := fun k => match k with
  | 0 => ("MeshBiller$Zone", "number", "I", true)
  | 1 => ("MeshBiller$Zone", "peak", "LMeshBiller$RateHistory;", true)
  | _ => ("MeshBiller$Zone", "offPeak", "LMeshBiller$RateHistory;", true)
def tyX10 : Nat → FieldType := fun k => match k with
  | 0 => .int
  | 1 => .object "MeshBiller$RateHistory"
  | _ => .object "MeshBiller$RateHistory"
theorem nmX10 : ∀ a, a < 3 → ∀ b, b < 3 → a ≠ b → (TX10 a).2.1 ≠ (TX10 b).2.1 := by decide +kernel
theorem tyX10_ok : ∀ k, k < 3 → parseFieldDescriptor (TX10 k).2.2.1 = some (tyX10 k) := by decide +kernel
abbrev cX10_init : ByteArray := prog_12_method_1_code
def yX10_init : MethodName := ⟨RX10, "<init>", "(I)V"⟩
abbrev cX10_historyFor : ByteArray := prog_12_method_2_code
def yX10_historyFor : MethodName := ⟨RX10, "historyFor", "(Z)LMeshBiller$RateHistory;"⟩
def RX11 : String := "MeshBiller"
def TX11 : u_T := fun k => match k with
  | 0 => ("MeshBiller", "zones", "[LMeshBiller$Zone;", true)
  | 1 => ("MeshBiller", "cells", "[LMeshBiller$Cell;", true)
  | 2 => ("MeshBiller", "wallets", "[LMeshBiller$Wallet;", true)
  | 3 => ("MeshBiller", "phones", "[LMeshBiller$Phone;", true)
  | 4 => ("MeshBiller", "allBundles", "Ljava/util/ArrayList;", true)
  | 5 => ("MeshBiller", "allCalls", "Ljava/util/ArrayList;", true)
  | 6 => ("MeshBiller", "allLegs", "Ljava/util/ArrayList;", true)
  | 7 => ("MeshBiller", "sliceLength", "I", false)
  | _ => ("MeshBiller", "second", "I", false)
def tyX11 : Nat → FieldType := fun k => match k with
  | 0 => .array (.object "MeshBiller$Zone")
  | 1 => .array (.object "MeshBiller$Cell")
  | 2 => .array (.object "MeshBiller$Wallet")
  | 3 => .array (.object "MeshBiller$Phone")
  | 4 => .object "java/util/ArrayList"
  | 5 => .object "java/util/ArrayList"
  | 6 => .object "java/util/ArrayList"
  | 7 => .int
  | _ => .int
theorem nmX11 : ∀ a, a < 9 → ∀ b, b < 9 → a ≠ b → (TX11 a).2.1 ≠ (TX11 b).2.1 := by decide +kernel
theorem tyX11_ok : ∀ k, k < 9 → parseFieldDescriptor (TX11 k).2.2.1 = some (tyX11 k) := by decide +kernel
abbrev cX11_init : ByteArray := prog_1_method_1_code
def yX11_init : MethodName := ⟨RX11, "<init>", "()V"⟩
abbrev cX11_setZone : ByteArray := prog_1_method_2_code
def yX11_setZone : MethodName := ⟨RX11, "setZone", "(II)I"⟩
abbrev cX11_setChannels : ByteArray := prog_1_method_3_code
def yX11_setChannels : MethodName := ⟨RX11, "setChannels", "(III)I"⟩
abbrev cX11_setRate : ByteArray := prog_1_method_4_code
def yX11_setRate : MethodName := ⟨RX11, "setRate", "(IZI)I"⟩
abbrev cX11_setSlice : ByteArray := prog_1_method_5_code
def yX11_setSlice : MethodName := ⟨RX11, "setSlice", "(I)I"⟩
abbrev cX11_setCap : ByteArray := prog_1_method_6_code
def yX11_setCap : MethodName := ⟨RX11, "setCap", "(II)I"⟩
abbrev cX11_setWallet : ByteArray := prog_1_method_7_code
def yX11_setWallet : MethodName := ⟨RX11, "setWallet", "(II)I"⟩
abbrev cX11_top : ByteArray := prog_1_method_8_code
def yX11_top : MethodName := ⟨RX11, "top", "(II)I"⟩
abbrev cX11_give : ByteArray := prog_1_method_9_code
def yX11_give : MethodName := ⟨RX11, "give", "(III)I"⟩
abbrev cX11_buy : ByteArray := prog_1_method_10_code
def yX11_buy : MethodName := ⟨RX11, "buy", "(IIIIII)I"⟩
abbrev cX11_free : ByteArray := prog_1_method_11_code
def yX11_free : MethodName := ⟨RX11, "free", "(I)I"⟩
abbrev cX11_aside : ByteArray := prog_1_method_12_code
def yX11_aside : MethodName := ⟨RX11, "aside", "(I)I"⟩
abbrev cX11_spent : ByteArray := prog_1_method_13_code
def yX11_spent : MethodName := ⟨RX11, "spent", "(I)I"⟩
abbrev cX11_left : ByteArray := prog_1_method_14_code
def yX11_left : MethodName := ⟨RX11, "left", "(I)I"⟩
abbrev cX11_begin : ByteArray := prog_1_method_15_code
def yX11_begin : MethodName := ⟨RX11, "begin", "(IIZ)I"⟩
abbrev cX11_join : ByteArray := prog_1_method_16_code
def yX11_join : MethodName := ⟨RX11, "join", "(IIZ)I"⟩
abbrev cX11_leave : ByteArray := prog_1_method_17_code
def yX11_leave : MethodName := ⟨RX11, "leave", "(I)I"⟩
abbrev cX11_move : ByteArray := prog_1_method_18_code
def yX11_move : MethodName := ⟨RX11, "move", "(II)Z"⟩
abbrev cX11_pass : ByteArray := prog_1_method_19_code
def yX11_pass : MethodName := ⟨RX11, "pass", "(I)I"⟩
abbrev cX11_now : ByteArray := prog_1_method_20_code
def yX11_now : MethodName := ⟨RX11, "now", "()I"⟩
abbrev cX11_cellOf : ByteArray := prog_1_method_21_code
def yX11_cellOf : MethodName := ⟨RX11, "cellOf", "(I)I"⟩
abbrev cX11_rateOf : ByteArray := prog_1_method_22_code
def yX11_rateOf : MethodName := ⟨RX11, "rateOf", "(I)I"⟩
abbrev cX11_legOf : ByteArray := prog_1_method_23_code
def yX11_legOf : MethodName := ⟨RX11, "legOf", "(I)I"⟩
abbrev cX11_sliceOf : ByteArray := prog_1_method_24_code
def yX11_sliceOf : MethodName := ⟨RX11, "sliceOf", "(I)I"⟩
abbrev cX11_parties : ByteArray := prog_1_method_25_code
def yX11_parties : MethodName := ⟨RX11, "parties", "(I)I"⟩
abbrev cX11_legs : ByteArray := prog_1_method_26_code
def yX11_legs : MethodName := ⟨RX11, "legs", "()I"⟩
abbrev cX11_stateOf : ByteArray := prog_1_method_27_code
def yX11_stateOf : MethodName := ⟨RX11, "stateOf", "(I)I"⟩
abbrev cX11_seconds : ByteArray := prog_1_method_28_code
def yX11_seconds : MethodName := ⟨RX11, "seconds", "(I)I"⟩
abbrev cX11_charged : ByteArray := prog_1_method_29_code
def yX11_charged : MethodName := ⟨RX11, "charged", "(I)I"⟩
abbrev cX11_covered : ByteArray := prog_1_method_30_code
def yX11_covered : MethodName := ⟨RX11, "covered", "(I)I"⟩
abbrev cX11_ratedByEvents : ByteArray := prog_1_method_31_code
def yX11_ratedByEvents : MethodName := ⟨RX11, "ratedByEvents", "(I)I"⟩
abbrev cX11_tag : ByteArray := prog_1_method_32_code
def yX11_tag : MethodName := ⟨RX11, "tag", "(I)I"⟩
abbrev cX11_seal : ByteArray := prog_1_method_33_code
def yX11_seal : MethodName := ⟨RX11, "seal", "(I)I"⟩
abbrev cX11_stamp : ByteArray := prog_1_method_34_code
def yX11_stamp : MethodName := ⟨RX11, "stamp", "(I)I"⟩
abbrev cX11_lineAt : ByteArray := prog_1_method_35_code
def yX11_lineAt : MethodName := ⟨RX11, "lineAt", "(II)I"⟩
abbrev cX11_isOutside : ByteArray := prog_1_method_36_code
def yX11_isOutside : MethodName := ⟨RX11, "isOutside", "(III)Z"⟩
abbrev cX11_cellAt : ByteArray := prog_1_method_37_code
def yX11_cellAt : MethodName := ⟨RX11, "cellAt", "(I)LMeshBiller$Cell;"⟩
abbrev cX11_phoneAt : ByteArray := prog_1_method_38_code
def yX11_phoneAt : MethodName := ⟨RX11, "phoneAt", "(I)LMeshBiller$Phone;"⟩
abbrev cX11_walletAt : ByteArray := prog_1_method_39_code
def yX11_walletAt : MethodName := ⟨RX11, "walletAt", "(I)LMeshBiller$Wallet;"⟩
abbrev cX11_callAt : ByteArray := prog_1_method_40_code
def yX11_callAt : MethodName := ⟨RX11, "callAt", "(I)LMeshBiller$Call;"⟩
abbrev cX11_legAt : ByteArray := prog_1_method_41_code
def yX11_legAt : MethodName := ⟨RX11, "legAt", "(I)LMeshBiller$Leg;"⟩
abbrev cX11_signOf : ByteArray := prog_1_method_42_code
def yX11_signOf : MethodName := ⟨RX11, "signOf", "(I)C"⟩
abbrev cX11_dayOf : ByteArray := prog_1_method_43_code
def yX11_dayOf : MethodName := ⟨RX11, "dayOf", "(I)I"⟩
abbrev cX11_isPeakAt : ByteArray := prog_1_method_44_code
def yX11_isPeakAt : MethodName := ⟨RX11, "isPeakAt", "(I)Z"⟩
abbrev cX11_rateNow : ByteArray := prog_1_method_45_code
def yX11_rateNow : MethodName := ⟨RX11, "rateNow", "(LMeshBiller$Phone;)I"⟩
abbrev cX11_costOfStay : ByteArray := prog_1_method_46_code
def yX11_costOfStay : MethodName := ⟨RX11, "costOfStay", "(LMeshBiller$Zone;II)I"⟩
abbrev cX11_legsIn : ByteArray := prog_1_method_47_code
def yX11_legsIn : MethodName := ⟨RX11, "legsIn", "(LMeshBiller$Cell;)I"⟩
abbrev cX11_openChannels : ByteArray := prog_1_method_48_code
def yX11_openChannels : MethodName := ⟨RX11, "openChannels", "(LMeshBiller$Cell;)I"⟩
abbrev cX11_openLeg : ByteArray := prog_1_method_49_code
def yX11_openLeg : MethodName := ⟨RX11, "openLeg", "(LMeshBiller$Phone;LMeshBiller$Call;Z)LMeshBiller$Leg;"⟩
abbrev cX11_takeSliceOrCut : ByteArray := prog_1_method_50_code
def yX11_takeSliceOrCut : MethodName := ⟨RX11, "takeSliceOrCut", "(LMeshBiller$Leg;)V"⟩
abbrev cX11_closeLeg : ByteArray := prog_1_method_51_code
def yX11_closeLeg : MethodName := ⟨RX11, "closeLeg", "(LMeshBiller$Leg;I)V"⟩
abbrev cX11_finishLeg : ByteArray := prog_1_method_52_code
def yX11_finishLeg : MethodName := ⟨RX11, "finishLeg", "(LMeshBiller$Leg;I)V"⟩
abbrev cX11_liveSecond : ByteArray := prog_1_method_53_code
def yX11_liveSecond : MethodName := ⟨RX11, "liveSecond", "()I"⟩
abbrev cX11_isLived : ByteArray := prog_1_method_54_code
def yX11_isLived : MethodName := ⟨RX11, "isLived", "(LMeshBiller$Leg;)Z"⟩
abbrev cX11_isSliceFit : ByteArray := prog_1_method_55_code
def yX11_isSliceFit : MethodName := ⟨RX11, "isSliceFit", "(LMeshBiller$Leg;I)Z"⟩
abbrev cX11_giveBack : ByteArray := prog_1_method_56_code
def yX11_giveBack : MethodName := ⟨RX11, "giveBack", "(LMeshBiller$Leg;)V"⟩
abbrev cX11_takeSlice : ByteArray := prog_1_method_57_code
def yX11_takeSlice : MethodName := ⟨RX11, "takeSlice", "(LMeshBiller$Leg;)Z"⟩
abbrev cX11_raiseMoney : ByteArray := prog_1_method_58_code
def yX11_raiseMoney : MethodName := ⟨RX11, "raiseMoney", "(LMeshBiller$Leg;I)V"⟩
abbrev cX11_findRichestOther : ByteArray := prog_1_method_59_code
def yX11_findRichestOther : MethodName := ⟨RX11, "findRichestOther", "(LMeshBiller$Leg;)LMeshBiller$Leg;"⟩
def RX12 : String := "MeshBillerModel"
def TX12 : u_T := fun k => match k with
  | 0 => ("MeshBillerModel", "now", "I", false)
  | 1 => ("MeshBillerModel", "length", "I", false)
  | 2 => ("MeshBillerModel", "zone", "[I", true)
  | 3 => ("MeshBillerModel", "channels", "[I", true)
  | 4 => ("MeshBillerModel", "guarded", "[I", true)
  | 5 => ("MeshBillerModel", "rates", "[I", true)
  | 6 => ("MeshBillerModel", "cell", "[I", true)
  | 7 => ("MeshBillerModel", "walletOf", "[I", true)
  | 8 => ("MeshBillerModel", "cap", "[I", true)
  | 9 => ("MeshBillerModel", "legNow", "[I", true)
  | 10 => ("MeshBillerModel", "cost", "[I", true)
  | 11 => ("MeshBillerModel", "costDay", "[I", true)
  | 12 => ("MeshBillerModel", "free", "[I", true)
  | 13 => ("MeshBillerModel", "spent", "[I", true)
  | 14 => ("MeshBillerModel", "bundles", "I", false)
  | 15 => ("MeshBillerModel", "owner", "[I", true)
  | 16 => ("MeshBillerModel", "covers", "[I", true)
  | 17 => ("MeshBillerModel", "secondsLeft", "[I", true)
  | 18 => ("MeshBillerModel", "overDay", "[I", true)
  | 19 => ("MeshBillerModel", "rank", "[I", true)
  | 20 => ("MeshBillerModel", "calls", "I", false)
  | 21 => ("MeshBillerModel", "host", "[I", true)
  | 22 => ("MeshBillerModel", "legs", "I", false)
  | 23 => ("MeshBillerModel", "phoneOf", "[I", true)
  | 24 => ("MeshBillerModel", "callOf", "[I", true)
  | 25 => ("MeshBillerModel", "payer", "[I", true)
  | 26 => ("MeshBillerModel", "state", "[I", true)
  | 27 => ("MeshBillerModel", "seconds", "[I", true)
  | 28 => ("MeshBillerModel", "charged", "[I", true)
  | 29 => ("MeshBillerModel", "covered", "[I", true)
  | 30 => ("MeshBillerModel", "tag", "[I", true)
  | 31 => ("MeshBillerModel", "seal", "[I", true)
  | 32 => ("MeshBillerModel", "unrated", "[I", true)
  | 33 => ("MeshBillerModel", "sliceFrom", "[I", true)
  | 34 => ("MeshBillerModel", "slice", "[I", true)
  | 35 => ("MeshBillerModel", "sliceRate", "[I", true)
  | 36 => ("MeshBillerModel", "cuts", "I", false)
  | 37 => ("MeshBillerModel", "want", "I", false)
  | 38 => ("MeshBillerModel", "got", "I", false)
  | _ => ("MeshBillerModel", "thrown", "I", false)
def tyX12 : Nat → FieldType := fun k => match k with
  | 0 => .int
  | 1 => .int
  | 2 => .array .int
  | 3 => .array .int
  | 4 => .array .int
  | 5 => .array .int
  | 6 => .array .int
  | 7 => .array .int
  | 8 => .array .int
  | 9 => .array .int
  | 10 => .array .int
  | 11 => .array .int
  | 12 => .array .int
  | 13 => .array .int
  | 14 => .int
  | 15 => .array .int
  | 16 => .array .int
  | 17 => .array .int
  | 18 => .array .int
  | 19 => .array .int
  | 20 => .int
  | 21 => .array .int
  | 22 => .int
  | 23 => .array .int
  | 24 => .array .int
  | 25 => .array .int
  | 26 => .array .int
  | 27 => .array .int
  | 28 => .array .int
  | 29 => .array .int
  | 30 => .array .int
  | 31 => .array .int
  | 32 => .array .int
  | 33 => .array .int
  | 34 => .array .int
  | 35 => .array .int
  | 36 => .int
  | 37 => .int
  | 38 => .int
  | _ => .int
theorem nmX12 : ∀ a, a < 40 → ∀ b, b < 40 → a ≠ b → (TX12 a).2.1 ≠ (TX12 b).2.1 := by decide +kernel
theorem tyX12_ok : ∀ k, k < 40 → parseFieldDescriptor (TX12 k).2.2.1 = some (tyX12 k) := by decide +kernel
abbrev cX12_init : ByteArray := prog_14_method_1_code
def yX12_init : MethodName := ⟨RX12, "<init>", "()V"⟩
abbrev cX12_thrown : ByteArray := prog_14_method_2_code
def yX12_thrown : MethodName := ⟨RX12, "thrown", "()I"⟩
abbrev cX12_can : ByteArray := prog_14_method_3_code
def yX12_can : MethodName := ⟨RX12, "can", "(I)Z"⟩
abbrev cX12_isIn : ByteArray := prog_14_method_4_code
def yX12_isIn : MethodName := ⟨RX12, "isIn", "(III)Z"⟩
abbrev cX12_isCell : ByteArray := prog_14_method_5_code
def yX12_isCell : MethodName := ⟨RX12, "isCell", "(I)Z"⟩
abbrev cX12_isPhone : ByteArray := prog_14_method_6_code
def yX12_isPhone : MethodName := ⟨RX12, "isPhone", "(I)Z"⟩
abbrev cX12_isWallet : ByteArray := prog_14_method_7_code
def yX12_isWallet : MethodName := ⟨RX12, "isWallet", "(I)Z"⟩
abbrev cX12_isZone : ByteArray := prog_14_method_8_code
def yX12_isZone : MethodName := ⟨RX12, "isZone", "(I)Z"⟩
abbrev cX12_isCall : ByteArray := prog_14_method_9_code
def yX12_isCall : MethodName := ⟨RX12, "isCall", "(I)Z"⟩
abbrev cX12_isLeg : ByteArray := prog_14_method_10_code
def yX12_isLeg : MethodName := ⟨RX12, "isLeg", "(I)Z"⟩
abbrev cX12_setZone : ByteArray := prog_14_method_11_code
def yX12_setZone : MethodName := ⟨RX12, "setZone", "(II)I"⟩
abbrev cX12_legsIn : ByteArray := prog_14_method_12_code
def yX12_legsIn : MethodName := ⟨RX12, "legsIn", "(I)I"⟩
abbrev cX12_setChannels : ByteArray := prog_14_method_13_code
def yX12_setChannels : MethodName := ⟨RX12, "setChannels", "(III)I"⟩
abbrev cX12_setRate : ByteArray := prog_14_method_14_code
def yX12_setRate : MethodName := ⟨RX12, "setRate", "(IZI)I"⟩
abbrev cX12_setSlice : ByteArray := prog_14_method_15_code
def yX12_setSlice : MethodName := ⟨RX12, "setSlice", "(I)I"⟩
abbrev cX12_setCap : ByteArray := prog_14_method_16_code
def yX12_setCap : MethodName := ⟨RX12, "setCap", "(II)I"⟩
abbrev cX12_setWallet : ByteArray := prog_14_method_17_code
def yX12_setWallet : MethodName := ⟨RX12, "setWallet", "(II)I"⟩
abbrev cX12_top : ByteArray := prog_14_method_18_code
def yX12_top : MethodName := ⟨RX12, "top", "(II)I"⟩
abbrev cX12_give : ByteArray := prog_14_method_19_code
def yX12_give : MethodName := ⟨RX12, "give", "(III)I"⟩
abbrev cX12_today : ByteArray := prog_14_method_20_code
def yX12_today : MethodName := ⟨RX12, "today", "()I"⟩
abbrev cX12_buy : ByteArray := prog_14_method_21_code
def yX12_buy : MethodName := ⟨RX12, "buy", "(IIIIII)I"⟩
abbrev cX12_free : ByteArray := prog_14_method_22_code
def yX12_free : MethodName := ⟨RX12, "free", "(I)I"⟩
abbrev cX12_moneyIn : ByteArray := prog_14_method_23_code
def yX12_moneyIn : MethodName := ⟨RX12, "moneyIn", "(I)I"⟩
abbrev cX12_aside : ByteArray := prog_14_method_24_code
def yX12_aside : MethodName := ⟨RX12, "aside", "(I)I"⟩
abbrev cX12_spent : ByteArray := prog_14_method_25_code
def yX12_spent : MethodName := ⟨RX12, "spent", "(I)I"⟩
abbrev cX12_isOver : ByteArray := prog_14_method_26_code
def yX12_isOver : MethodName := ⟨RX12, "isOver", "(I)Z"⟩
abbrev cX12_left : ByteArray := prog_14_method_27_code
def yX12_left : MethodName := ⟨RX12, "left", "(I)I"⟩
abbrev cX12_rateNow : ByteArray := prog_14_method_28_code
def yX12_rateNow : MethodName := ⟨RX12, "rateNow", "(I)I"⟩
abbrev cX12_goesBack : ByteArray := prog_14_method_29_code
def yX12_goesBack : MethodName := ⟨RX12, "goesBack", "(II)V"⟩
abbrev cX12_allGoesBack : ByteArray := prog_14_method_30_code
def yX12_allGoesBack : MethodName := ⟨RX12, "allGoesBack", "(I)V"⟩
abbrev cX12_isAhead : ByteArray := prog_14_method_31_code
def yX12_isAhead : MethodName := ⟨RX12, "isAhead", "(II)Z"⟩
abbrev cX12_bundleFor : ByteArray := prog_14_method_32_code
def yX12_bundleFor : MethodName := ⟨RX12, "bundleFor", "(I)I"⟩
abbrev cX12_costToday : ByteArray := prog_14_method_33_code
def yX12_costToday : MethodName := ⟨RX12, "costToday", "(I)I"⟩
abbrev cX12_lets : ByteArray := prog_14_method_34_code
def yX12_lets : MethodName := ⟨RX12, "lets", "(II)I"⟩
abbrev cX12_giverTo : ByteArray := prog_14_method_35_code
def yX12_giverTo : MethodName := ⟨RX12, "giverTo", "(I)I"⟩
abbrev cX12_moneyFor : ByteArray := prog_14_method_36_code
def yX12_moneyFor : MethodName := ⟨RX12, "moneyFor", "(I)I"⟩
abbrev cX12_getsSlice : ByteArray := prog_14_method_37_code
def yX12_getsSlice : MethodName := ⟨RX12, "getsSlice", "(I)V"⟩
abbrev cX12_turned : ByteArray := prog_14_method_38_code
def yX12_turned : MethodName := ⟨RX12, "turned", "(I)I"⟩
abbrev cX12_notes : ByteArray := prog_14_method_39_code
def yX12_notes : MethodName := ⟨RX12, "notes", "(IIII)V"⟩
abbrev cX12_partiesOf : ByteArray := prog_14_method_40_code
def yX12_partiesOf : MethodName := ⟨RX12, "partiesOf", "(I)I"⟩
abbrev cX12_closes : ByteArray := prog_14_method_41_code
def yX12_closes : MethodName := ⟨RX12, "closes", "(III)V"⟩
abbrev cX12_stops : ByteArray := prog_14_method_42_code
def yX12_stops : MethodName := ⟨RX12, "stops", "(III)V"⟩
abbrev cX12_begins : ByteArray := prog_14_method_43_code
def yX12_begins : MethodName := ⟨RX12, "begins", "(III)I"⟩
abbrev cX12_hasChannels : ByteArray := prog_14_method_44_code
def yX12_hasChannels : MethodName := ⟨RX12, "hasChannels", "(II)Z"⟩
abbrev cX12_begin : ByteArray := prog_14_method_45_code
def yX12_begin : MethodName := ⟨RX12, "begin", "(IIZ)I"⟩
abbrev cX12_join : ByteArray := prog_14_method_46_code
def yX12_join : MethodName := ⟨RX12, "join", "(IIZ)I"⟩
abbrev cX12_leave : ByteArray := prog_14_method_47_code
def yX12_leave : MethodName := ⟨RX12, "leave", "(I)I"⟩
abbrev cX12_areNeighbours : ByteArray := prog_14_method_48_code
def yX12_areNeighbours : MethodName := ⟨RX12, "areNeighbours", "(II)Z"⟩
abbrev cX12_move : ByteArray := prog_14_method_49_code
def yX12_move : MethodName := ⟨RX12, "move", "(II)Z"⟩
abbrev cX12_rates : ByteArray := prog_14_method_50_code
def yX12_rates : MethodName := ⟨RX12, "rates", "(I)V"⟩
abbrev cX12_lives : ByteArray := prog_14_method_51_code
def yX12_lives : MethodName := ⟨RX12, "lives", "(I)V"⟩
abbrev cX12_pass : ByteArray := prog_14_method_52_code
def yX12_pass : MethodName := ⟨RX12, "pass", "(I)I"⟩
abbrev cX12_now : ByteArray := prog_14_method_53_code
def yX12_now : MethodName := ⟨RX12, "now", "()I"⟩
abbrev cX12_isAsked : ByteArray := prog_14_method_54_code
def yX12_isAsked : MethodName := ⟨RX12, "isAsked", "(I)Z"⟩
abbrev cX12_cellOf : ByteArray := prog_14_method_55_code
def yX12_cellOf : MethodName := ⟨RX12, "cellOf", "(I)I"⟩
abbrev cX12_rateOf : ByteArray := prog_14_method_56_code
def yX12_rateOf : MethodName := ⟨RX12, "rateOf", "(I)I"⟩
abbrev cX12_legOf : ByteArray := prog_14_method_57_code
def yX12_legOf : MethodName := ⟨RX12, "legOf", "(I)I"⟩
abbrev cX12_sliceOf : ByteArray := prog_14_method_58_code
def yX12_sliceOf : MethodName := ⟨RX12, "sliceOf", "(I)I"⟩
abbrev cX12_parties : ByteArray := prog_14_method_59_code
def yX12_parties : MethodName := ⟨RX12, "parties", "(I)I"⟩
abbrev cX12_legs : ByteArray := prog_14_method_60_code
def yX12_legs : MethodName := ⟨RX12, "legs", "()I"⟩
abbrev cX12_isAskedOf : ByteArray := prog_14_method_61_code
def yX12_isAskedOf : MethodName := ⟨RX12, "isAskedOf", "(I)Z"⟩
abbrev cX12_stateOf : ByteArray := prog_14_method_62_code
def yX12_stateOf : MethodName := ⟨RX12, "stateOf", "(I)I"⟩
abbrev cX12_seconds : ByteArray := prog_14_method_63_code
def yX12_seconds : MethodName := ⟨RX12, "seconds", "(I)I"⟩
abbrev cX12_charged : ByteArray := prog_14_method_64_code
def yX12_charged : MethodName := ⟨RX12, "charged", "(I)I"⟩
abbrev cX12_covered : ByteArray := prog_14_method_65_code
def yX12_covered : MethodName := ⟨RX12, "covered", "(I)I"⟩
abbrev cX12_ratedByEvents : ByteArray := prog_14_method_66_code
def yX12_ratedByEvents : MethodName := ⟨RX12, "ratedByEvents", "(I)I"⟩
abbrev cX12_tag : ByteArray := prog_14_method_67_code
def yX12_tag : MethodName := ⟨RX12, "tag", "(I)I"⟩
abbrev cX12_sealOf : ByteArray := prog_14_method_68_code
def yX12_sealOf : MethodName := ⟨RX12, "sealOf", "(I)I"⟩
abbrev cX12_seal : ByteArray := prog_14_method_69_code
def yX12_seal : MethodName := ⟨RX12, "seal", "(I)I"⟩
abbrev cX12_stamp : ByteArray := prog_14_method_70_code
def yX12_stamp : MethodName := ⟨RX12, "stamp", "(I)I"⟩
abbrev cX12_sign : ByteArray := prog_14_method_71_code
def yX12_sign : MethodName := ⟨RX12, "sign", "(I)V"⟩
abbrev cX12_number : ByteArray := prog_14_method_72_code
def yX12_number : MethodName := ⟨RX12, "number", "(I)V"⟩
abbrev cX12_lineAt : ByteArray := prog_14_method_73_code
def yX12_lineAt : MethodName := ⟨RX12, "lineAt", "(II)I"⟩
def RJx145de : String := "java/io/Serializable"
def TJx145de : u_T := fun k => match k with
  | _ => ("", "", "", false)
def tyJx145de : Nat → FieldType := fun k => match k with
  | _ => .int
theorem nmJx145de : ∀ a, a < 0 → ∀ b, b < 0 → a ≠ b → (TJx145de a).2.1 ≠ (TJx145de b).2.1 := by decide +kernel
theorem tyJx145de_ok : ∀ k, k < 0 → parseFieldDescriptor (TJx145de k).2.2.1 = some (tyJx145de k) := by decide +kernel
def RJ5 : String := "java/lang/AbstractStringBuilder"
def TJ5 : u_T := fun k => match k with
  | _ => ("", "", "", false)
def tyJ5 : Nat → FieldType := fun k => match k with
  | _ => .int
theorem nmJ5 : ∀ a, a < 0 → ∀ b, b < 0 → a ≠ b → (TJ5 a).2.1 ≠ (TJ5 b).2.1 := by decide +kernel
theorem tyJ5_ok : ∀ k, k < 0 → parseFieldDescriptor (TJ5 k).2.2.1 = some (tyJ5 k) := by decide +kernel
abbrev cJ5_init_d00df : ByteArray := prog_16_method_2_code
def yJ5_init_d00df : MethodName := ⟨RJ5, "<init>", "(I)V"⟩
abbrev cJ5_length_8abf5 : ByteArray := prog_16_method_6_code
def yJ5_length_8abf5 : MethodName := ⟨RJ5, "length", "()I"⟩
abbrev cJ5_ensureCapacityInternal_d00df : ByteArray := prog_16_method_9_code
def yJ5_ensureCapacityInternal_d00df : MethodName := ⟨RJ5, "ensureCapacityInternal", "(I)V"⟩
abbrev cJ5_newCapacity_0f7a4 : ByteArray := prog_16_method_10_code
def yJ5_newCapacity_0f7a4 : MethodName := ⟨RJ5, "newCapacity", "(I)I"⟩
abbrev cJ5_inflate_da8c8 : ByteArray := prog_16_method_11_code
def yJ5_inflate_da8c8 : MethodName := ⟨RJ5, "inflate", "()V"⟩
abbrev cJ5_charAt_5068e : ByteArray := prog_16_method_14_code
def yJ5_charAt_5068e : MethodName := ⟨RJ5, "charAt", "(I)C"⟩
abbrev cJ5_append_cf1ce : ByteArray := prog_16_method_22_code
def yJ5_append_cf1ce : MethodName := ⟨RJ5, "append", "(Ljava/lang/String;)Ljava/lang/AbstractStringBuilder;"⟩
abbrev cJ5_appendNull_278bc : ByteArray := prog_16_method_26_code
def yJ5_appendNull_278bc : MethodName := ⟨RJ5, "appendNull", "()Ljava/lang/AbstractStringBuilder;"⟩
abbrev cJ5_append_3fe6f : ByteArray := prog_16_method_31_code
def yJ5_append_3fe6f : MethodName := ⟨RJ5, "append", "(C)Ljava/lang/AbstractStringBuilder;"⟩
abbrev cJ5_append_c97b9 : ByteArray := prog_16_method_32_code
def yJ5_append_c97b9 : MethodName := ⟨RJ5, "append", "(I)Ljava/lang/AbstractStringBuilder;"⟩
abbrev cJ5_getValue_6d5f1 : ByteArray := prog_16_method_64_code
def yJ5_getValue_6d5f1 : MethodName := ⟨RJ5, "getValue", "()[B"⟩
abbrev cJ5_isLatin1_aae02 : ByteArray := prog_16_method_68_code
def yJ5_isLatin1_aae02 : MethodName := ⟨RJ5, "isLatin1", "()Z"⟩
abbrev cJ5_inflateIfNeededFor_a7421 : ByteArray := prog_16_method_71_code
def yJ5_inflateIfNeededFor_a7421 : MethodName := ⟨RJ5, "inflateIfNeededFor", "(Ljava/lang/String;)V"⟩
abbrev cJ5_putStringAt_47b60 : ByteArray := prog_16_method_73_code
def yJ5_putStringAt_47b60 : MethodName := ⟨RJ5, "putStringAt", "(ILjava/lang/String;)V"⟩
def RJx2cfe8 : String := "java/lang/Appendable"
def TJx2cfe8 : u_T := fun k => match k with
  | _ => ("", "", "", false)
def tyJx2cfe8 : Nat → FieldType := fun k => match k with
  | _ => .int
theorem nmJx2cfe8 : ∀ a, a < 0 → ∀ b, b < 0 → a ≠ b → (TJx2cfe8 a).2.1 ≠ (TJx2cfe8 b).2.1 := by decide +kernel
theorem tyJx2cfe8_ok : ∀ k, k < 0 → parseFieldDescriptor (TJx2cfe8 k).2.2.1 = some (tyJx2cfe8 k) := by decide +kernel
def RJx9f9b0 : String := "java/lang/CharSequence"
def TJx9f9b0 : u_T := fun k => match k with
  | _ => ("", "", "", false)
def tyJx9f9b0 : Nat → FieldType := fun k => match k with
  | _ => .int
theorem nmJx9f9b0 : ∀ a, a < 0 → ∀ b, b < 0 → a ≠ b → (TJx9f9b0 a).2.1 ≠ (TJx9f9b0 b).2.1 := by decide +kernel
theorem tyJx9f9b0_ok : ∀ k, k < 0 → parseFieldDescriptor (TJx9f9b0 k).2.2.1 = some (tyJx9f9b0 k) := by decide +kernel
def RJx8e188 : String := "java/lang/Cloneable"
def TJx8e188 : u_T := fun k => match k with
  | _ => ("", "", "", false)
def tyJx8e188 : Nat → FieldType := fun k => match k with
  | _ => .int
theorem nmJx8e188 : ∀ a, a < 0 → ∀ b, b < 0 → a ≠ b → (TJx8e188 a).2.1 ≠ (TJx8e188 b).2.1 := by decide +kernel
theorem tyJx8e188_ok : ∀ k, k < 0 → parseFieldDescriptor (TJx8e188 k).2.2.1 = some (tyJx8e188 k) := by decide +kernel
def RJxb160c : String := "java/lang/Comparable"
def TJxb160c : u_T := fun k => match k with
  | _ => ("", "", "", false)
def tyJxb160c : Nat → FieldType := fun k => match k with
  | _ => .int
theorem nmJxb160c : ∀ a, a < 0 → ∀ b, b < 0 → a ≠ b → (TJxb160c a).2.1 ≠ (TJxb160c b).2.1 := by decide +kernel
theorem tyJxb160c_ok : ∀ k, k < 0 → parseFieldDescriptor (TJxb160c k).2.2.1 = some (tyJxb160c k) := by decide +kernel
def RJ6 : String := "java/lang/Integer"
def TJ6 : u_T := fun k => match k with
  | _ => ("", "", "", false)
def tyJ6 : Nat → FieldType := fun k => match k with
  | _ => .int
theorem nmJ6 : ∀ a, a < 0 → ∀ b, b < 0 → a ≠ b → (TJ6 a).2.1 ≠ (TJ6 b).2.1 := by decide +kernel
theorem tyJ6_ok : ∀ k, k < 0 → parseFieldDescriptor (TJ6 k).2.2.1 = some (tyJ6 k) := by decide +kernel
abbrev cJ6_getChars_ba4f3 : ByteArray := prog_25_method_12_code
def yJ6_getChars_ba4f3 : MethodName := ⟨RJ6, "getChars", "(II[B)I"⟩
abbrev cJ6_stringSize_0f7a4 : ByteArray := prog_25_method_13_code
def yJ6_stringSize_0f7a4 : MethodName := ⟨RJ6, "stringSize", "(I)I"⟩
def RJxab1ab : String := "java/lang/Iterable"
def TJxab1ab : u_T := fun k => match k with
  | _ => ("", "", "", false)
def tyJxab1ab : Nat → FieldType := fun k => match k with
  | _ => .int
theorem nmJxab1ab : ∀ a, a < 0 → ∀ b, b < 0 → a ≠ b → (TJxab1ab a).2.1 ≠ (TJxab1ab b).2.1 := by decide +kernel
theorem tyJxab1ab_ok : ∀ k, k < 0 → parseFieldDescriptor (TJxab1ab k).2.2.1 = some (tyJxab1ab k) := by decide +kernel
def RJ9 : String := "java/lang/Math"
def TJ9 : u_T := fun k => match k with
  | _ => ("", "", "", false)
def tyJ9 : Nat → FieldType := fun k => match k with
  | _ => .int
theorem nmJ9 : ∀ a, a < 0 → ∀ b, b < 0 → a ≠ b → (TJ9 a).2.1 ≠ (TJ9 b).2.1 := by decide +kernel
theorem tyJ9_ok : ∀ k, k < 0 → parseFieldDescriptor (TJ9 k).2.2.1 = some (tyJ9 k) := by decide +kernel
abbrev cJ9_abs_0f7a4 : ByteArray := prog_27_method_59_code
def yJ9_abs_0f7a4 : MethodName := ⟨RJ9, "abs", "(I)I"⟩
abbrev cJ9_max_7cf53 : ByteArray := prog_27_method_65_code
def yJ9_max_7cf53 : MethodName := ⟨RJ9, "max", "(II)I"⟩
abbrev cJ9_min_7cf53 : ByteArray := prog_27_method_69_code
def yJ9_min_7cf53 : MethodName := ⟨RJ9, "min", "(II)I"⟩
def RJxd2413 : String := "java/lang/Number"
def TJxd2413 : u_T := fun k => match k with
  | _ => ("", "", "", false)
def tyJxd2413 : Nat → FieldType := fun k => match k with
  | _ => .int
theorem nmJxd2413 : ∀ a, a < 0 → ∀ b, b < 0 → a ≠ b → (TJxd2413 a).2.1 ≠ (TJxd2413 b).2.1 := by decide +kernel
theorem tyJxd2413_ok : ∀ k, k < 0 → parseFieldDescriptor (TJxd2413 k).2.2.1 = some (tyJxd2413 k) := by decide +kernel
def RJ0 : String := "java/lang/String"
def TJ0 : u_T := fun k => match k with
  | 0 => ("java/lang/String", "value", "[B", true)
  | 1 => ("java/lang/String", "coder", "B", true)
  | 2 => ("java/lang/String", "hash", "I", false)
  | _ => ("java/lang/String", "hashIsZero", "Z", false)
def tyJ0 : Nat → FieldType := fun k => match k with
  | 0 => .array .byte
  | 1 => .byte
  | 2 => .int
  | _ => .boolean
theorem nmJ0 : ∀ a, a < 4 → ∀ b, b < 4 → a ≠ b → (TJ0 a).2.1 ≠ (TJ0 b).2.1 := by decide +kernel
theorem tyJ0_ok : ∀ k, k < 4 → parseFieldDescriptor (TJ0 k).2.2.1 = some (tyJ0 k) := by decide +kernel
abbrev cJ0_init_81219 : ByteArray := prog_30_method_53_code
def yJ0_init_81219 : MethodName := ⟨RJ0, "<init>", "(Ljava/lang/StringBuilder;)V"⟩
abbrev cJ0_length_8abf5 : ByteArray := prog_30_method_54_code
def yJ0_length_8abf5 : MethodName := ⟨RJ0, "length", "()I"⟩
abbrev cJ0_getBytes_840e7 : ByteArray := prog_30_method_147_code
def yJ0_getBytes_840e7 : MethodName := ⟨RJ0, "getBytes", "([BIB)V"⟩
abbrev cJ0_init_db425 : ByteArray := prog_30_method_150_code
def yJ0_init_db425 : MethodName := ⟨RJ0, "<init>", "(Ljava/lang/AbstractStringBuilder;Ljava/lang/Void;)V"⟩
abbrev cJ0_coder_7d493 : ByteArray := prog_30_method_152_code
def yJ0_coder_7d493 : MethodName := ⟨RJ0, "coder", "()B"⟩
abbrev cJ0_checkIndex_df160 : ByteArray := prog_30_method_155_code
def yJ0_checkIndex_df160 : MethodName := ⟨RJ0, "checkIndex", "(II)V"⟩
abbrev cJ0_checkBoundsOffCount_cabcc : ByteArray := prog_30_method_157_code
def yJ0_checkBoundsOffCount_cabcc : MethodName := ⟨RJ0, "checkBoundsOffCount", "(III)I"⟩
abbrev cJ0_checkBoundsBeginEnd_23922 : ByteArray := prog_30_method_158_code
def yJ0_checkBoundsBeginEnd_23922 : MethodName := ⟨RJ0, "checkBoundsBeginEnd", "(III)V"⟩
def RJ4 : String := "java/lang/StringBuilder"
def TJ4 : u_T := fun k => match k with
  | 0 => ("java/lang/AbstractStringBuilder", "value", "[B", false)
  | 1 => ("java/lang/AbstractStringBuilder", "coder", "B", false)
  | 2 => ("java/lang/AbstractStringBuilder", "maybeLatin1", "Z", false)
  | _ => ("java/lang/AbstractStringBuilder", "count", "I", false)
def tyJ4 : Nat → FieldType := fun k => match k with
  | 0 => .array .byte
  | 1 => .byte
  | 2 => .boolean
  | _ => .int
theorem nmJ4 : ∀ a, a < 4 → ∀ b, b < 4 → a ≠ b → (TJ4 a).2.1 ≠ (TJ4 b).2.1 := by decide +kernel
theorem tyJ4_ok : ∀ k, k < 4 → parseFieldDescriptor (TJ4 k).2.2.1 = some (tyJ4 k) := by decide +kernel
abbrev cJ4_init_da8c8 : ByteArray := prog_31_method_1_code
def yJ4_init_da8c8 : MethodName := ⟨RJ4, "<init>", "()V"⟩
abbrev cJ4_append_15ec4 : ByteArray := prog_31_method_7_code
def yJ4_append_15ec4 : MethodName := ⟨RJ4, "append", "(Ljava/lang/String;)Ljava/lang/StringBuilder;"⟩
abbrev cJ4_append_cf468 : ByteArray := prog_31_method_14_code
def yJ4_append_cf468 : MethodName := ⟨RJ4, "append", "(C)Ljava/lang/StringBuilder;"⟩
abbrev cJ4_append_bf812 : ByteArray := prog_31_method_15_code
def yJ4_append_bf812 : MethodName := ⟨RJ4, "append", "(I)Ljava/lang/StringBuilder;"⟩
abbrev cJ4_toString_0e30d : ByteArray := prog_31_method_42_code
def yJ4_toString_0e30d : MethodName := ⟨RJ4, "toString", "()Ljava/lang/String;"⟩
abbrev cJ4_charAt_5068e : ByteArray := prog_31_method_88_code
def yJ4_charAt_5068e : MethodName := ⟨RJ4, "charAt", "(I)C"⟩
abbrev cJ4_length_8abf5 : ByteArray := prog_31_method_93_code
def yJ4_length_8abf5 : MethodName := ⟨RJ4, "length", "()I"⟩
def RJ1 : String := "java/lang/StringLatin1"
def TJ1 : u_T := fun k => match k with
  | _ => ("", "", "", false)
def tyJ1 : Nat → FieldType := fun k => match k with
  | _ => .int
theorem nmJ1 : ∀ a, a < 0 → ∀ b, b < 0 → a ≠ b → (TJ1 a).2.1 ≠ (TJ1 b).2.1 := by decide +kernel
theorem tyJ1_ok : ∀ k, k < 0 → parseFieldDescriptor (TJ1 k).2.2.1 = some (tyJ1 k) := by decide +kernel
abbrev cJ1_canEncode_fc78d : ByteArray := prog_32_method_3_code
def yJ1_canEncode_fc78d : MethodName := ⟨RJ1, "canEncode", "(C)Z"⟩
abbrev cJ1_inflate_0e8fd : ByteArray := prog_32_method_50_code
def yJ1_inflate_0e8fd : MethodName := ⟨RJ1, "inflate", "([BI[BII)V"⟩
def RJ2 : String := "java/lang/StringUTF16"
def TJ2 : u_T := fun k => match k with
  | _ => ("", "", "", false)
def tyJ2 : Nat → FieldType := fun k => match k with
  | _ => .int
theorem nmJ2 : ∀ a, a < 0 → ∀ b, b < 0 → a ≠ b → (TJ2 a).2.1 ≠ (TJ2 b).2.1 := by decide +kernel
theorem tyJ2_ok : ∀ k, k < 0 → parseFieldDescriptor (TJ2 k).2.2.1 = some (tyJ2 k) := by decide +kernel
abbrev cJ2_newBytesFor_77867 : ByteArray := prog_33_method_2_code
def yJ2_newBytesFor_77867 : MethodName := ⟨RJ2, "newBytesFor", "(I)[B"⟩
abbrev cJ2_newBytesLength_0f7a4 : ByteArray := prog_33_method_3_code
def yJ2_newBytesLength_0f7a4 : MethodName := ⟨RJ2, "newBytesLength", "(I)I"⟩
abbrev cJ2_putChar_b72d1 : ByteArray := prog_33_method_4_code
def yJ2_putChar_b72d1 : MethodName := ⟨RJ2, "putChar", "([BII)V"⟩
abbrev cJ2_getChar_3b067 : ByteArray := prog_33_method_5_code
def yJ2_getChar_3b067 : MethodName := ⟨RJ2, "getChar", "([BI)C"⟩
abbrev cJ2_length_9d52b : ByteArray := prog_33_method_6_code
def yJ2_length_9d52b : MethodName := ⟨RJ2, "length", "([B)I"⟩
abbrev cJ2_coderFromArrayLen_85cad : ByteArray := prog_33_method_15_code
def yJ2_coderFromArrayLen_85cad : MethodName := ⟨RJ2, "coderFromArrayLen", "([BI)B"⟩
abbrev cJ2_compress_39247 : ByteArray := prog_33_method_17_code
def yJ2_compress_39247 : MethodName := ⟨RJ2, "compress", "([BII)[B"⟩
abbrev cJ2_compress_5af95 : ByteArray := prog_33_method_22_code
def yJ2_compress_5af95 : MethodName := ⟨RJ2, "compress", "([BI[BII)I"⟩
abbrev cJ2_putCharSB_b72d1 : ByteArray := prog_33_method_71_code
def yJ2_putCharSB_b72d1 : MethodName := ⟨RJ2, "putCharSB", "([BII)V"⟩
abbrev cJ2_getChars_46870 : ByteArray := prog_33_method_77_code
def yJ2_getChars_46870 : MethodName := ⟨RJ2, "getChars", "(III[B)I"⟩
abbrev cJ2_putCharsAt_cd4e5 : ByteArray := prog_33_method_81_code
def yJ2_putCharsAt_cd4e5 : MethodName := ⟨RJ2, "putCharsAt", "([BICCCC)I"⟩
abbrev cJ2_inflate_0e8fd : ByteArray := prog_33_method_86_code
def yJ2_inflate_0e8fd : MethodName := ⟨RJ2, "inflate", "([BI[BII)V"⟩
abbrev cJ2_getChars_ba4f3 : ByteArray := prog_33_method_89_code
def yJ2_getChars_ba4f3 : MethodName := ⟨RJ2, "getChars", "(II[B)I"⟩
abbrev cJ2_checkIndex_2214a : ByteArray := prog_33_method_91_code
def yJ2_checkIndex_2214a : MethodName := ⟨RJ2, "checkIndex", "(I[B)V"⟩
abbrev cJ2_checkBoundsBeginEnd_d044e : ByteArray := prog_33_method_93_code
def yJ2_checkBoundsBeginEnd_d044e : MethodName := ⟨RJ2, "checkBoundsBeginEnd", "(II[B)V"⟩
abbrev cJ2_checkBoundsOffCount_d044e : ByteArray := prog_33_method_94_code
def yJ2_checkBoundsOffCount_d044e : MethodName := ⟨RJ2, "checkBoundsOffCount", "(II[B)V"⟩
def RJ10 : String := "java/lang/System"
def TJ10 : u_T := fun k => match k with
  | _ => ("", "", "", false)
def tyJ10 : Nat → FieldType := fun k => match k with
  | _ => .int
theorem nmJ10 : ∀ a, a < 0 → ∀ b, b < 0 → a ≠ b → (TJ10 a).2.1 ≠ (TJ10 b).2.1 := by decide +kernel
theorem tyJ10_ok : ∀ k, k < 0 → parseFieldDescriptor (TJ10 k).2.2.1 = some (tyJ10 k) := by decide +kernel
def RJxfd54e : String := "java/lang/constant/Constable"
def TJxfd54e : u_T := fun k => match k with
  | _ => ("", "", "", false)
def tyJxfd54e : Nat → FieldType := fun k => match k with
  | _ => .int
theorem nmJxfd54e : ∀ a, a < 0 → ∀ b, b < 0 → a ≠ b → (TJxfd54e a).2.1 ≠ (TJxfd54e b).2.1 := by decide +kernel
theorem tyJxfd54e_ok : ∀ k, k < 0 → parseFieldDescriptor (TJxfd54e k).2.2.1 = some (tyJxfd54e k) := by decide +kernel
def RJx3cf43 : String := "java/lang/constant/ConstantDesc"
def TJx3cf43 : u_T := fun k => match k with
  | _ => ("", "", "", false)
def tyJx3cf43 : Nat → FieldType := fun k => match k with
  | _ => .int
theorem nmJx3cf43 : ∀ a, a < 0 → ∀ b, b < 0 → a ≠ b → (TJx3cf43 a).2.1 ≠ (TJx3cf43 b).2.1 := by decide +kernel
theorem tyJx3cf43_ok : ∀ k, k < 0 → parseFieldDescriptor (TJx3cf43 k).2.2.1 = some (tyJx3cf43 k) := by decide +kernel
def RJxa1e45 : String := "java/util/AbstractCollection"
def TJxa1e45 : u_T := fun k => match k with
  | _ => ("", "", "", false)
def tyJxa1e45 : Nat → FieldType := fun k => match k with
  | _ => .int
theorem nmJxa1e45 : ∀ a, a < 0 → ∀ b, b < 0 → a ≠ b → (TJxa1e45 a).2.1 ≠ (TJxa1e45 b).2.1 := by decide +kernel
theorem tyJxa1e45_ok : ∀ k, k < 0 → parseFieldDescriptor (TJxa1e45 k).2.2.1 = some (tyJxa1e45 k) := by decide +kernel
abbrev cJxa1e45_init_da8c8 : ByteArray := prog_38_method_1_code
def yJxa1e45_init_da8c8 : MethodName := ⟨RJxa1e45, "<init>", "()V"⟩
def RJxc12de : String := "java/util/AbstractList"
def TJxc12de : u_T := fun k => match k with
  | _ => ("", "", "", false)
def tyJxc12de : Nat → FieldType := fun k => match k with
  | _ => .int
theorem nmJxc12de : ∀ a, a < 0 → ∀ b, b < 0 → a ≠ b → (TJxc12de a).2.1 ≠ (TJxc12de b).2.1 := by decide +kernel
theorem tyJxc12de_ok : ∀ k, k < 0 → parseFieldDescriptor (TJxc12de k).2.2.1 = some (tyJxc12de k) := by decide +kernel
abbrev cJxc12de_init_da8c8 : ByteArray := prog_39_method_1_code
def yJxc12de_init_da8c8 : MethodName := ⟨RJxc12de, "<init>", "()V"⟩
def RJx4a65c : String := "java/util/ArrayList"
def TJx4a65c : u_T := fun k => match k with
  | 0 => ("java/util/AbstractList", "modCount", "I", false)
  | 1 => ("java/util/ArrayList", "elementData", "[Ljava/lang/Object;", false)
  | _ => ("java/util/ArrayList", "size", "I", false)
def tyJx4a65c : Nat → FieldType := fun k => match k with
  | 0 => .int
  | 1 => .array (.object "java/lang/Object")
  | _ => .int
theorem nmJx4a65c : ∀ a, a < 3 → ∀ b, b < 3 → a ≠ b → (TJx4a65c a).2.1 ≠ (TJx4a65c b).2.1 := by decide +kernel
theorem tyJx4a65c_ok : ∀ k, k < 3 → parseFieldDescriptor (TJx4a65c k).2.2.1 = some (tyJx4a65c k) := by decide +kernel
abbrev cJx4a65c_init_da8c8 : ByteArray := prog_40_method_2_code
def yJx4a65c_init_da8c8 : MethodName := ⟨RJx4a65c, "<init>", "()V"⟩
abbrev cJx4a65c_grow_92f84 : ByteArray := prog_40_method_6_code
def yJx4a65c_grow_92f84 : MethodName := ⟨RJx4a65c, "grow", "(I)[Ljava/lang/Object;"⟩
abbrev cJx4a65c_grow_d5877 : ByteArray := prog_40_method_7_code
def yJx4a65c_grow_d5877 : MethodName := ⟨RJx4a65c, "grow", "()[Ljava/lang/Object;"⟩
abbrev cJx4a65c_size_8abf5 : ByteArray := prog_40_method_8_code
def yJx4a65c_size_8abf5 : MethodName := ⟨RJx4a65c, "size", "()I"⟩
abbrev cJx4a65c_isEmpty_aae02 : ByteArray := prog_40_method_9_code
def yJx4a65c_isEmpty_aae02 : MethodName := ⟨RJx4a65c, "isEmpty", "()Z"⟩
abbrev cJx4a65c_elementData_915e3 : ByteArray := prog_40_method_18_code
def yJx4a65c_elementData_915e3 : MethodName := ⟨RJx4a65c, "elementData", "(I)Ljava/lang/Object;"⟩
abbrev cJx4a65c_get_915e3 : ByteArray := prog_40_method_20_code
def yJx4a65c_get_915e3 : MethodName := ⟨RJx4a65c, "get", "(I)Ljava/lang/Object;"⟩
abbrev cJx4a65c_add_72be8 : ByteArray := prog_40_method_24_code
def yJx4a65c_add_72be8 : MethodName := ⟨RJx4a65c, "add", "(Ljava/lang/Object;[Ljava/lang/Object;I)V"⟩
abbrev cJx4a65c_add_9ea2d : ByteArray := prog_40_method_25_code
def yJx4a65c_add_9ea2d : MethodName := ⟨RJx4a65c, "add", "(Ljava/lang/Object;)Z"⟩
abbrev cJx4a65c_add_7a177 : ByteArray := prog_40_method_26_code
def yJx4a65c_add_7a177 : MethodName := ⟨RJx4a65c, "add", "(ILjava/lang/Object;)V"⟩
abbrev cJx4a65c_rangeCheckForAdd_d00df : ByteArray := prog_40_method_45_code
def yJx4a65c_rangeCheckForAdd_d00df : MethodName := ⟨RJx4a65c, "rangeCheckForAdd", "(I)V"⟩
abbrev cJx4a65c_outOfBoundsMsg_b52d3 : ByteArray := prog_40_method_46_code
def yJx4a65c_outOfBoundsMsg_b52d3 : MethodName := ⟨RJx4a65c, "outOfBoundsMsg", "(I)Ljava/lang/String;"⟩
def RJ7 : String := "java/util/Arrays"
def TJ7 : u_T := fun k => match k with
  | _ => ("", "", "", false)
def tyJ7 : Nat → FieldType := fun k => match k with
  | _ => .int
theorem nmJ7 : ∀ a, a < 0 → ∀ b, b < 0 → a ≠ b → (TJ7 a).2.1 ≠ (TJ7 b).2.1 := by decide +kernel
theorem tyJ7_ok : ∀ k, k < 0 → parseFieldDescriptor (TJ7 k).2.2.1 = some (tyJ7 k) := by decide +kernel
abbrev cJ7_copyOf_1904c : ByteArray := prog_41_method_119_code
def yJ7_copyOf_1904c : MethodName := ⟨RJ7, "copyOf", "([Ljava/lang/Object;I)[Ljava/lang/Object;"⟩
abbrev cJ7_copyOf_6403c : ByteArray := prog_41_method_120_code
def yJ7_copyOf_6403c : MethodName := ⟨RJ7, "copyOf", "([Ljava/lang/Object;ILjava/lang/Class;)[Ljava/lang/Object;"⟩
abbrev cJ7_copyOf_9075b : ByteArray := prog_41_method_121_code
def yJ7_copyOf_9075b : MethodName := ⟨RJ7, "copyOf", "([BI)[B"⟩
abbrev cJ7_checkLength_df160 : ByteArray := prog_41_method_131_code
def yJ7_checkLength_df160 : MethodName := ⟨RJ7, "checkLength", "(II)V"⟩
abbrev cJ7_copyOfRange_39247 : ByteArray := prog_41_method_132_code
def yJ7_copyOfRange_39247 : MethodName := ⟨RJ7, "copyOfRange", "([BII)[B"⟩
abbrev cJ7_copyOfRangeByte_39247 : ByteArray := prog_41_method_133_code
def yJ7_copyOfRangeByte_39247 : MethodName := ⟨RJ7, "copyOfRangeByte", "([BII)[B"⟩
def RJx5ef63 : String := "java/util/Collection"
def TJx5ef63 : u_T := fun k => match k with
  | _ => ("", "", "", false)
def tyJx5ef63 : Nat → FieldType := fun k => match k with
  | _ => .int
theorem nmJx5ef63 : ∀ a, a < 0 → ∀ b, b < 0 → a ≠ b → (TJx5ef63 a).2.1 ≠ (TJx5ef63 b).2.1 := by decide +kernel
theorem tyJx5ef63_ok : ∀ k, k < 0 → parseFieldDescriptor (TJx5ef63 k).2.2.1 = some (tyJx5ef63 k) := by decide +kernel
def RJxbd725 : String := "java/util/List"
def TJxbd725 : u_T := fun k => match k with
  | _ => ("", "", "", false)
def tyJxbd725 : Nat → FieldType := fun k => match k with
  | _ => .int
theorem nmJxbd725 : ∀ a, a < 0 → ∀ b, b < 0 → a ≠ b → (TJxbd725 a).2.1 ≠ (TJxbd725 b).2.1 := by decide +kernel
theorem tyJxbd725_ok : ∀ k, k < 0 → parseFieldDescriptor (TJxbd725 k).2.2.1 = some (tyJxbd725 k) := by decide +kernel
def RJ15 : String := "java/util/Objects"
def TJ15 : u_T := fun k => match k with
  | _ => ("", "", "", false)
def tyJ15 : Nat → FieldType := fun k => match k with
  | _ => .int
theorem nmJ15 : ∀ a, a < 0 → ∀ b, b < 0 → a ≠ b → (TJ15 a).2.1 ≠ (TJ15 b).2.1 := by decide +kernel
theorem tyJ15_ok : ∀ k, k < 0 → parseFieldDescriptor (TJ15 k).2.2.1 = some (tyJ15 k) := by decide +kernel
abbrev cJ15_checkIndex_7cf53 : ByteArray := prog_44_method_17_code
def yJ15_checkIndex_7cf53 : MethodName := ⟨RJ15, "checkIndex", "(II)I"⟩
def RJxf0a74 : String := "java/util/RandomAccess"
def TJxf0a74 : u_T := fun k => match k with
  | _ => ("", "", "", false)
def tyJxf0a74 : Nat → FieldType := fun k => match k with
  | _ => .int
theorem nmJxf0a74 : ∀ a, a < 0 → ∀ b, b < 0 → a ≠ b → (TJxf0a74 a).2.1 ≠ (TJxf0a74 b).2.1 := by decide +kernel
theorem tyJxf0a74_ok : ∀ k, k < 0 → parseFieldDescriptor (TJxf0a74 k).2.2.1 = some (tyJxf0a74 k) := by decide +kernel
def RJxa66e6 : String := "java/util/SequencedCollection"
def TJxa66e6 : u_T := fun k => match k with
  | _ => ("", "", "", false)
def tyJxa66e6 : Nat → FieldType := fun k => match k with
  | _ => .int
theorem nmJxa66e6 : ∀ a, a < 0 → ∀ b, b < 0 → a ≠ b → (TJxa66e6 a).2.1 ≠ (TJxa66e6 b).2.1 := by decide +kernel
theorem tyJxa66e6_ok : ∀ k, k < 0 → parseFieldDescriptor (TJxa66e6 k).2.2.1 = some (tyJxa66e6 k) := by decide +kernel
def RJ8 : String := "jdk/internal/util/ArraysSupport"
def TJ8 : u_T := fun k => match k with
  | _ => ("", "", "", false)
def tyJ8 : Nat → FieldType := fun k => match k with
  | _ => .int
theorem nmJ8 : ∀ a, a < 0 → ∀ b, b < 0 → a ≠ b → (TJ8 a).2.1 ≠ (TJ8 b).2.1 := by decide +kernel
theorem tyJ8_ok : ∀ k, k < 0 → parseFieldDescriptor (TJ8 k).2.2.1 = some (tyJ8 k) := by decide +kernel
abbrev cJ8_newLength_cabcc : ByteArray := prog_47_method_27_code
def yJ8_newLength_cabcc : MethodName := ⟨RJ8, "newLength", "(III)I"⟩
abbrev cJ8_hugeLength_7cf53 : ByteArray := prog_47_method_28_code
def yJ8_hugeLength_7cf53 : MethodName := ⟨RJ8, "hugeLength", "(II)I"⟩
def RJ3 : String := "jdk/internal/util/Preconditions"
def TJ3 : u_T := fun k => match k with
  | _ => ("", "", "", false)
def tyJ3 : Nat → FieldType := fun k => match k with
  | _ => .int
theorem nmJ3 : ∀ a, a < 0 → ∀ b, b < 0 → a ≠ b → (TJ3 a).2.1 ≠ (TJ3 b).2.1 := by decide +kernel
theorem tyJ3_ok : ∀ k, k < 0 → parseFieldDescriptor (TJ3 k).2.2.1 = some (tyJ3 k) := by decide +kernel
abbrev cJ3_checkIndex_8e157 : ByteArray := prog_48_method_11_code
def yJ3_checkIndex_8e157 : MethodName := ⟨RJ3, "checkIndex", "(IILjava/util/function/BiFunction;)I"⟩
abbrev cJ3_checkFromToIndex_8c36e : ByteArray := prog_48_method_12_code
def yJ3_checkFromToIndex_8c36e : MethodName := ⟨RJ3, "checkFromToIndex", "(IIILjava/util/function/BiFunction;)I"⟩
abbrev cJ3_checkFromIndexSize_8c36e : ByteArray := prog_48_method_13_code
def yJ3_checkFromIndexSize_8c36e : MethodName := ⟨RJ3, "checkFromIndexSize", "(IIILjava/util/function/BiFunction;)I"⟩
def RL : String := "MeshBillerLaw"
abbrev cL_setZone : ByteArray := method_3_code
def yL_setZone : MethodName := ⟨RL, "setZone", "(LMeshBiller;II[J)I"⟩
abbrev cL_setChannels : ByteArray := method_4_code
def yL_setChannels : MethodName := ⟨RL, "setChannels", "(LMeshBiller;III[J)I"⟩
abbrev cL_setRate : ByteArray := method_5_code
def yL_setRate : MethodName := ⟨RL, "setRate", "(LMeshBiller;IZI[J)I"⟩
abbrev cL_setSlice : ByteArray := method_6_code
def yL_setSlice : MethodName := ⟨RL, "setSlice", "(LMeshBiller;I[J)I"⟩
abbrev cL_setCap : ByteArray := method_7_code
def yL_setCap : MethodName := ⟨RL, "setCap", "(LMeshBiller;II[J)I"⟩
abbrev cL_setWallet : ByteArray := method_8_code
def yL_setWallet : MethodName := ⟨RL, "setWallet", "(LMeshBiller;II[J)I"⟩
abbrev cL_top : ByteArray := method_9_code
def yL_top : MethodName := ⟨RL, "top", "(LMeshBiller;II[J)I"⟩
abbrev cL_give : ByteArray := method_10_code
def yL_give : MethodName := ⟨RL, "give", "(LMeshBiller;III[J)I"⟩
abbrev cL_buy : ByteArray := method_11_code
def yL_buy : MethodName := ⟨RL, "buy", "(LMeshBiller;IIIIII[J)I"⟩
abbrev cL_free : ByteArray := method_12_code
def yL_free : MethodName := ⟨RL, "free", "(LMeshBiller;I[J)I"⟩
abbrev cL_aside : ByteArray := method_13_code
def yL_aside : MethodName := ⟨RL, "aside", "(LMeshBiller;I[J)I"⟩
abbrev cL_spent : ByteArray := method_14_code
def yL_spent : MethodName := ⟨RL, "spent", "(LMeshBiller;I[J)I"⟩
abbrev cL_left : ByteArray := method_15_code
def yL_left : MethodName := ⟨RL, "left", "(LMeshBiller;I[J)I"⟩
abbrev cL_begin : ByteArray := method_16_code
def yL_begin : MethodName := ⟨RL, "begin", "(LMeshBiller;IIZ[J)I"⟩
abbrev cL_join : ByteArray := method_17_code
def yL_join : MethodName := ⟨RL, "join", "(LMeshBiller;IIZ[J)I"⟩
abbrev cL_leave : ByteArray := method_18_code
def yL_leave : MethodName := ⟨RL, "leave", "(LMeshBiller;I[J)I"⟩
abbrev cL_move : ByteArray := method_19_code
def yL_move : MethodName := ⟨RL, "move", "(LMeshBiller;II[J)I"⟩
abbrev cL_pass : ByteArray := method_20_code
def yL_pass : MethodName := ⟨RL, "pass", "(LMeshBiller;I[J)I"⟩
abbrev cL_cellOf : ByteArray := method_21_code
def yL_cellOf : MethodName := ⟨RL, "cellOf", "(LMeshBiller;I[J)I"⟩
abbrev cL_rateOf : ByteArray := method_22_code
def yL_rateOf : MethodName := ⟨RL, "rateOf", "(LMeshBiller;I[J)I"⟩
abbrev cL_legOf : ByteArray := method_23_code
def yL_legOf : MethodName := ⟨RL, "legOf", "(LMeshBiller;I[J)I"⟩
abbrev cL_sliceOf : ByteArray := method_24_code
def yL_sliceOf : MethodName := ⟨RL, "sliceOf", "(LMeshBiller;I[J)I"⟩
abbrev cL_parties : ByteArray := method_25_code
def yL_parties : MethodName := ⟨RL, "parties", "(LMeshBiller;I[J)I"⟩
abbrev cL_stateOf : ByteArray := method_26_code
def yL_stateOf : MethodName := ⟨RL, "stateOf", "(LMeshBiller;I[J)I"⟩
abbrev cL_seconds : ByteArray := method_27_code
def yL_seconds : MethodName := ⟨RL, "seconds", "(LMeshBiller;I[J)I"⟩
abbrev cL_charged : ByteArray := method_28_code
def yL_charged : MethodName := ⟨RL, "charged", "(LMeshBiller;I[J)I"⟩
abbrev cL_covered : ByteArray := method_29_code
def yL_covered : MethodName := ⟨RL, "covered", "(LMeshBiller;I[J)I"⟩
abbrev cL_ratedByEvents : ByteArray := method_30_code
def yL_ratedByEvents : MethodName := ⟨RL, "ratedByEvents", "(LMeshBiller;I[J)I"⟩
abbrev cL_tag : ByteArray := method_31_code
def yL_tag : MethodName := ⟨RL, "tag", "(LMeshBiller;I[J)I"⟩
abbrev cL_seal : ByteArray := method_32_code
def yL_seal : MethodName := ⟨RL, "seal", "(LMeshBiller;I[J)I"⟩
abbrev cL_stamp : ByteArray := method_33_code
def yL_stamp : MethodName := ⟨RL, "stamp", "(LMeshBiller;I[J)I"⟩
abbrev cL_lineAt : ByteArray := method_34_code
def yL_lineAt : MethodName := ⟨RL, "lineAt", "(LMeshBiller;II[J)I"⟩
abbrev cL_law : ByteArray := code
def yL_law : MethodName := ⟨RL, "law", "([I)Z"⟩
abbrev vwCl : List vw_C := [(RJ0, TJ0, 4), (RJ4, TJ4, 4), (RJx4a65c, TJx4a65c, 3), (RX0, TX0, 4), (RX1, TX1, 3), (RX2, TX2, 4), (RX3, TX3, 3), (RX4, TX4, 12), (RX5, TX5, 7), (RX6, TX6, 2), (RX7, TX7, 2), (RX8, TX8, 3), (RX9, TX9, 4), (RX10, TX10, 3), (RX11, TX11, 9), (RX12, TX12, 40)]
end
section
theorem dX0_init_0 : decode cX0_init 0 = .ok (.aload_n 0, 1) := by decide +kernel
theorem dX0_init_1 : decode cX0_init 1 = .ok (.invokespecial 1, 3) := by decide +kernel
theorem dX0_init_4 : decode cX0_init 4 = .ok (.aload_n 0, 1) := by decide +kernel
theorem dX0_init_5 : decode cX0_init 5 = .ok (.iload_n 1, 1) := by decide +kernel
theorem dX0_init_6 : decode cX0_init 6 = .ok (.putfield 7, 3) := by decide +kernel
theorem dX0_init_9 : decode cX0_init 9 = .ok (.aload_n 0, 1) := by decide +kernel
theorem dX0_init_10 : decode cX0_init 10 = .ok (.iload_n 2, 1) := by decide +kernel
theorem dX0_init_11 : decode cX0_init 11 = .ok (.putfield 13, 3) := by decide +kernel
theorem dX0_init_14 : decode cX0_init 14 = .ok (.aload_n 0, 1) := by decide +kernel
theorem dX0_init_15 : decode cX0_init 15 = .ok (.iload_n 3, 1) := by decide +kernel
theorem dX0_init_16 : decode cX0_init 16 = .ok (.putfield 16, 3) := by decide +kernel
theorem dX0_init_19 : decode cX0_init 19 = .ok (.aload_n 0, 1) := by decide +kernel
theorem dX0_init_20 : decode cX0_init 20 = .ok (.iload 4, 2) := by decide +kernel
theorem dX0_init_22 : decode cX0_init 22 = .ok (.putfield 19, 3) := by decide +kernel
theorem dX0_init_25 : decode cX0_init 25 = .ok (.return_, 1) := by decide +kernel
theorem dX0_isFor_0 : decode cX0_isFor 0 = .ok (.aload_n 0, 1) := by decide +kernel
theorem dX0_isFor_1 : decode cX0_isFor 1 = .ok (.getfield 7, 3) := by decide +kernel
theorem dX0_isFor_4 : decode cX0_isFor 4 = .ok (.aload_n 1, 1) := by decide +kernel
theorem dX0_isFor_5 : decode cX0_isFor 5 = .ok (.getfield 22, 3) := by decide +kernel
theorem dX0_isFor_8 : decode cX0_isFor 8 = .ok (.ishr, 1) := by decide +kernel
theorem dX0_isFor_9 : decode cX0_isFor 9 = .ok (.iconst 1, 1) := by decide +kernel
theorem dX0_isFor_10 : decode cX0_isFor 10 = .ok (.iand, 1) := by decide +kernel
theorem dX0_isFor_11 : decode cX0_isFor 11 = .ok (.iconst 1, 1) := by decide +kernel
theorem dX0_isFor_12 : decode cX0_isFor 12 = .ok (.if_icmp .ne 7, 3) := by decide +kernel
theorem dX0_isFor_15 : decode cX0_isFor 15 = .ok (.iconst 1, 1) := by decide +kernel
theorem dX0_isFor_16 : decode cX0_isFor 16 = .ok (.goto 4, 3) := by decide +kernel
theorem dX0_isFor_19 : decode cX0_isFor 19 = .ok (.iconst 0, 1) := by decide +kernel
theorem dX0_isFor_20 : decode cX0_isFor 20 = .ok (.ireturn, 1) := by decide +kernel
theorem dX0_isOver_0 : decode cX0_isOver 0 = .ok (.iload_n 1, 1) := by decide +kernel
theorem dX0_isOver_1 : decode cX0_isOver 1 = .ok (.aload_n 0, 1) := by decide +kernel
theorem dX0_isOver_2 : decode cX0_isOver 2 = .ok (.getfield 16, 3) := by decide +kernel
theorem dX0_isOver_5 : decode cX0_isOver 5 = .ok (.if_icmp .lt 7, 3) := by decide +kernel
theorem dX0_isOver_8 : decode cX0_isOver 8 = .ok (.iconst 1, 1) := by decide +kernel
theorem dX0_isOver_9 : decode cX0_isOver 9 = .ok (.goto 4, 3) := by decide +kernel
theorem dX0_isOver_12 : decode cX0_isOver 12 = .ok (.iconst 0, 1) := by decide +kernel
theorem dX0_isOver_13 : decode cX0_isOver 13 = .ok (.ireturn, 1) := by decide +kernel
theorem dX0_isUsedAhead_0 : decode cX0_isUsedAhead 0 = .ok (.aload_n 0, 1) := by decide +kernel
theorem dX0_isUsedAhead_1 : decode cX0_isUsedAhead 1 = .ok (.getfield 19, 3) := by decide +kernel
theorem dX0_isUsedAhead_4 : decode cX0_isUsedAhead 4 = .ok (.aload_n 1, 1) := by decide +kernel
theorem dX0_isUsedAhead_5 : decode cX0_isUsedAhead 5 = .ok (.getfield 19, 3) := by decide +kernel
theorem dX0_isUsedAhead_8 : decode cX0_isUsedAhead 8 = .ok (.if_icmp .lt 25, 3) := by decide +kernel
theorem dX0_isUsedAhead_11 : decode cX0_isUsedAhead 11 = .ok (.aload_n 0, 1) := by decide +kernel
theorem dX0_isUsedAhead_12 : decode cX0_isUsedAhead 12 = .ok (.getfield 19, 3) := by decide +kernel
theorem dX0_isUsedAhead_15 : decode cX0_isUsedAhead 15 = .ok (.aload_n 1, 1) := by decide +kernel
theorem dX0_isUsedAhead_16 : decode cX0_isUsedAhead 16 = .ok (.getfield 19, 3) := by decide +kernel
theorem dX0_isUsedAhead_19 : decode cX0_isUsedAhead 19 = .ok (.if_icmp .ne 18, 3) := by decide +kernel
theorem dX0_isUsedAhead_22 : decode cX0_isUsedAhead 22 = .ok (.aload_n 0, 1) := by decide +kernel
theorem dX0_isUsedAhead_23 : decode cX0_isUsedAhead 23 = .ok (.getfield 16, 3) := by decide +kernel
theorem dX0_isUsedAhead_26 : decode cX0_isUsedAhead 26 = .ok (.aload_n 1, 1) := by decide +kernel
theorem dX0_isUsedAhead_27 : decode cX0_isUsedAhead 27 = .ok (.getfield 16, 3) := by decide +kernel
theorem dX0_isUsedAhead_30 : decode cX0_isUsedAhead 30 = .ok (.if_icmp .ge 7, 3) := by decide +kernel
theorem dX0_isUsedAhead_33 : decode cX0_isUsedAhead 33 = .ok (.iconst 1, 1) := by decide +kernel
theorem dX0_isUsedAhead_34 : decode cX0_isUsedAhead 34 = .ok (.goto 4, 3) := by decide +kernel
theorem dX0_isUsedAhead_37 : decode cX0_isUsedAhead 37 = .ok (.iconst 0, 1) := by decide +kernel
theorem dX0_isUsedAhead_38 : decode cX0_isUsedAhead 38 = .ok (.ireturn, 1) := by decide +kernel
theorem dX1_init_0 : decode cX1_init 0 = .ok (.aload_n 0, 1) := by decide +kernel
theorem dX1_init_1 : decode cX1_init 1 = .ok (.invokespecial 3, 3) := by decide +kernel
theorem dX1_init_4 : decode cX1_init 4 = .ok (.aload_n 0, 1) := by decide +kernel
theorem dX1_init_5 : decode cX1_init 5 = .ok (.new 9, 3) := by decide +kernel
theorem dX1_init_8 : decode cX1_init 8 = .ok (.dup, 1) := by decide +kernel
theorem dX1_init_9 : decode cX1_init 9 = .ok (.invokespecial 11, 3) := by decide +kernel
theorem dX1_init_12 : decode cX1_init 12 = .ok (.putfield 12, 3) := by decide +kernel
theorem dX1_init_15 : decode cX1_init 15 = .ok (.aload_n 0, 1) := by decide +kernel
theorem dX1_init_16 : decode cX1_init 16 = .ok (.iload_n 1, 1) := by decide +kernel
theorem dX1_init_17 : decode cX1_init 17 = .ok (.putfield 18, 3) := by decide +kernel
theorem dX1_init_20 : decode cX1_init 20 = .ok (.aload_n 0, 1) := by decide +kernel
theorem dX1_init_21 : decode cX1_init 21 = .ok (.aload_n 2, 1) := by decide +kernel
theorem dX1_init_22 : decode cX1_init 22 = .ok (.putfield 22, 3) := by decide +kernel
theorem dX1_init_25 : decode cX1_init 25 = .ok (.return_, 1) := by decide +kernel
theorem dX1_countParties_0 : decode cX1_countParties 0 = .ok (.iconst 0, 1) := by decide +kernel
theorem dX1_countParties_1 : decode cX1_countParties 1 = .ok (.istore_n 1, 1) := by decide +kernel
theorem dX1_countParties_2 : decode cX1_countParties 2 = .ok (.iconst 0, 1) := by decide +kernel
theorem dX1_countParties_3 : decode cX1_countParties 3 = .ok (.istore_n 2, 1) := by decide +kernel
theorem dX1_countParties_4 : decode cX1_countParties 4 = .ok (.iload_n 2, 1) := by decide +kernel
theorem dX1_countParties_5 : decode cX1_countParties 5 = .ok (.aload_n 0, 1) := by decide +kernel
theorem dX1_countParties_6 : decode cX1_countParties 6 = .ok (.getfield 12, 3) := by decide +kernel
theorem dX1_countParties_9 : decode cX1_countParties 9 = .ok (.invokevirtual 26, 3) := by decide +kernel
theorem dX1_countParties_12 : decode cX1_countParties 12 = .ok (.if_icmp .ge 29, 3) := by decide +kernel
theorem dX1_countParties_15 : decode cX1_countParties 15 = .ok (.aload_n 0, 1) := by decide +kernel
theorem dX1_countParties_16 : decode cX1_countParties 16 = .ok (.getfield 12, 3) := by decide +kernel
theorem dX1_countParties_19 : decode cX1_countParties 19 = .ok (.iload_n 2, 1) := by decide +kernel
theorem dX1_countParties_20 : decode cX1_countParties 20 = .ok (.invokevirtual 30, 3) := by decide +kernel
theorem dX1_countParties_23 : decode cX1_countParties 23 = .ok (.checkcast 34, 3) := by decide +kernel
theorem dX1_countParties_26 : decode cX1_countParties 26 = .ok (.getfield 36, 3) := by decide +kernel
theorem dX1_countParties_29 : decode cX1_countParties 29 = .ok (.ifCond .ne 6, 3) := by decide +kernel
theorem dX1_countParties_32 : decode cX1_countParties 32 = .ok (.iinc 1 1, 3) := by decide +kernel
theorem dX1_countParties_35 : decode cX1_countParties 35 = .ok (.iinc 2 1, 3) := by decide +kernel
theorem dX1_countParties_38 : decode cX1_countParties 38 = .ok (.goto (-34), 3) := by decide +kernel
theorem dX1_countParties_41 : decode cX1_countParties 41 = .ok (.iload_n 1, 1) := by decide +kernel
theorem dX1_countParties_42 : decode cX1_countParties 42 = .ok (.ireturn, 1) := by decide +kernel
theorem dX1_findOnlyParty_0 : decode cX1_findOnlyParty 0 = .ok (.aconst_null, 1) := by decide +kernel
theorem dX1_findOnlyParty_1 : decode cX1_findOnlyParty 1 = .ok (.astore_n 1, 1) := by decide +kernel
theorem dX1_findOnlyParty_2 : decode cX1_findOnlyParty 2 = .ok (.iconst 0, 1) := by decide +kernel
theorem dX1_findOnlyParty_3 : decode cX1_findOnlyParty 3 = .ok (.istore_n 2, 1) := by decide +kernel
theorem dX1_findOnlyParty_4 : decode cX1_findOnlyParty 4 = .ok (.iload_n 2, 1) := by decide +kernel
theorem dX1_findOnlyParty_5 : decode cX1_findOnlyParty 5 = .ok (.aload_n 0, 1) := by decide +kernel
theorem dX1_findOnlyParty_6 : decode cX1_findOnlyParty 6 = .ok (.getfield 12, 3) := by decide +kernel
theorem dX1_findOnlyParty_9 : decode cX1_findOnlyParty 9 = .ok (.invokevirtual 26, 3) := by decide +kernel
theorem dX1_findOnlyParty_12 : decode cX1_findOnlyParty 12 = .ok (.if_icmp .ge 36, 3) := by decide +kernel
theorem dX1_findOnlyParty_15 : decode cX1_findOnlyParty 15 = .ok (.aload_n 0, 1) := by decide +kernel
theorem dX1_findOnlyParty_16 : decode cX1_findOnlyParty 16 = .ok (.getfield 12, 3) := by decide +kernel
theorem dX1_findOnlyParty_19 : decode cX1_findOnlyParty 19 = .ok (.iload_n 2, 1) := by decide +kernel
theorem dX1_findOnlyParty_20 : decode cX1_findOnlyParty 20 = .ok (.invokevirtual 30, 3) := by decide +kernel
theorem dX1_findOnlyParty_23 : decode cX1_findOnlyParty 23 = .ok (.checkcast 34, 3) := by decide +kernel
theorem dX1_findOnlyParty_26 : decode cX1_findOnlyParty 26 = .ok (.astore_n 3, 1) := by decide +kernel
theorem dX1_findOnlyParty_27 : decode cX1_findOnlyParty 27 = .ok (.aload_n 3, 1) := by decide +kernel
theorem dX1_findOnlyParty_28 : decode cX1_findOnlyParty 28 = .ok (.getfield 36, 3) := by decide +kernel
theorem dX1_findOnlyParty_31 : decode cX1_findOnlyParty 31 = .ok (.ifCond .ne 11, 3) := by decide +kernel
theorem dX1_findOnlyParty_34 : decode cX1_findOnlyParty 34 = .ok (.aload_n 1, 1) := by decide +kernel
theorem dX1_findOnlyParty_35 : decode cX1_findOnlyParty 35 = .ok (.ifnull 5, 3) := by decide +kernel
theorem dX1_findOnlyParty_38 : decode cX1_findOnlyParty 38 = .ok (.aconst_null, 1) := by decide +kernel
theorem dX1_findOnlyParty_39 : decode cX1_findOnlyParty 39 = .ok (.areturn, 1) := by decide +kernel
theorem dX1_findOnlyParty_40 : decode cX1_findOnlyParty 40 = .ok (.aload_n 3, 1) := by decide +kernel
theorem dX1_findOnlyParty_41 : decode cX1_findOnlyParty 41 = .ok (.astore_n 1, 1) := by decide +kernel
theorem dX1_findOnlyParty_42 : decode cX1_findOnlyParty 42 = .ok (.iinc 2 1, 3) := by decide +kernel
theorem dX1_findOnlyParty_45 : decode cX1_findOnlyParty 45 = .ok (.goto (-41), 3) := by decide +kernel
theorem dX1_findOnlyParty_48 : decode cX1_findOnlyParty 48 = .ok (.aload_n 1, 1) := by decide +kernel
theorem dX1_findOnlyParty_49 : decode cX1_findOnlyParty 49 = .ok (.areturn, 1) := by decide +kernel
theorem dX2_init_0 : decode cX2_init 0 = .ok (.aload_n 0, 1) := by decide +kernel
theorem dX2_init_1 : decode cX2_init 1 = .ok (.invokespecial 3, 3) := by decide +kernel
theorem dX2_init_4 : decode cX2_init 4 = .ok (.aload_n 0, 1) := by decide +kernel
theorem dX2_init_5 : decode cX2_init 5 = .ok (.iconst 3, 1) := by decide +kernel
theorem dX2_init_6 : decode cX2_init 6 = .ok (.putfield 9, 3) := by decide +kernel
theorem dX2_init_9 : decode cX2_init 9 = .ok (.aload_n 0, 1) := by decide +kernel
theorem dX2_init_10 : decode cX2_init 10 = .ok (.iconst 0, 1) := by decide +kernel
theorem dX2_init_11 : decode cX2_init 11 = .ok (.putfield 15, 3) := by decide +kernel
theorem dX2_init_14 : decode cX2_init 14 = .ok (.aload_n 0, 1) := by decide +kernel
theorem dX2_init_15 : decode cX2_init 15 = .ok (.iload_n 1, 1) := by decide +kernel
theorem dX2_init_16 : decode cX2_init 16 = .ok (.putfield 18, 3) := by decide +kernel
theorem dX2_init_19 : decode cX2_init 19 = .ok (.aload_n 0, 1) := by decide +kernel
theorem dX2_init_20 : decode cX2_init 20 = .ok (.aload_n 2, 1) := by decide +kernel
theorem dX2_init_21 : decode cX2_init 21 = .ok (.putfield 21, 3) := by decide +kernel
theorem dX2_init_24 : decode cX2_init 24 = .ok (.return_, 1) := by decide +kernel
theorem dX2_isNextTo_0 : decode cX2_isNextTo 0 = .ok (.aload_n 0, 1) := by decide +kernel
theorem dX2_isNextTo_1 : decode cX2_isNextTo 1 = .ok (.getfield 18, 3) := by decide +kernel
theorem dX2_isNextTo_4 : decode cX2_isNextTo 4 = .ok (.aload_n 1, 1) := by decide +kernel
theorem dX2_isNextTo_5 : decode cX2_isNextTo 5 = .ok (.getfield 18, 3) := by decide +kernel
theorem dX2_isNextTo_8 : decode cX2_isNextTo 8 = .ok (.isub, 1) := by decide +kernel
theorem dX2_isNextTo_9 : decode cX2_isNextTo 9 = .ok (.invokestatic 25, 3) := by decide +kernel
theorem dX2_isNextTo_12 : decode cX2_isNextTo 12 = .ok (.istore_n 2, 1) := by decide +kernel
theorem dX2_isNextTo_13 : decode cX2_isNextTo 13 = .ok (.iload_n 2, 1) := by decide +kernel
theorem dX2_isNextTo_14 : decode cX2_isNextTo 14 = .ok (.iconst 1, 1) := by decide +kernel
theorem dX2_isNextTo_15 : decode cX2_isNextTo 15 = .ok (.if_icmp .eq 9, 3) := by decide +kernel
theorem dX2_isNextTo_18 : decode cX2_isNextTo 18 = .ok (.iload_n 2, 1) := by decide +kernel
theorem dX2_isNextTo_19 : decode cX2_isNextTo 19 = .ok (.bipush 7, 2) := by decide +kernel
theorem dX2_isNextTo_21 : decode cX2_isNextTo 21 = .ok (.if_icmp .ne 7, 3) := by decide +kernel
theorem dX2_isNextTo_24 : decode cX2_isNextTo 24 = .ok (.iconst 1, 1) := by decide +kernel
theorem dX2_isNextTo_25 : decode cX2_isNextTo 25 = .ok (.goto 4, 3) := by decide +kernel
theorem dX2_isNextTo_28 : decode cX2_isNextTo 28 = .ok (.iconst 0, 1) := by decide +kernel
theorem dX2_isNextTo_29 : decode cX2_isNextTo 29 = .ok (.ireturn, 1) := by decide +kernel
theorem dX3_init_0 : decode cX3_init 0 = .ok (.aload_n 0, 1) := by decide +kernel
theorem dX3_init_1 : decode cX3_init 1 = .ok (.invokespecial 1, 3) := by decide +kernel
theorem dX3_init_4 : decode cX3_init 4 = .ok (.aload_n 0, 1) := by decide +kernel
theorem dX3_init_5 : decode cX3_init 5 = .ok (.iload_n 1, 1) := by decide +kernel
theorem dX3_init_6 : decode cX3_init 6 = .ok (.putfield 7, 3) := by decide +kernel
theorem dX3_init_9 : decode cX3_init 9 = .ok (.aload_n 0, 1) := by decide +kernel
theorem dX3_init_10 : decode cX3_init 10 = .ok (.iload_n 2, 1) := by decide +kernel
theorem dX3_init_11 : decode cX3_init 11 = .ok (.putfield 13, 3) := by decide +kernel
theorem dX3_init_14 : decode cX3_init 14 = .ok (.aload_n 0, 1) := by decide +kernel
theorem dX3_init_15 : decode cX3_init 15 = .ok (.aload_n 3, 1) := by decide +kernel
theorem dX3_init_16 : decode cX3_init 16 = .ok (.putfield 16, 3) := by decide +kernel
theorem dX3_init_19 : decode cX3_init 19 = .ok (.return_, 1) := by decide +kernel
theorem dX4_init_0 : decode cX4_init 0 = .ok (.aload_n 0, 1) := by decide +kernel
theorem dX4_init_1 : decode cX4_init 1 = .ok (.invokespecial 3, 3) := by decide +kernel
theorem dX4_init_4 : decode cX4_init 4 = .ok (.aload_n 0, 1) := by decide +kernel
theorem dX4_init_5 : decode cX4_init 5 = .ok (.new 9, 3) := by decide +kernel
theorem dX4_init_8 : decode cX4_init 8 = .ok (.dup, 1) := by decide +kernel
theorem dX4_init_9 : decode cX4_init 9 = .ok (.invokespecial 11, 3) := by decide +kernel
theorem dX4_init_12 : decode cX4_init 12 = .ok (.putfield 12, 3) := by decide +kernel
theorem dX4_init_15 : decode cX4_init 15 = .ok (.aload_n 0, 1) := by decide +kernel
theorem dX4_init_16 : decode cX4_init 16 = .ok (.new 18, 3) := by decide +kernel
theorem dX4_init_19 : decode cX4_init 19 = .ok (.dup, 1) := by decide +kernel
theorem dX4_init_20 : decode cX4_init 20 = .ok (.invokespecial 20, 3) := by decide +kernel
theorem dX4_init_23 : decode cX4_init 23 = .ok (.putfield 21, 3) := by decide +kernel
theorem dX4_init_26 : decode cX4_init 26 = .ok (.aload_n 0, 1) := by decide +kernel
theorem dX4_init_27 : decode cX4_init 27 = .ok (.iconst 0, 1) := by decide +kernel
theorem dX4_init_28 : decode cX4_init 28 = .ok (.putfield 25, 3) := by decide +kernel
theorem dX4_init_31 : decode cX4_init 31 = .ok (.aload_n 0, 1) := by decide +kernel
theorem dX4_init_32 : decode cX4_init 32 = .ok (.iconst 0, 1) := by decide +kernel
theorem dX4_init_33 : decode cX4_init 33 = .ok (.putfield 29, 3) := by decide +kernel
theorem dX4_init_36 : decode cX4_init 36 = .ok (.aload_n 0, 1) := by decide +kernel
theorem dX4_init_37 : decode cX4_init 37 = .ok (.iconst 0, 1) := by decide +kernel
theorem dX4_init_38 : decode cX4_init 38 = .ok (.putfield 32, 3) := by decide +kernel
theorem dX4_init_41 : decode cX4_init 41 = .ok (.aload_n 0, 1) := by decide +kernel
theorem dX4_init_42 : decode cX4_init 42 = .ok (.iconst 0, 1) := by decide +kernel
theorem dX4_init_43 : decode cX4_init 43 = .ok (.putfield 35, 3) := by decide +kernel
theorem dX4_init_46 : decode cX4_init 46 = .ok (.aload_n 0, 1) := by decide +kernel
theorem dX4_init_47 : decode cX4_init 47 = .ok (.iload_n 1, 1) := by decide +kernel
theorem dX4_init_48 : decode cX4_init 48 = .ok (.putfield 38, 3) := by decide +kernel
theorem dX4_init_51 : decode cX4_init 51 = .ok (.aload_n 0, 1) := by decide +kernel
theorem dX4_init_52 : decode cX4_init 52 = .ok (.aload_n 2, 1) := by decide +kernel
theorem dX4_init_53 : decode cX4_init 53 = .ok (.putfield 41, 3) := by decide +kernel
theorem dX4_init_56 : decode cX4_init 56 = .ok (.aload_n 0, 1) := by decide +kernel
theorem dX4_init_57 : decode cX4_init 57 = .ok (.aload_n 3, 1) := by decide +kernel
theorem dX4_init_58 : decode cX4_init 58 = .ok (.putfield 45, 3) := by decide +kernel
theorem dX4_init_61 : decode cX4_init 61 = .ok (.aload_n 0, 1) := by decide +kernel
theorem dX4_init_62 : decode cX4_init 62 = .ok (.aload 4, 2) := by decide +kernel
theorem dX4_init_64 : decode cX4_init 64 = .ok (.putfield 49, 3) := by decide +kernel
theorem dX4_init_67 : decode cX4_init 67 = .ok (.aload_n 0, 1) := by decide +kernel
theorem dX4_init_68 : decode cX4_init 68 = .ok (.iload 5, 2) := by decide +kernel
theorem dX4_init_70 : decode cX4_init 70 = .ok (.putfield 53, 3) := by decide +kernel
theorem dX4_init_73 : decode cX4_init 73 = .ok (.aload_n 0, 1) := by decide +kernel
theorem dX4_init_74 : decode cX4_init 74 = .ok (.aload_n 2, 1) := by decide +kernel
theorem dX4_init_75 : decode cX4_init 75 = .ok (.getfield 56, 3) := by decide +kernel
theorem dX4_init_78 : decode cX4_init 78 = .ok (.i2b, 1) := by decide +kernel
theorem dX4_init_79 : decode cX4_init 79 = .ok (.putfield 59, 3) := by decide +kernel
theorem dX4_init_82 : decode cX4_init 82 = .ok (.return_, 1) := by decide +kernel
theorem dX4_keepEvent_0 : decode cX4_keepEvent 0 = .ok (.aload_n 0, 1) := by decide +kernel
theorem dX4_keepEvent_1 : decode cX4_keepEvent 1 = .ok (.getfield 21, 3) := by decide +kernel
theorem dX4_keepEvent_4 : decode cX4_keepEvent 4 = .ok (.invokevirtual 63, 3) := by decide +kernel
theorem dX4_keepEvent_7 : decode cX4_keepEvent 7 = .ok (.sipush 600, 3) := by decide +kernel
theorem dX4_keepEvent_10 : decode cX4_keepEvent 10 = .ok (.if_icmp .ge 21, 3) := by decide +kernel
theorem dX4_keepEvent_13 : decode cX4_keepEvent 13 = .ok (.aload_n 0, 1) := by decide +kernel
theorem dX4_keepEvent_14 : decode cX4_keepEvent 14 = .ok (.getfield 21, 3) := by decide +kernel
theorem dX4_keepEvent_17 : decode cX4_keepEvent 17 = .ok (.new 67, 3) := by decide +kernel
theorem dX4_keepEvent_20 : decode cX4_keepEvent 20 = .ok (.dup, 1) := by decide +kernel
theorem dX4_keepEvent_21 : decode cX4_keepEvent 21 = .ok (.iload_n 1, 1) := by decide +kernel
theorem dX4_keepEvent_22 : decode cX4_keepEvent 22 = .ok (.iload_n 2, 1) := by decide +kernel
theorem dX4_keepEvent_23 : decode cX4_keepEvent 23 = .ok (.aload_n 3, 1) := by decide +kernel
theorem dX4_keepEvent_24 : decode cX4_keepEvent 24 = .ok (.invokespecial 69, 3) := by decide +kernel
theorem dX4_keepEvent_27 : decode cX4_keepEvent 27 = .ok (.invokevirtual 72, 3) := by decide +kernel
theorem dX4_keepEvent_30 : decode cX4_keepEvent 30 = .ok (.pop, 1) := by decide +kernel
theorem dX4_keepEvent_31 : decode cX4_keepEvent 31 = .ok (.return_, 1) := by decide +kernel
theorem dX4_firstUnratedSecond_0 : decode cX4_firstUnratedSecond 0 = .ok (.aload_n 0, 1) := by decide +kernel
theorem dX4_firstUnratedSecond_1 : decode cX4_firstUnratedSecond 1 = .ok (.getfield 53, 3) := by decide +kernel
theorem dX4_firstUnratedSecond_4 : decode cX4_firstUnratedSecond 4 = .ok (.aload_n 0, 1) := by decide +kernel
theorem dX4_firstUnratedSecond_5 : decode cX4_firstUnratedSecond 5 = .ok (.getfield 29, 3) := by decide +kernel
theorem dX4_firstUnratedSecond_8 : decode cX4_firstUnratedSecond 8 = .ok (.iadd, 1) := by decide +kernel
theorem dX4_firstUnratedSecond_9 : decode cX4_firstUnratedSecond 9 = .ok (.ireturn, 1) := by decide +kernel
theorem dX4_useSecond_0 : decode cX4_useSecond 0 = .ok (.aload_n 0, 1) := by decide +kernel
theorem dX4_useSecond_1 : decode cX4_useSecond 1 = .ok (.getfield 12, 3) := by decide +kernel
theorem dX4_useSecond_4 : decode cX4_useSecond 4 = .ok (.dup, 1) := by decide +kernel
theorem dX4_useSecond_5 : decode cX4_useSecond 5 = .ok (.getfield 76, 3) := by decide +kernel
theorem dX4_useSecond_8 : decode cX4_useSecond 8 = .ok (.iconst 1, 1) := by decide +kernel
theorem dX4_useSecond_9 : decode cX4_useSecond 9 = .ok (.isub, 1) := by decide +kernel
theorem dX4_useSecond_10 : decode cX4_useSecond 10 = .ok (.putfield 76, 3) := by decide +kernel
theorem dX4_useSecond_13 : decode cX4_useSecond 13 = .ok (.aload_n 0, 1) := by decide +kernel
theorem dX4_useSecond_14 : decode cX4_useSecond 14 = .ok (.dup, 1) := by decide +kernel
theorem dX4_useSecond_15 : decode cX4_useSecond 15 = .ok (.getfield 29, 3) := by decide +kernel
theorem dX4_useSecond_18 : decode cX4_useSecond 18 = .ok (.iconst 1, 1) := by decide +kernel
theorem dX4_useSecond_19 : decode cX4_useSecond 19 = .ok (.iadd, 1) := by decide +kernel
theorem dX4_useSecond_20 : decode cX4_useSecond 20 = .ok (.putfield 29, 3) := by decide +kernel
theorem dX4_useSecond_23 : decode cX4_useSecond 23 = .ok (.aload_n 0, 1) := by decide +kernel
theorem dX4_useSecond_24 : decode cX4_useSecond 24 = .ok (.getfield 12, 3) := by decide +kernel
theorem dX4_useSecond_27 : decode cX4_useSecond 27 = .ok (.getfield 79, 3) := by decide +kernel
theorem dX4_useSecond_30 : decode cX4_useSecond 30 = .ok (.ifnonnull 38, 3) := by decide +kernel
theorem dX4_useSecond_33 : decode cX4_useSecond 33 = .ok (.aload_n 0, 1) := by decide +kernel
theorem dX4_useSecond_34 : decode cX4_useSecond 34 = .ok (.dup, 1) := by decide +kernel
theorem dX4_useSecond_35 : decode cX4_useSecond 35 = .ok (.getfield 32, 3) := by decide +kernel
theorem dX4_useSecond_38 : decode cX4_useSecond 38 = .ok (.iload_n 1, 1) := by decide +kernel
theorem dX4_useSecond_39 : decode cX4_useSecond 39 = .ok (.iadd, 1) := by decide +kernel
theorem dX4_useSecond_40 : decode cX4_useSecond 40 = .ok (.putfield 32, 3) := by decide +kernel
theorem dX4_useSecond_43 : decode cX4_useSecond 43 = .ok (.aload_n 0, 1) := by decide +kernel
theorem dX4_useSecond_44 : decode cX4_useSecond 44 = .ok (.getfield 49, 3) := by decide +kernel
theorem dX4_useSecond_47 : decode cX4_useSecond 47 = .ok (.dup, 1) := by decide +kernel
theorem dX4_useSecond_48 : decode cX4_useSecond 48 = .ok (.getfield 83, 3) := by decide +kernel
theorem dX4_useSecond_51 : decode cX4_useSecond 51 = .ok (.iload_n 1, 1) := by decide +kernel
theorem dX4_useSecond_52 : decode cX4_useSecond 52 = .ok (.iadd, 1) := by decide +kernel
theorem dX4_useSecond_53 : decode cX4_useSecond 53 = .ok (.putfield 83, 3) := by decide +kernel
theorem dX4_useSecond_56 : decode cX4_useSecond 56 = .ok (.aload_n 0, 1) := by decide +kernel
theorem dX4_useSecond_57 : decode cX4_useSecond 57 = .ok (.getfield 41, 3) := by decide +kernel
theorem dX4_useSecond_60 : decode cX4_useSecond 60 = .ok (.iload_n 1, 1) := by decide +kernel
theorem dX4_useSecond_61 : decode cX4_useSecond 61 = .ok (.iload_n 2, 1) := by decide +kernel
theorem dX4_useSecond_62 : decode cX4_useSecond 62 = .ok (.invokevirtual 88, 3) := by decide +kernel
theorem dX4_useSecond_65 : decode cX4_useSecond 65 = .ok (.goto 13, 3) := by decide +kernel
theorem dX4_useSecond_68 : decode cX4_useSecond 68 = .ok (.aload_n 0, 1) := by decide +kernel
theorem dX4_useSecond_69 : decode cX4_useSecond 69 = .ok (.dup, 1) := by decide +kernel
theorem dX4_useSecond_70 : decode cX4_useSecond 70 = .ok (.getfield 35, 3) := by decide +kernel
theorem dX4_useSecond_73 : decode cX4_useSecond 73 = .ok (.iload_n 1, 1) := by decide +kernel
theorem dX4_useSecond_74 : decode cX4_useSecond 74 = .ok (.iadd, 1) := by decide +kernel
theorem dX4_useSecond_75 : decode cX4_useSecond 75 = .ok (.putfield 35, 3) := by decide +kernel
theorem dX4_useSecond_78 : decode cX4_useSecond 78 = .ok (.aload_n 0, 1) := by decide +kernel
theorem dX4_useSecond_79 : decode cX4_useSecond 79 = .ok (.iconst 3, 1) := by decide +kernel
theorem dX4_useSecond_80 : decode cX4_useSecond 80 = .ok (.aload_n 0, 1) := by decide +kernel
theorem dX4_useSecond_81 : decode cX4_useSecond 81 = .ok (.getfield 59, 3) := by decide +kernel
theorem dX4_useSecond_84 : decode cX4_useSecond 84 = .ok (.imul, 1) := by decide +kernel
theorem dX4_useSecond_85 : decode cX4_useSecond 85 = .ok (.iload_n 1, 1) := by decide +kernel
theorem dX4_useSecond_86 : decode cX4_useSecond 86 = .ok (.iadd, 1) := by decide +kernel
theorem dX4_useSecond_87 : decode cX4_useSecond 87 = .ok (.i2b, 1) := by decide +kernel
theorem dX4_useSecond_88 : decode cX4_useSecond 88 = .ok (.putfield 59, 3) := by decide +kernel
theorem dX4_useSecond_91 : decode cX4_useSecond 91 = .ok (.return_, 1) := by decide +kernel
theorem dX4_computeSeal_0 : decode cX4_computeSeal 0 = .ok (.aload_n 0, 1) := by decide +kernel
theorem dX4_computeSeal_1 : decode cX4_computeSeal 1 = .ok (.getfield 41, 3) := by decide +kernel
theorem dX4_computeSeal_4 : decode cX4_computeSeal 4 = .ok (.getfield 56, 3) := by decide +kernel
theorem dX4_computeSeal_7 : decode cX4_computeSeal 7 = .ok (.istore_n 1, 1) := by decide +kernel
theorem dX4_computeSeal_8 : decode cX4_computeSeal 8 = .ok (.iconst 0, 1) := by decide +kernel
theorem dX4_computeSeal_9 : decode cX4_computeSeal 9 = .ok (.istore_n 2, 1) := by decide +kernel
theorem dX4_computeSeal_10 : decode cX4_computeSeal 10 = .ok (.iload_n 2, 1) := by decide +kernel
theorem dX4_computeSeal_11 : decode cX4_computeSeal 11 = .ok (.aload_n 0, 1) := by decide +kernel
theorem dX4_computeSeal_12 : decode cX4_computeSeal 12 = .ok (.getfield 21, 3) := by decide +kernel
theorem dX4_computeSeal_15 : decode cX4_computeSeal 15 = .ok (.invokevirtual 63, 3) := by decide +kernel
theorem dX4_computeSeal_18 : decode cX4_computeSeal 18 = .ok (.if_icmp .ge 58, 3) := by decide +kernel
theorem dX4_computeSeal_21 : decode cX4_computeSeal 21 = .ok (.aload_n 0, 1) := by decide +kernel
theorem dX4_computeSeal_22 : decode cX4_computeSeal 22 = .ok (.getfield 21, 3) := by decide +kernel
theorem dX4_computeSeal_25 : decode cX4_computeSeal 25 = .ok (.iload_n 2, 1) := by decide +kernel
theorem dX4_computeSeal_26 : decode cX4_computeSeal 26 = .ok (.invokevirtual 92, 3) := by decide +kernel
theorem dX4_computeSeal_29 : decode cX4_computeSeal 29 = .ok (.checkcast 67, 3) := by decide +kernel
theorem dX4_computeSeal_32 : decode cX4_computeSeal 32 = .ok (.astore_n 3, 1) := by decide +kernel
theorem dX4_computeSeal_33 : decode cX4_computeSeal 33 = .ok (.iload_n 1, 1) := by decide +kernel
theorem dX4_computeSeal_34 : decode cX4_computeSeal 34 = .ok (.iconst 5, 1) := by decide +kernel
theorem dX4_computeSeal_35 : decode cX4_computeSeal 35 = .ok (.ishl, 1) := by decide +kernel
theorem dX4_computeSeal_36 : decode cX4_computeSeal 36 = .ok (.iload_n 1, 1) := by decide +kernel
theorem dX4_computeSeal_37 : decode cX4_computeSeal 37 = .ok (.bipush 27, 2) := by decide +kernel
theorem dX4_computeSeal_39 : decode cX4_computeSeal 39 = .ok (.iushr, 1) := by decide +kernel
theorem dX4_computeSeal_40 : decode cX4_computeSeal 40 = .ok (.ior, 1) := by decide +kernel
theorem dX4_computeSeal_41 : decode cX4_computeSeal 41 = .ok (.istore_n 1, 1) := by decide +kernel
theorem dX4_computeSeal_42 : decode cX4_computeSeal 42 = .ok (.iload_n 1, 1) := by decide +kernel
theorem dX4_computeSeal_43 : decode cX4_computeSeal 43 = .ok (.bipush 31, 2) := by decide +kernel
theorem dX4_computeSeal_45 : decode cX4_computeSeal 45 = .ok (.aload_n 3, 1) := by decide +kernel
theorem dX4_computeSeal_46 : decode cX4_computeSeal 46 = .ok (.getfield 96, 3) := by decide +kernel
theorem dX4_computeSeal_49 : decode cX4_computeSeal 49 = .ok (.imul, 1) := by decide +kernel
theorem dX4_computeSeal_50 : decode cX4_computeSeal 50 = .ok (.iadd, 1) := by decide +kernel
theorem dX4_computeSeal_51 : decode cX4_computeSeal 51 = .ok (.istore_n 1, 1) := by decide +kernel
theorem dX4_computeSeal_52 : decode cX4_computeSeal 52 = .ok (.iload_n 1, 1) := by decide +kernel
theorem dX4_computeSeal_53 : decode cX4_computeSeal 53 = .ok (.bipush 8, 2) := by decide +kernel
theorem dX4_computeSeal_55 : decode cX4_computeSeal 55 = .ok (.aload_n 3, 1) := by decide +kernel
theorem dX4_computeSeal_56 : decode cX4_computeSeal 56 = .ok (.getfield 99, 3) := by decide +kernel
theorem dX4_computeSeal_59 : decode cX4_computeSeal 59 = .ok (.imul, 1) := by decide +kernel
theorem dX4_computeSeal_60 : decode cX4_computeSeal 60 = .ok (.aload_n 3, 1) := by decide +kernel
theorem dX4_computeSeal_61 : decode cX4_computeSeal 61 = .ok (.getfield 102, 3) := by decide +kernel
theorem dX4_computeSeal_64 : decode cX4_computeSeal 64 = .ok (.getfield 106, 3) := by decide +kernel
theorem dX4_computeSeal_67 : decode cX4_computeSeal 67 = .ok (.iadd, 1) := by decide +kernel
theorem dX4_computeSeal_68 : decode cX4_computeSeal 68 = .ok (.ixor, 1) := by decide +kernel
theorem dX4_computeSeal_69 : decode cX4_computeSeal 69 = .ok (.istore_n 1, 1) := by decide +kernel
theorem dX4_computeSeal_70 : decode cX4_computeSeal 70 = .ok (.iinc 2 1, 3) := by decide +kernel
theorem dX4_computeSeal_73 : decode cX4_computeSeal 73 = .ok (.goto (-63), 3) := by decide +kernel
theorem dX4_computeSeal_76 : decode cX4_computeSeal 76 = .ok (.iload_n 1, 1) := by decide +kernel
theorem dX4_computeSeal_77 : decode cX4_computeSeal 77 = .ok (.iload_n 1, 1) := by decide +kernel
theorem dX4_computeSeal_78 : decode cX4_computeSeal 78 = .ok (.bipush 16, 2) := by decide +kernel
theorem dX4_computeSeal_80 : decode cX4_computeSeal 80 = .ok (.iushr, 1) := by decide +kernel
theorem dX4_computeSeal_81 : decode cX4_computeSeal 81 = .ok (.ixor, 1) := by decide +kernel
theorem dX4_computeSeal_82 : decode cX4_computeSeal 82 = .ok (.ireturn, 1) := by decide +kernel
theorem dX5_init_0 : decode cX5_init 0 = .ok (.aload_n 0, 1) := by decide +kernel
theorem dX5_init_1 : decode cX5_init 1 = .ok (.invokespecial 3, 3) := by decide +kernel
theorem dX5_init_4 : decode cX5_init 4 = .ok (.aload_n 0, 1) := by decide +kernel
theorem dX5_init_5 : decode cX5_init 5 = .ok (.iconst (-1), 1) := by decide +kernel
theorem dX5_init_6 : decode cX5_init 6 = .ok (.putfield 9, 3) := by decide +kernel
theorem dX5_init_9 : decode cX5_init 9 = .ok (.aload_n 0, 1) := by decide +kernel
theorem dX5_init_10 : decode cX5_init 10 = .ok (.aconst_null, 1) := by decide +kernel
theorem dX5_init_11 : decode cX5_init 11 = .ok (.putfield 15, 3) := by decide +kernel
theorem dX5_init_14 : decode cX5_init 14 = .ok (.aload_n 0, 1) := by decide +kernel
theorem dX5_init_15 : decode cX5_init 15 = .ok (.iconst 0, 1) := by decide +kernel
theorem dX5_init_16 : decode cX5_init 16 = .ok (.putfield 19, 3) := by decide +kernel
theorem dX5_init_19 : decode cX5_init 19 = .ok (.aload_n 0, 1) := by decide +kernel
theorem dX5_init_20 : decode cX5_init 20 = .ok (.iconst 0, 1) := by decide +kernel
theorem dX5_init_21 : decode cX5_init 21 = .ok (.putfield 22, 3) := by decide +kernel
theorem dX5_init_24 : decode cX5_init 24 = .ok (.aload_n 0, 1) := by decide +kernel
theorem dX5_init_25 : decode cX5_init 25 = .ok (.iload_n 1, 1) := by decide +kernel
theorem dX5_init_26 : decode cX5_init 26 = .ok (.putfield 25, 3) := by decide +kernel
theorem dX5_init_29 : decode cX5_init 29 = .ok (.aload_n 0, 1) := by decide +kernel
theorem dX5_init_30 : decode cX5_init 30 = .ok (.aload_n 2, 1) := by decide +kernel
theorem dX5_init_31 : decode cX5_init 31 = .ok (.putfield 28, 3) := by decide +kernel
theorem dX5_init_34 : decode cX5_init 34 = .ok (.aload_n 0, 1) := by decide +kernel
theorem dX5_init_35 : decode cX5_init 35 = .ok (.aload_n 3, 1) := by decide +kernel
theorem dX5_init_36 : decode cX5_init 36 = .ok (.putfield 32, 3) := by decide +kernel
theorem dX5_init_39 : decode cX5_init 39 = .ok (.return_, 1) := by decide +kernel
theorem dX5_addCost_0 : decode cX5_addCost 0 = .ok (.aload_n 0, 1) := by decide +kernel
theorem dX5_addCost_1 : decode cX5_addCost 1 = .ok (.getfield 19, 3) := by decide +kernel
theorem dX5_addCost_4 : decode cX5_addCost 4 = .ok (.iload_n 2, 1) := by decide +kernel
theorem dX5_addCost_5 : decode cX5_addCost 5 = .ok (.if_icmp .eq 13, 3) := by decide +kernel
theorem dX5_addCost_8 : decode cX5_addCost 8 = .ok (.aload_n 0, 1) := by decide +kernel
theorem dX5_addCost_9 : decode cX5_addCost 9 = .ok (.iload_n 2, 1) := by decide +kernel
theorem dX5_addCost_10 : decode cX5_addCost 10 = .ok (.putfield 19, 3) := by decide +kernel
theorem dX5_addCost_13 : decode cX5_addCost 13 = .ok (.aload_n 0, 1) := by decide +kernel
theorem dX5_addCost_14 : decode cX5_addCost 14 = .ok (.iconst 0, 1) := by decide +kernel
theorem dX5_addCost_15 : decode cX5_addCost 15 = .ok (.putfield 22, 3) := by decide +kernel
theorem dX5_addCost_18 : decode cX5_addCost 18 = .ok (.aload_n 0, 1) := by decide +kernel
theorem dX5_addCost_19 : decode cX5_addCost 19 = .ok (.dup, 1) := by decide +kernel
theorem dX5_addCost_20 : decode cX5_addCost 20 = .ok (.getfield 22, 3) := by decide +kernel
theorem dX5_addCost_23 : decode cX5_addCost 23 = .ok (.iload_n 1, 1) := by decide +kernel
theorem dX5_addCost_24 : decode cX5_addCost 24 = .ok (.iadd, 1) := by decide +kernel
theorem dX5_addCost_25 : decode cX5_addCost 25 = .ok (.putfield 22, 3) := by decide +kernel
theorem dX5_addCost_28 : decode cX5_addCost 28 = .ok (.return_, 1) := by decide +kernel
theorem dX5_mostByCap_0 : decode cX5_mostByCap 0 = .ok (.aload_n 0, 1) := by decide +kernel
theorem dX5_mostByCap_1 : decode cX5_mostByCap 1 = .ok (.getfield 9, 3) := by decide +kernel
theorem dX5_mostByCap_4 : decode cX5_mostByCap 4 = .ok (.iconst (-1), 1) := by decide +kernel
theorem dX5_mostByCap_5 : decode cX5_mostByCap 5 = .ok (.if_icmp .ne 6, 3) := by decide +kernel
theorem dX5_mostByCap_8 : decode cX5_mostByCap 8 = .ok (.ldc 36, 2) := by decide +kernel
theorem dX5_mostByCap_10 : decode cX5_mostByCap 10 = .ok (.ireturn, 1) := by decide +kernel
theorem dX5_mostByCap_11 : decode cX5_mostByCap 11 = .ok (.aload_n 0, 1) := by decide +kernel
theorem dX5_mostByCap_12 : decode cX5_mostByCap 12 = .ok (.getfield 19, 3) := by decide +kernel
theorem dX5_mostByCap_15 : decode cX5_mostByCap 15 = .ok (.iload_n 1, 1) := by decide +kernel
theorem dX5_mostByCap_16 : decode cX5_mostByCap 16 = .ok (.if_icmp .ne 15, 3) := by decide +kernel
theorem dX5_mostByCap_19 : decode cX5_mostByCap 19 = .ok (.aload_n 0, 1) := by decide +kernel
theorem dX5_mostByCap_20 : decode cX5_mostByCap 20 = .ok (.getfield 9, 3) := by decide +kernel
theorem dX5_mostByCap_23 : decode cX5_mostByCap 23 = .ok (.aload_n 0, 1) := by decide +kernel
theorem dX5_mostByCap_24 : decode cX5_mostByCap 24 = .ok (.getfield 22, 3) := by decide +kernel
theorem dX5_mostByCap_27 : decode cX5_mostByCap 27 = .ok (.isub, 1) := by decide +kernel
theorem dX5_mostByCap_28 : decode cX5_mostByCap 28 = .ok (.goto 7, 3) := by decide +kernel
theorem dX5_mostByCap_31 : decode cX5_mostByCap 31 = .ok (.aload_n 0, 1) := by decide +kernel
theorem dX5_mostByCap_32 : decode cX5_mostByCap 32 = .ok (.getfield 9, 3) := by decide +kernel
theorem dX5_mostByCap_35 : decode cX5_mostByCap 35 = .ok (.ireturn, 1) := by decide +kernel
theorem dX6_init_0 : decode cX6_init 0 = .ok (.aload_n 0, 1) := by decide +kernel
theorem dX6_init_1 : decode cX6_init 1 = .ok (.invokespecial 3, 3) := by decide +kernel
theorem dX6_init_4 : decode cX6_init 4 = .ok (.aload_n 0, 1) := by decide +kernel
theorem dX6_init_5 : decode cX6_init 5 = .ok (.new 9, 3) := by decide +kernel
theorem dX6_init_8 : decode cX6_init 8 = .ok (.dup, 1) := by decide +kernel
theorem dX6_init_9 : decode cX6_init 9 = .ok (.invokespecial 11, 3) := by decide +kernel
theorem dX6_init_12 : decode cX6_init 12 = .ok (.putfield 12, 3) := by decide +kernel
theorem dX6_init_15 : decode cX6_init 15 = .ok (.aload_n 0, 1) := by decide +kernel
theorem dX6_init_16 : decode cX6_init 16 = .ok (.iload_n 1, 1) := by decide +kernel
theorem dX6_init_17 : decode cX6_init 17 = .ok (.putfield 18, 3) := by decide +kernel
theorem dX6_init_20 : decode cX6_init 20 = .ok (.aload_n 0, 1) := by decide +kernel
theorem dX6_init_21 : decode cX6_init 21 = .ok (.getfield 12, 3) := by decide +kernel
theorem dX6_init_24 : decode cX6_init 24 = .ok (.new 22, 3) := by decide +kernel
theorem dX6_init_27 : decode cX6_init 27 = .ok (.dup, 1) := by decide +kernel
theorem dX6_init_28 : decode cX6_init 28 = .ok (.iconst 0, 1) := by decide +kernel
theorem dX6_init_29 : decode cX6_init 29 = .ok (.iload_n 1, 1) := by decide +kernel
theorem dX6_init_30 : decode cX6_init 30 = .ok (.invokespecial 24, 3) := by decide +kernel
theorem dX6_init_33 : decode cX6_init 33 = .ok (.invokevirtual 27, 3) := by decide +kernel
theorem dX6_init_36 : decode cX6_init 36 = .ok (.pop, 1) := by decide +kernel
theorem dX6_init_37 : decode cX6_init 37 = .ok (.return_, 1) := by decide +kernel
theorem dX6_change_0 : decode cX6_change 0 = .ok (.aload_n 0, 1) := by decide +kernel
theorem dX6_change_1 : decode cX6_change 1 = .ok (.iload_n 2, 1) := by decide +kernel
theorem dX6_change_2 : decode cX6_change 2 = .ok (.putfield 18, 3) := by decide +kernel
theorem dX6_change_5 : decode cX6_change 5 = .ok (.aload_n 0, 1) := by decide +kernel
theorem dX6_change_6 : decode cX6_change 6 = .ok (.getfield 12, 3) := by decide +kernel
theorem dX6_change_9 : decode cX6_change 9 = .ok (.invokevirtual 31, 3) := by decide +kernel
theorem dX6_change_12 : decode cX6_change 12 = .ok (.sipush 600, 3) := by decide +kernel
theorem dX6_change_15 : decode cX6_change 15 = .ok (.if_icmp .ge 20, 3) := by decide +kernel
theorem dX6_change_18 : decode cX6_change 18 = .ok (.aload_n 0, 1) := by decide +kernel
theorem dX6_change_19 : decode cX6_change 19 = .ok (.getfield 12, 3) := by decide +kernel
theorem dX6_change_22 : decode cX6_change 22 = .ok (.new 22, 3) := by decide +kernel
theorem dX6_change_25 : decode cX6_change 25 = .ok (.dup, 1) := by decide +kernel
theorem dX6_change_26 : decode cX6_change 26 = .ok (.iload_n 1, 1) := by decide +kernel
theorem dX6_change_27 : decode cX6_change 27 = .ok (.iload_n 2, 1) := by decide +kernel
theorem dX6_change_28 : decode cX6_change 28 = .ok (.invokespecial 24, 3) := by decide +kernel
theorem dX6_change_31 : decode cX6_change 31 = .ok (.invokevirtual 27, 3) := by decide +kernel
theorem dX6_change_34 : decode cX6_change 34 = .ok (.pop, 1) := by decide +kernel
theorem dX6_change_35 : decode cX6_change 35 = .ok (.return_, 1) := by decide +kernel
theorem dX6_costOf_0 : decode cX6_costOf 0 = .ok (.iconst 0, 1) := by decide +kernel
theorem dX6_costOf_1 : decode cX6_costOf 1 = .ok (.istore_n 3, 1) := by decide +kernel
theorem dX6_costOf_2 : decode cX6_costOf 2 = .ok (.iconst 0, 1) := by decide +kernel
theorem dX6_costOf_3 : decode cX6_costOf 3 = .ok (.istore 4, 2) := by decide +kernel
theorem dX6_costOf_5 : decode cX6_costOf 5 = .ok (.iload 4, 2) := by decide +kernel
theorem dX6_costOf_7 : decode cX6_costOf 7 = .ok (.aload_n 0, 1) := by decide +kernel
theorem dX6_costOf_8 : decode cX6_costOf 8 = .ok (.getfield 12, 3) := by decide +kernel
theorem dX6_costOf_11 : decode cX6_costOf 11 = .ok (.invokevirtual 31, 3) := by decide +kernel
theorem dX6_costOf_14 : decode cX6_costOf 14 = .ok (.if_icmp .ge 93, 3) := by decide +kernel
theorem dX6_costOf_17 : decode cX6_costOf 17 = .ok (.aload_n 0, 1) := by decide +kernel
theorem dX6_costOf_18 : decode cX6_costOf 18 = .ok (.getfield 12, 3) := by decide +kernel
theorem dX6_costOf_21 : decode cX6_costOf 21 = .ok (.iload 4, 2) := by decide +kernel
theorem dX6_costOf_23 : decode cX6_costOf 23 = .ok (.invokevirtual 35, 3) := by decide +kernel
theorem dX6_costOf_26 : decode cX6_costOf 26 = .ok (.checkcast 22, 3) := by decide +kernel
theorem dX6_costOf_29 : decode cX6_costOf 29 = .ok (.astore 5, 2) := by decide +kernel
theorem dX6_costOf_31 : decode cX6_costOf 31 = .ok (.iload_n 1, 1) := by decide +kernel
theorem dX6_costOf_32 : decode cX6_costOf 32 = .ok (.aload 5, 2) := by decide +kernel
theorem dX6_costOf_34 : decode cX6_costOf 34 = .ok (.getfield 39, 3) := by decide +kernel
theorem dX6_costOf_37 : decode cX6_costOf 37 = .ok (.invokestatic 42, 3) := by decide +kernel
theorem dX6_costOf_40 : decode cX6_costOf 40 = .ok (.istore 6, 2) := by decide +kernel
theorem dX6_costOf_42 : decode cX6_costOf 42 = .ok (.iload 4, 2) := by decide +kernel
theorem dX6_costOf_44 : decode cX6_costOf 44 = .ok (.iconst 1, 1) := by decide +kernel
theorem dX6_costOf_45 : decode cX6_costOf 45 = .ok (.iadd, 1) := by decide +kernel
theorem dX6_costOf_46 : decode cX6_costOf 46 = .ok (.aload_n 0, 1) := by decide +kernel
theorem dX6_costOf_47 : decode cX6_costOf 47 = .ok (.getfield 12, 3) := by decide +kernel
theorem dX6_costOf_50 : decode cX6_costOf 50 = .ok (.invokevirtual 31, 3) := by decide +kernel
theorem dX6_costOf_53 : decode cX6_costOf 53 = .ok (.if_icmp .ge 27, 3) := by decide +kernel
theorem dX6_costOf_56 : decode cX6_costOf 56 = .ok (.iload_n 2, 1) := by decide +kernel
theorem dX6_costOf_57 : decode cX6_costOf 57 = .ok (.aload_n 0, 1) := by decide +kernel
theorem dX6_costOf_58 : decode cX6_costOf 58 = .ok (.getfield 12, 3) := by decide +kernel
theorem dX6_costOf_61 : decode cX6_costOf 61 = .ok (.iload 4, 2) := by decide +kernel
theorem dX6_costOf_63 : decode cX6_costOf 63 = .ok (.iconst 1, 1) := by decide +kernel
theorem dX6_costOf_64 : decode cX6_costOf 64 = .ok (.iadd, 1) := by decide +kernel
theorem dX6_costOf_65 : decode cX6_costOf 65 = .ok (.invokevirtual 35, 3) := by decide +kernel
theorem dX6_costOf_68 : decode cX6_costOf 68 = .ok (.checkcast 22, 3) := by decide +kernel
theorem dX6_costOf_71 : decode cX6_costOf 71 = .ok (.getfield 39, 3) := by decide +kernel
theorem dX6_costOf_74 : decode cX6_costOf 74 = .ok (.invokestatic 48, 3) := by decide +kernel
theorem dX6_costOf_77 : decode cX6_costOf 77 = .ok (.goto 4, 3) := by decide +kernel
theorem dX6_costOf_80 : decode cX6_costOf 80 = .ok (.iload_n 2, 1) := by decide +kernel
theorem dX6_costOf_81 : decode cX6_costOf 81 = .ok (.istore 7, 2) := by decide +kernel
theorem dX6_costOf_83 : decode cX6_costOf 83 = .ok (.iload_n 3, 1) := by decide +kernel
theorem dX6_costOf_84 : decode cX6_costOf 84 = .ok (.iconst 0, 1) := by decide +kernel
theorem dX6_costOf_85 : decode cX6_costOf 85 = .ok (.iload 7, 2) := by decide +kernel
theorem dX6_costOf_87 : decode cX6_costOf 87 = .ok (.iload 6, 2) := by decide +kernel
theorem dX6_costOf_89 : decode cX6_costOf 89 = .ok (.isub, 1) := by decide +kernel
theorem dX6_costOf_90 : decode cX6_costOf 90 = .ok (.invokestatic 42, 3) := by decide +kernel
theorem dX6_costOf_93 : decode cX6_costOf 93 = .ok (.aload 5, 2) := by decide +kernel
theorem dX6_costOf_95 : decode cX6_costOf 95 = .ok (.getfield 51, 3) := by decide +kernel
theorem dX6_costOf_98 : decode cX6_costOf 98 = .ok (.imul, 1) := by decide +kernel
theorem dX6_costOf_99 : decode cX6_costOf 99 = .ok (.iadd, 1) := by decide +kernel
theorem dX6_costOf_100 : decode cX6_costOf 100 = .ok (.istore_n 3, 1) := by decide +kernel
theorem dX6_costOf_101 : decode cX6_costOf 101 = .ok (.iinc 4 1, 3) := by decide +kernel
theorem dX6_costOf_104 : decode cX6_costOf 104 = .ok (.goto (-99), 3) := by decide +kernel
theorem dX6_costOf_107 : decode cX6_costOf 107 = .ok (.iload_n 3, 1) := by decide +kernel
theorem dX6_costOf_108 : decode cX6_costOf 108 = .ok (.ireturn, 1) := by decide +kernel
theorem dX7_init_0 : decode cX7_init 0 = .ok (.aload_n 0, 1) := by decide +kernel
theorem dX7_init_1 : decode cX7_init 1 = .ok (.invokespecial 1, 3) := by decide +kernel
theorem dX7_init_4 : decode cX7_init 4 = .ok (.aload_n 0, 1) := by decide +kernel
theorem dX7_init_5 : decode cX7_init 5 = .ok (.iload_n 1, 1) := by decide +kernel
theorem dX7_init_6 : decode cX7_init 6 = .ok (.putfield 7, 3) := by decide +kernel
theorem dX7_init_9 : decode cX7_init 9 = .ok (.aload_n 0, 1) := by decide +kernel
theorem dX7_init_10 : decode cX7_init 10 = .ok (.iload_n 2, 1) := by decide +kernel
theorem dX7_init_11 : decode cX7_init 11 = .ok (.putfield 13, 3) := by decide +kernel
theorem dX7_init_14 : decode cX7_init 14 = .ok (.return_, 1) := by decide +kernel
theorem dX8_init_0 : decode cX8_init 0 = .ok (.aload_n 0, 1) := by decide +kernel
theorem dX8_init_1 : decode cX8_init 1 = .ok (.invokespecial 1, 3) := by decide +kernel
theorem dX8_init_4 : decode cX8_init 4 = .ok (.aload_n 0, 1) := by decide +kernel
theorem dX8_init_5 : decode cX8_init 5 = .ok (.iconst 0, 1) := by decide +kernel
theorem dX8_init_6 : decode cX8_init 6 = .ok (.putfield 7, 3) := by decide +kernel
theorem dX8_init_9 : decode cX8_init 9 = .ok (.aload_n 0, 1) := by decide +kernel
theorem dX8_init_10 : decode cX8_init 10 = .ok (.iconst 0, 1) := by decide +kernel
theorem dX8_init_11 : decode cX8_init 11 = .ok (.putfield 13, 3) := by decide +kernel
theorem dX8_init_14 : decode cX8_init 14 = .ok (.aload_n 0, 1) := by decide +kernel
theorem dX8_init_15 : decode cX8_init 15 = .ok (.aconst_null, 1) := by decide +kernel
theorem dX8_init_16 : decode cX8_init 16 = .ok (.putfield 16, 3) := by decide +kernel
theorem dX8_init_19 : decode cX8_init 19 = .ok (.return_, 1) := by decide +kernel
theorem dX8_takeFromBundle_0 : decode cX8_takeFromBundle 0 = .ok (.aload_n 1, 1) := by decide +kernel
theorem dX8_takeFromBundle_1 : decode cX8_takeFromBundle 1 = .ok (.dup, 1) := by decide +kernel
theorem dX8_takeFromBundle_2 : decode cX8_takeFromBundle 2 = .ok (.getfield 20, 3) := by decide +kernel
theorem dX8_takeFromBundle_5 : decode cX8_takeFromBundle 5 = .ok (.iload_n 2, 1) := by decide +kernel
theorem dX8_takeFromBundle_6 : decode cX8_takeFromBundle 6 = .ok (.isub, 1) := by decide +kernel
theorem dX8_takeFromBundle_7 : decode cX8_takeFromBundle 7 = .ok (.putfield 20, 3) := by decide +kernel
theorem dX8_takeFromBundle_10 : decode cX8_takeFromBundle 10 = .ok (.aload_n 0, 1) := by decide +kernel
theorem dX8_takeFromBundle_11 : decode cX8_takeFromBundle 11 = .ok (.aload_n 1, 1) := by decide +kernel
theorem dX8_takeFromBundle_12 : decode cX8_takeFromBundle 12 = .ok (.putfield 16, 3) := by decide +kernel
theorem dX8_takeFromBundle_15 : decode cX8_takeFromBundle 15 = .ok (.aload_n 0, 1) := by decide +kernel
theorem dX8_takeFromBundle_16 : decode cX8_takeFromBundle 16 = .ok (.iconst 0, 1) := by decide +kernel
theorem dX8_takeFromBundle_17 : decode cX8_takeFromBundle 17 = .ok (.putfield 13, 3) := by decide +kernel
theorem dX8_takeFromBundle_20 : decode cX8_takeFromBundle 20 = .ok (.aload_n 0, 1) := by decide +kernel
theorem dX8_takeFromBundle_21 : decode cX8_takeFromBundle 21 = .ok (.iload_n 2, 1) := by decide +kernel
theorem dX8_takeFromBundle_22 : decode cX8_takeFromBundle 22 = .ok (.putfield 7, 3) := by decide +kernel
theorem dX8_takeFromBundle_25 : decode cX8_takeFromBundle 25 = .ok (.return_, 1) := by decide +kernel
theorem dX8_takeFromMoney_0 : decode cX8_takeFromMoney 0 = .ok (.aload_n 0, 1) := by decide +kernel
theorem dX8_takeFromMoney_1 : decode cX8_takeFromMoney 1 = .ok (.aconst_null, 1) := by decide +kernel
theorem dX8_takeFromMoney_2 : decode cX8_takeFromMoney 2 = .ok (.putfield 16, 3) := by decide +kernel
theorem dX8_takeFromMoney_5 : decode cX8_takeFromMoney 5 = .ok (.aload_n 0, 1) := by decide +kernel
theorem dX8_takeFromMoney_6 : decode cX8_takeFromMoney 6 = .ok (.iload_n 2, 1) := by decide +kernel
theorem dX8_takeFromMoney_7 : decode cX8_takeFromMoney 7 = .ok (.putfield 13, 3) := by decide +kernel
theorem dX8_takeFromMoney_10 : decode cX8_takeFromMoney 10 = .ok (.aload_n 0, 1) := by decide +kernel
theorem dX8_takeFromMoney_11 : decode cX8_takeFromMoney 11 = .ok (.iload_n 1, 1) := by decide +kernel
theorem dX8_takeFromMoney_12 : decode cX8_takeFromMoney 12 = .ok (.putfield 7, 3) := by decide +kernel
theorem dX8_takeFromMoney_15 : decode cX8_takeFromMoney 15 = .ok (.return_, 1) := by decide +kernel
theorem dX8_moneyLeft_0 : decode cX8_moneyLeft 0 = .ok (.aload_n 0, 1) := by decide +kernel
theorem dX8_moneyLeft_1 : decode cX8_moneyLeft 1 = .ok (.getfield 16, 3) := by decide +kernel
theorem dX8_moneyLeft_4 : decode cX8_moneyLeft 4 = .ok (.ifnonnull 15, 3) := by decide +kernel
theorem dX8_moneyLeft_7 : decode cX8_moneyLeft 7 = .ok (.aload_n 0, 1) := by decide +kernel
theorem dX8_moneyLeft_8 : decode cX8_moneyLeft 8 = .ok (.getfield 7, 3) := by decide +kernel
theorem dX8_moneyLeft_11 : decode cX8_moneyLeft 11 = .ok (.aload_n 0, 1) := by decide +kernel
theorem dX8_moneyLeft_12 : decode cX8_moneyLeft 12 = .ok (.getfield 13, 3) := by decide +kernel
theorem dX8_moneyLeft_15 : decode cX8_moneyLeft 15 = .ok (.imul, 1) := by decide +kernel
theorem dX8_moneyLeft_16 : decode cX8_moneyLeft 16 = .ok (.goto 4, 3) := by decide +kernel
theorem dX8_moneyLeft_19 : decode cX8_moneyLeft 19 = .ok (.iconst 0, 1) := by decide +kernel
theorem dX8_moneyLeft_20 : decode cX8_moneyLeft 20 = .ok (.ireturn, 1) := by decide +kernel
theorem dX9_init_0 : decode cX9_init 0 = .ok (.aload_n 0, 1) := by decide +kernel
theorem dX9_init_1 : decode cX9_init 1 = .ok (.invokespecial 1, 3) := by decide +kernel
theorem dX9_init_4 : decode cX9_init 4 = .ok (.aload_n 0, 1) := by decide +kernel
theorem dX9_init_5 : decode cX9_init 5 = .ok (.new 7, 3) := by decide +kernel
theorem dX9_init_8 : decode cX9_init 8 = .ok (.dup, 1) := by decide +kernel
theorem dX9_init_9 : decode cX9_init 9 = .ok (.invokespecial 9, 3) := by decide +kernel
theorem dX9_init_12 : decode cX9_init 12 = .ok (.putfield 10, 3) := by decide +kernel
theorem dX9_init_15 : decode cX9_init 15 = .ok (.aload_n 0, 1) := by decide +kernel
theorem dX9_init_16 : decode cX9_init 16 = .ok (.iconst 0, 1) := by decide +kernel
theorem dX9_init_17 : decode cX9_init 17 = .ok (.putfield 16, 3) := by decide +kernel
theorem dX9_init_20 : decode cX9_init 20 = .ok (.aload_n 0, 1) := by decide +kernel
theorem dX9_init_21 : decode cX9_init 21 = .ok (.iconst 0, 1) := by decide +kernel
theorem dX9_init_22 : decode cX9_init 22 = .ok (.putfield 20, 3) := by decide +kernel
theorem dX9_init_25 : decode cX9_init 25 = .ok (.aload_n 0, 1) := by decide +kernel
theorem dX9_init_26 : decode cX9_init 26 = .ok (.iload_n 1, 1) := by decide +kernel
theorem dX9_init_27 : decode cX9_init 27 = .ok (.putfield 23, 3) := by decide +kernel
theorem dX9_init_30 : decode cX9_init 30 = .ok (.return_, 1) := by decide +kernel
theorem dX9_addInOrderOfUse_0 : decode cX9_addInOrderOfUse 0 = .ok (.aload_n 0, 1) := by decide +kernel
theorem dX9_addInOrderOfUse_1 : decode cX9_addInOrderOfUse 1 = .ok (.getfield 10, 3) := by decide +kernel
theorem dX9_addInOrderOfUse_4 : decode cX9_addInOrderOfUse 4 = .ok (.invokevirtual 26, 3) := by decide +kernel
theorem dX9_addInOrderOfUse_7 : decode cX9_addInOrderOfUse 7 = .ok (.istore_n 2, 1) := by decide +kernel
theorem dX9_addInOrderOfUse_8 : decode cX9_addInOrderOfUse 8 = .ok (.aload_n 0, 1) := by decide +kernel
theorem dX9_addInOrderOfUse_9 : decode cX9_addInOrderOfUse 9 = .ok (.getfield 10, 3) := by decide +kernel
theorem dX9_addInOrderOfUse_12 : decode cX9_addInOrderOfUse 12 = .ok (.invokevirtual 26, 3) := by decide +kernel
theorem dX9_addInOrderOfUse_15 : decode cX9_addInOrderOfUse 15 = .ok (.iconst 1, 1) := by decide +kernel
theorem dX9_addInOrderOfUse_16 : decode cX9_addInOrderOfUse 16 = .ok (.isub, 1) := by decide +kernel
theorem dX9_addInOrderOfUse_17 : decode cX9_addInOrderOfUse 17 = .ok (.istore_n 3, 1) := by decide +kernel
theorem dX9_addInOrderOfUse_18 : decode cX9_addInOrderOfUse 18 = .ok (.iload_n 3, 1) := by decide +kernel
theorem dX9_addInOrderOfUse_19 : decode cX9_addInOrderOfUse 19 = .ok (.ifCond .lt 29, 3) := by decide +kernel
theorem dX9_addInOrderOfUse_22 : decode cX9_addInOrderOfUse 22 = .ok (.aload_n 1, 1) := by decide +kernel
theorem dX9_addInOrderOfUse_23 : decode cX9_addInOrderOfUse 23 = .ok (.aload_n 0, 1) := by decide +kernel
theorem dX9_addInOrderOfUse_24 : decode cX9_addInOrderOfUse 24 = .ok (.getfield 10, 3) := by decide +kernel
theorem dX9_addInOrderOfUse_27 : decode cX9_addInOrderOfUse 27 = .ok (.iload_n 3, 1) := by decide +kernel
theorem dX9_addInOrderOfUse_28 : decode cX9_addInOrderOfUse 28 = .ok (.invokevirtual 30, 3) := by decide +kernel
theorem dX9_addInOrderOfUse_31 : decode cX9_addInOrderOfUse 31 = .ok (.checkcast 34, 3) := by decide +kernel
theorem dX9_addInOrderOfUse_34 : decode cX9_addInOrderOfUse 34 = .ok (.invokevirtual 36, 3) := by decide +kernel
theorem dX9_addInOrderOfUse_37 : decode cX9_addInOrderOfUse 37 = .ok (.ifCond .eq 11, 3) := by decide +kernel
theorem dX9_addInOrderOfUse_40 : decode cX9_addInOrderOfUse 40 = .ok (.iload_n 3, 1) := by decide +kernel
theorem dX9_addInOrderOfUse_41 : decode cX9_addInOrderOfUse 41 = .ok (.istore_n 2, 1) := by decide +kernel
theorem dX9_addInOrderOfUse_42 : decode cX9_addInOrderOfUse 42 = .ok (.iinc 3 (-1), 3) := by decide +kernel
theorem dX9_addInOrderOfUse_45 : decode cX9_addInOrderOfUse 45 = .ok (.goto (-27), 3) := by decide +kernel
theorem dX9_addInOrderOfUse_48 : decode cX9_addInOrderOfUse 48 = .ok (.aload_n 0, 1) := by decide +kernel
theorem dX9_addInOrderOfUse_49 : decode cX9_addInOrderOfUse 49 = .ok (.getfield 10, 3) := by decide +kernel
theorem dX9_addInOrderOfUse_52 : decode cX9_addInOrderOfUse 52 = .ok (.iload_n 2, 1) := by decide +kernel
theorem dX9_addInOrderOfUse_53 : decode cX9_addInOrderOfUse 53 = .ok (.aload_n 1, 1) := by decide +kernel
theorem dX9_addInOrderOfUse_54 : decode cX9_addInOrderOfUse 54 = .ok (.invokevirtual 40, 3) := by decide +kernel
theorem dX9_addInOrderOfUse_57 : decode cX9_addInOrderOfUse 57 = .ok (.return_, 1) := by decide +kernel
theorem dX9_findBundle_0 : decode cX9_findBundle 0 = .ok (.iconst 0, 1) := by decide +kernel
theorem dX9_findBundle_1 : decode cX9_findBundle 1 = .ok (.istore_n 3, 1) := by decide +kernel
theorem dX9_findBundle_2 : decode cX9_findBundle 2 = .ok (.iload_n 3, 1) := by decide +kernel
theorem dX9_findBundle_3 : decode cX9_findBundle 3 = .ok (.aload_n 0, 1) := by decide +kernel
theorem dX9_findBundle_4 : decode cX9_findBundle 4 = .ok (.getfield 10, 3) := by decide +kernel
theorem dX9_findBundle_7 : decode cX9_findBundle 7 = .ok (.invokevirtual 26, 3) := by decide +kernel
theorem dX9_findBundle_10 : decode cX9_findBundle 10 = .ok (.if_icmp .ge 51, 3) := by decide +kernel
theorem dX9_findBundle_13 : decode cX9_findBundle 13 = .ok (.aload_n 0, 1) := by decide +kernel
theorem dX9_findBundle_14 : decode cX9_findBundle 14 = .ok (.getfield 10, 3) := by decide +kernel
theorem dX9_findBundle_17 : decode cX9_findBundle 17 = .ok (.iload_n 3, 1) := by decide +kernel
theorem dX9_findBundle_18 : decode cX9_findBundle 18 = .ok (.invokevirtual 30, 3) := by decide +kernel
theorem dX9_findBundle_21 : decode cX9_findBundle 21 = .ok (.checkcast 34, 3) := by decide +kernel
theorem dX9_findBundle_24 : decode cX9_findBundle 24 = .ok (.astore 4, 2) := by decide +kernel
theorem dX9_findBundle_26 : decode cX9_findBundle 26 = .ok (.aload 4, 2) := by decide +kernel
theorem dX9_findBundle_28 : decode cX9_findBundle 28 = .ok (.aload_n 1, 1) := by decide +kernel
theorem dX9_findBundle_29 : decode cX9_findBundle 29 = .ok (.invokevirtual 44, 3) := by decide +kernel
theorem dX9_findBundle_32 : decode cX9_findBundle 32 = .ok (.ifCond .eq 23, 3) := by decide +kernel
theorem dX9_findBundle_35 : decode cX9_findBundle 35 = .ok (.aload 4, 2) := by decide +kernel
theorem dX9_findBundle_37 : decode cX9_findBundle 37 = .ok (.iload_n 2, 1) := by decide +kernel
theorem dX9_findBundle_38 : decode cX9_findBundle 38 = .ok (.invokevirtual 48, 3) := by decide +kernel
theorem dX9_findBundle_41 : decode cX9_findBundle 41 = .ok (.ifCond .ne 14, 3) := by decide +kernel
theorem dX9_findBundle_44 : decode cX9_findBundle 44 = .ok (.aload 4, 2) := by decide +kernel
theorem dX9_findBundle_46 : decode cX9_findBundle 46 = .ok (.getfield 52, 3) := by decide +kernel
theorem dX9_findBundle_49 : decode cX9_findBundle 49 = .ok (.ifCond .le 6, 3) := by decide +kernel
theorem dX9_findBundle_52 : decode cX9_findBundle 52 = .ok (.aload 4, 2) := by decide +kernel
theorem dX9_findBundle_54 : decode cX9_findBundle 54 = .ok (.areturn, 1) := by decide +kernel
theorem dX9_findBundle_55 : decode cX9_findBundle 55 = .ok (.iinc 3 1, 3) := by decide +kernel
theorem dX9_findBundle_58 : decode cX9_findBundle 58 = .ok (.goto (-56), 3) := by decide +kernel
theorem dX9_findBundle_61 : decode cX9_findBundle 61 = .ok (.aconst_null, 1) := by decide +kernel
theorem dX9_findBundle_62 : decode cX9_findBundle 62 = .ok (.areturn, 1) := by decide +kernel
theorem dX10_init_0 : decode cX10_init 0 = .ok (.aload_n 0, 1) := by decide +kernel
theorem dX10_init_1 : decode cX10_init 1 = .ok (.invokespecial 1, 3) := by decide +kernel
theorem dX10_init_4 : decode cX10_init 4 = .ok (.aload_n 0, 1) := by decide +kernel
theorem dX10_init_5 : decode cX10_init 5 = .ok (.iload_n 1, 1) := by decide +kernel
theorem dX10_init_6 : decode cX10_init 6 = .ok (.putfield 7, 3) := by decide +kernel
theorem dX10_init_9 : decode cX10_init 9 = .ok (.aload_n 0, 1) := by decide +kernel
theorem dX10_init_10 : decode cX10_init 10 = .ok (.new 13, 3) := by decide +kernel
theorem dX10_init_13 : decode cX10_init 13 = .ok (.dup, 1) := by decide +kernel
theorem dX10_init_14 : decode cX10_init 14 = .ok (.bipush 20, 2) := by decide +kernel
theorem dX10_init_16 : decode cX10_init 16 = .ok (.iload_n 1, 1) := by decide +kernel
theorem dX10_init_17 : decode cX10_init 17 = .ok (.iconst 1, 1) := by decide +kernel
theorem dX10_init_18 : decode cX10_init 18 = .ok (.iadd, 1) := by decide +kernel
theorem dX10_init_19 : decode cX10_init 19 = .ok (.imul, 1) := by decide +kernel
theorem dX10_init_20 : decode cX10_init 20 = .ok (.invokespecial 15, 3) := by decide +kernel
theorem dX10_init_23 : decode cX10_init 23 = .ok (.putfield 18, 3) := by decide +kernel
theorem dX10_init_26 : decode cX10_init 26 = .ok (.aload_n 0, 1) := by decide +kernel
theorem dX10_init_27 : decode cX10_init 27 = .ok (.new 13, 3) := by decide +kernel
theorem dX10_init_30 : decode cX10_init 30 = .ok (.dup, 1) := by decide +kernel
theorem dX10_init_31 : decode cX10_init 31 = .ok (.bipush 10, 2) := by decide +kernel
theorem dX10_init_33 : decode cX10_init 33 = .ok (.iload_n 1, 1) := by decide +kernel
theorem dX10_init_34 : decode cX10_init 34 = .ok (.iconst 1, 1) := by decide +kernel
theorem dX10_init_35 : decode cX10_init 35 = .ok (.iadd, 1) := by decide +kernel
theorem dX10_init_36 : decode cX10_init 36 = .ok (.imul, 1) := by decide +kernel
theorem dX10_init_37 : decode cX10_init 37 = .ok (.invokespecial 15, 3) := by decide +kernel
theorem dX10_init_40 : decode cX10_init 40 = .ok (.putfield 22, 3) := by decide +kernel
theorem dX10_init_43 : decode cX10_init 43 = .ok (.return_, 1) := by decide +kernel
theorem dX10_historyFor_0 : decode cX10_historyFor 0 = .ok (.iload_n 1, 1) := by decide +kernel
theorem dX10_historyFor_1 : decode cX10_historyFor 1 = .ok (.ifCond .eq 10, 3) := by decide +kernel
theorem dX10_historyFor_4 : decode cX10_historyFor 4 = .ok (.aload_n 0, 1) := by decide +kernel
theorem dX10_historyFor_5 : decode cX10_historyFor 5 = .ok (.getfield 18, 3) := by decide +kernel
theorem dX10_historyFor_8 : decode cX10_historyFor 8 = .ok (.goto 7, 3) := by decide +kernel
theorem dX10_historyFor_11 : decode cX10_historyFor 11 = .ok (.aload_n 0, 1) := by decide +kernel
theorem dX10_historyFor_12 : decode cX10_historyFor 12 = .ok (.getfield 22, 3) := by decide +kernel
theorem dX10_historyFor_15 : decode cX10_historyFor 15 = .ok (.areturn, 1) := by decide +kernel
theorem dX11_init_0 : decode cX11_init 0 = .ok (.aload_n 0, 1) := by decide +kernel
theorem dX11_init_1 : decode cX11_init 1 = .ok (.invokespecial 3, 3) := by decide +kernel
theorem dX11_init_4 : decode cX11_init 4 = .ok (.aload_n 0, 1) := by decide +kernel
theorem dX11_init_5 : decode cX11_init 5 = .ok (.iconst 3, 1) := by decide +kernel
theorem dX11_init_6 : decode cX11_init 6 = .ok (.anewarray 9, 3) := by decide +kernel
theorem dX11_init_9 : decode cX11_init 9 = .ok (.putfield 11, 3) := by decide +kernel
theorem dX11_init_12 : decode cX11_init 12 = .ok (.aload_n 0, 1) := by decide +kernel
theorem dX11_init_13 : decode cX11_init 13 = .ok (.bipush 8, 2) := by decide +kernel
theorem dX11_init_15 : decode cX11_init 15 = .ok (.anewarray 15, 3) := by decide +kernel
theorem dX11_init_18 : decode cX11_init 18 = .ok (.putfield 17, 3) := by decide +kernel
theorem dX11_init_21 : decode cX11_init 21 = .ok (.aload_n 0, 1) := by decide +kernel
theorem dX11_init_22 : decode cX11_init 22 = .ok (.iconst 4, 1) := by decide +kernel
theorem dX11_init_23 : decode cX11_init 23 = .ok (.anewarray 21, 3) := by decide +kernel
theorem dX11_init_26 : decode cX11_init 26 = .ok (.putfield 23, 3) := by decide +kernel
theorem dX11_init_29 : decode cX11_init 29 = .ok (.aload_n 0, 1) := by decide +kernel
theorem dX11_init_30 : decode cX11_init 30 = .ok (.bipush 10, 2) := by decide +kernel
theorem dX11_init_32 : decode cX11_init 32 = .ok (.anewarray 27, 3) := by decide +kernel
theorem dX11_init_35 : decode cX11_init 35 = .ok (.putfield 29, 3) := by decide +kernel
theorem dX11_init_38 : decode cX11_init 38 = .ok (.aload_n 0, 1) := by decide +kernel
theorem dX11_init_39 : decode cX11_init 39 = .ok (.new 33, 3) := by decide +kernel
theorem dX11_init_42 : decode cX11_init 42 = .ok (.dup, 1) := by decide +kernel
theorem dX11_init_43 : decode cX11_init 43 = .ok (.invokespecial 35, 3) := by decide +kernel
theorem dX11_init_46 : decode cX11_init 46 = .ok (.putfield 36, 3) := by decide +kernel
theorem dX11_init_49 : decode cX11_init 49 = .ok (.aload_n 0, 1) := by decide +kernel
theorem dX11_init_50 : decode cX11_init 50 = .ok (.new 33, 3) := by decide +kernel
theorem dX11_init_53 : decode cX11_init 53 = .ok (.dup, 1) := by decide +kernel
theorem dX11_init_54 : decode cX11_init 54 = .ok (.invokespecial 35, 3) := by decide +kernel
theorem dX11_init_57 : decode cX11_init 57 = .ok (.putfield 40, 3) := by decide +kernel
theorem dX11_init_60 : decode cX11_init 60 = .ok (.aload_n 0, 1) := by decide +kernel
theorem dX11_init_61 : decode cX11_init 61 = .ok (.new 33, 3) := by decide +kernel
theorem dX11_init_64 : decode cX11_init 64 = .ok (.dup, 1) := by decide +kernel
theorem dX11_init_65 : decode cX11_init 65 = .ok (.invokespecial 35, 3) := by decide +kernel
theorem dX11_init_68 : decode cX11_init 68 = .ok (.putfield 43, 3) := by decide +kernel
theorem dX11_init_71 : decode cX11_init 71 = .ok (.aload_n 0, 1) := by decide +kernel
theorem dX11_init_72 : decode cX11_init 72 = .ok (.bipush 20, 2) := by decide +kernel
theorem dX11_init_74 : decode cX11_init 74 = .ok (.putfield 46, 3) := by decide +kernel
theorem dX11_init_77 : decode cX11_init 77 = .ok (.aload_n 0, 1) := by decide +kernel
theorem dX11_init_78 : decode cX11_init 78 = .ok (.iconst 0, 1) := by decide +kernel
theorem dX11_init_79 : decode cX11_init 79 = .ok (.putfield 50, 3) := by decide +kernel
theorem dX11_init_82 : decode cX11_init 82 = .ok (.iconst 0, 1) := by decide +kernel
theorem dX11_init_83 : decode cX11_init 83 = .ok (.istore_n 1, 1) := by decide +kernel
theorem dX11_init_84 : decode cX11_init 84 = .ok (.iload_n 1, 1) := by decide +kernel
theorem dX11_init_85 : decode cX11_init 85 = .ok (.iconst 3, 1) := by decide +kernel
theorem dX11_init_86 : decode cX11_init 86 = .ok (.if_icmp .ge 23, 3) := by decide +kernel
theorem dX11_init_89 : decode cX11_init 89 = .ok (.aload_n 0, 1) := by decide +kernel
theorem dX11_init_90 : decode cX11_init 90 = .ok (.getfield 11, 3) := by decide +kernel
theorem dX11_init_93 : decode cX11_init 93 = .ok (.iload_n 1, 1) := by decide +kernel
theorem dX11_init_94 : decode cX11_init 94 = .ok (.new 9, 3) := by decide +kernel
theorem dX11_init_97 : decode cX11_init 97 = .ok (.dup, 1) := by decide +kernel
theorem dX11_init_98 : decode cX11_init 98 = .ok (.iload_n 1, 1) := by decide +kernel
theorem dX11_init_99 : decode cX11_init 99 = .ok (.invokespecial 53, 3) := by decide +kernel
theorem dX11_init_102 : decode cX11_init 102 = .ok (.aastore, 1) := by decide +kernel
theorem dX11_init_103 : decode cX11_init 103 = .ok (.iinc 1 1, 3) := by decide +kernel
theorem dX11_init_106 : decode cX11_init 106 = .ok (.goto (-22), 3) := by decide +kernel
theorem dX11_init_109 : decode cX11_init 109 = .ok (.iconst 0, 1) := by decide +kernel
theorem dX11_init_110 : decode cX11_init 110 = .ok (.istore_n 1, 1) := by decide +kernel
theorem dX11_init_111 : decode cX11_init 111 = .ok (.iload_n 1, 1) := by decide +kernel
theorem dX11_init_112 : decode cX11_init 112 = .ok (.bipush 8, 2) := by decide +kernel
theorem dX11_init_114 : decode cX11_init 114 = .ok (.if_icmp .ge 31, 3) := by decide +kernel
theorem dX11_init_117 : decode cX11_init 117 = .ok (.aload_n 0, 1) := by decide +kernel
theorem dX11_init_118 : decode cX11_init 118 = .ok (.getfield 17, 3) := by decide +kernel
theorem dX11_init_121 : decode cX11_init 121 = .ok (.iload_n 1, 1) := by decide +kernel
theorem dX11_init_122 : decode cX11_init 122 = .ok (.new 15, 3) := by decide +kernel
theorem dX11_init_125 : decode cX11_init 125 = .ok (.dup, 1) := by decide +kernel
theorem dX11_init_126 : decode cX11_init 126 = .ok (.iload_n 1, 1) := by decide +kernel
theorem dX11_init_127 : decode cX11_init 127 = .ok (.aload_n 0, 1) := by decide +kernel
theorem dX11_init_128 : decode cX11_init 128 = .ok (.getfield 11, 3) := by decide +kernel
theorem dX11_init_131 : decode cX11_init 131 = .ok (.iload_n 1, 1) := by decide +kernel
theorem dX11_init_132 : decode cX11_init 132 = .ok (.iconst 3, 1) := by decide +kernel
theorem dX11_init_133 : decode cX11_init 133 = .ok (.irem, 1) := by decide +kernel
theorem dX11_init_134 : decode cX11_init 134 = .ok (.aaload, 1) := by decide +kernel
theorem dX11_init_135 : decode cX11_init 135 = .ok (.invokespecial 56, 3) := by decide +kernel
theorem dX11_init_138 : decode cX11_init 138 = .ok (.aastore, 1) := by decide +kernel
theorem dX11_init_139 : decode cX11_init 139 = .ok (.iinc 1 1, 3) := by decide +kernel
theorem dX11_init_142 : decode cX11_init 142 = .ok (.goto (-31), 3) := by decide +kernel
theorem dX11_init_145 : decode cX11_init 145 = .ok (.iconst 0, 1) := by decide +kernel
theorem dX11_init_146 : decode cX11_init 146 = .ok (.istore_n 1, 1) := by decide +kernel
theorem dX11_init_147 : decode cX11_init 147 = .ok (.iload_n 1, 1) := by decide +kernel
theorem dX11_init_148 : decode cX11_init 148 = .ok (.iconst 4, 1) := by decide +kernel
theorem dX11_init_149 : decode cX11_init 149 = .ok (.if_icmp .ge 23, 3) := by decide +kernel
theorem dX11_init_152 : decode cX11_init 152 = .ok (.aload_n 0, 1) := by decide +kernel
theorem dX11_init_153 : decode cX11_init 153 = .ok (.getfield 23, 3) := by decide +kernel
theorem dX11_init_156 : decode cX11_init 156 = .ok (.iload_n 1, 1) := by decide +kernel
theorem dX11_init_157 : decode cX11_init 157 = .ok (.new 21, 3) := by decide +kernel
theorem dX11_init_160 : decode cX11_init 160 = .ok (.dup, 1) := by decide +kernel
theorem dX11_init_161 : decode cX11_init 161 = .ok (.iload_n 1, 1) := by decide +kernel
theorem dX11_init_162 : decode cX11_init 162 = .ok (.invokespecial 59, 3) := by decide +kernel
theorem dX11_init_165 : decode cX11_init 165 = .ok (.aastore, 1) := by decide +kernel
theorem dX11_init_166 : decode cX11_init 166 = .ok (.iinc 1 1, 3) := by decide +kernel
theorem dX11_init_169 : decode cX11_init 169 = .ok (.goto (-22), 3) := by decide +kernel
theorem dX11_init_172 : decode cX11_init 172 = .ok (.iconst 0, 1) := by decide +kernel
theorem dX11_init_173 : decode cX11_init 173 = .ok (.istore_n 1, 1) := by decide +kernel
theorem dX11_init_174 : decode cX11_init 174 = .ok (.iload_n 1, 1) := by decide +kernel
theorem dX11_init_175 : decode cX11_init 175 = .ok (.bipush 10, 2) := by decide +kernel
theorem dX11_init_177 : decode cX11_init 177 = .ok (.if_icmp .ge 40, 3) := by decide +kernel
theorem dX11_init_180 : decode cX11_init 180 = .ok (.aload_n 0, 1) := by decide +kernel
theorem dX11_init_181 : decode cX11_init 181 = .ok (.getfield 29, 3) := by decide +kernel
theorem dX11_init_184 : decode cX11_init 184 = .ok (.iload_n 1, 1) := by decide +kernel
theorem dX11_init_185 : decode cX11_init 185 = .ok (.new 27, 3) := by decide +kernel
theorem dX11_init_188 : decode cX11_init 188 = .ok (.dup, 1) := by decide +kernel
theorem dX11_init_189 : decode cX11_init 189 = .ok (.iload_n 1, 1) := by decide +kernel
theorem dX11_init_190 : decode cX11_init 190 = .ok (.aload_n 0, 1) := by decide +kernel
theorem dX11_init_191 : decode cX11_init 191 = .ok (.getfield 17, 3) := by decide +kernel
theorem dX11_init_194 : decode cX11_init 194 = .ok (.iload_n 1, 1) := by decide +kernel
theorem dX11_init_195 : decode cX11_init 195 = .ok (.bipush 8, 2) := by decide +kernel
theorem dX11_init_197 : decode cX11_init 197 = .ok (.irem, 1) := by decide +kernel
theorem dX11_init_198 : decode cX11_init 198 = .ok (.aaload, 1) := by decide +kernel
theorem dX11_init_199 : decode cX11_init 199 = .ok (.aload_n 0, 1) := by decide +kernel
theorem dX11_init_200 : decode cX11_init 200 = .ok (.getfield 23, 3) := by decide +kernel
theorem dX11_init_203 : decode cX11_init 203 = .ok (.iload_n 1, 1) := by decide +kernel
theorem dX11_init_204 : decode cX11_init 204 = .ok (.iconst 4, 1) := by decide +kernel
theorem dX11_init_205 : decode cX11_init 205 = .ok (.irem, 1) := by decide +kernel
theorem dX11_init_206 : decode cX11_init 206 = .ok (.aaload, 1) := by decide +kernel
theorem dX11_init_207 : decode cX11_init 207 = .ok (.invokespecial 60, 3) := by decide +kernel
theorem dX11_init_210 : decode cX11_init 210 = .ok (.aastore, 1) := by decide +kernel
theorem dX11_init_211 : decode cX11_init 211 = .ok (.iinc 1 1, 3) := by decide +kernel
theorem dX11_init_214 : decode cX11_init 214 = .ok (.goto (-40), 3) := by decide +kernel
theorem dX11_init_217 : decode cX11_init 217 = .ok (.return_, 1) := by decide +kernel
theorem dX11_setZone_0 : decode cX11_setZone 0 = .ok (.aload_n 0, 1) := by decide +kernel
theorem dX11_setZone_1 : decode cX11_setZone 1 = .ok (.iload_n 1, 1) := by decide +kernel
theorem dX11_setZone_2 : decode cX11_setZone 2 = .ok (.invokevirtual 63, 3) := by decide +kernel
theorem dX11_setZone_5 : decode cX11_setZone 5 = .ok (.astore_n 3, 1) := by decide +kernel
theorem dX11_setZone_6 : decode cX11_setZone 6 = .ok (.iload_n 2, 1) := by decide +kernel
theorem dX11_setZone_7 : decode cX11_setZone 7 = .ok (.iconst 0, 1) := by decide +kernel
theorem dX11_setZone_8 : decode cX11_setZone 8 = .ok (.iconst 2, 1) := by decide +kernel
theorem dX11_setZone_9 : decode cX11_setZone 9 = .ok (.invokestatic 67, 3) := by decide +kernel
theorem dX11_setZone_12 : decode cX11_setZone 12 = .ok (.ifCond .eq 13, 3) := by decide +kernel
theorem dX11_setZone_15 : decode cX11_setZone 15 = .ok (.new 71, 3) := by decide +kernel
theorem dX11_setZone_18 : decode cX11_setZone 18 = .ok (.dup, 1) := by decide +kernel
theorem dX11_setZone_19 : decode cX11_setZone 19 = .ok (.ldc 73, 2) := by decide +kernel
theorem dX11_setZone_21 : decode cX11_setZone 21 = .ok (.invokespecial 75, 3) := by decide +kernel
theorem dX11_setZone_24 : decode cX11_setZone 24 = .ok (.athrow, 1) := by decide +kernel
theorem dX11_setZone_25 : decode cX11_setZone 25 = .ok (.aload_n 0, 1) := by decide +kernel
theorem dX11_setZone_26 : decode cX11_setZone 26 = .ok (.getfield 40, 3) := by decide +kernel
theorem dX11_setZone_29 : decode cX11_setZone 29 = .ok (.invokevirtual 78, 3) := by decide +kernel
theorem dX11_setZone_32 : decode cX11_setZone 32 = .ok (.ifCond .ne 13, 3) := by decide +kernel
theorem dX11_setZone_35 : decode cX11_setZone 35 = .ok (.new 82, 3) := by decide +kernel
theorem dX11_setZone_38 : decode cX11_setZone 38 = .ok (.dup, 1) := by decide +kernel
theorem dX11_setZone_39 : decode cX11_setZone 39 = .ok (.ldc 84, 2) := by decide +kernel
theorem dX11_setZone_41 : decode cX11_setZone 41 = .ok (.invokespecial 86, 3) := by decide +kernel
theorem dX11_setZone_44 : decode cX11_setZone 44 = .ok (.athrow, 1) := by decide +kernel
theorem dX11_setZone_45 : decode cX11_setZone 45 = .ok (.aload_n 3, 1) := by decide +kernel
theorem dX11_setZone_46 : decode cX11_setZone 46 = .ok (.getfield 87, 3) := by decide +kernel
theorem dX11_setZone_49 : decode cX11_setZone 49 = .ok (.getfield 91, 3) := by decide +kernel
theorem dX11_setZone_52 : decode cX11_setZone 52 = .ok (.istore 4, 2) := by decide +kernel
theorem dX11_setZone_54 : decode cX11_setZone 54 = .ok (.aload_n 3, 1) := by decide +kernel
theorem dX11_setZone_55 : decode cX11_setZone 55 = .ok (.aload_n 0, 1) := by decide +kernel
theorem dX11_setZone_56 : decode cX11_setZone 56 = .ok (.getfield 11, 3) := by decide +kernel
theorem dX11_setZone_59 : decode cX11_setZone 59 = .ok (.iload_n 2, 1) := by decide +kernel
theorem dX11_setZone_60 : decode cX11_setZone 60 = .ok (.aaload, 1) := by decide +kernel
theorem dX11_setZone_61 : decode cX11_setZone 61 = .ok (.putfield 87, 3) := by decide +kernel
theorem dX11_setZone_64 : decode cX11_setZone 64 = .ok (.iload 4, 2) := by decide +kernel
theorem dX11_setZone_66 : decode cX11_setZone 66 = .ok (.ireturn, 1) := by decide +kernel
theorem dX11_setChannels_0 : decode cX11_setChannels 0 = .ok (.aload_n 0, 1) := by decide +kernel
theorem dX11_setChannels_1 : decode cX11_setChannels 1 = .ok (.iload_n 1, 1) := by decide +kernel
theorem dX11_setChannels_2 : decode cX11_setChannels 2 = .ok (.invokevirtual 63, 3) := by decide +kernel
theorem dX11_setChannels_5 : decode cX11_setChannels 5 = .ok (.astore 4, 2) := by decide +kernel
theorem dX11_setChannels_7 : decode cX11_setChannels 7 = .ok (.iload_n 2, 1) := by decide +kernel
theorem dX11_setChannels_8 : decode cX11_setChannels 8 = .ok (.iconst 0, 1) := by decide +kernel
theorem dX11_setChannels_9 : decode cX11_setChannels 9 = .ok (.bipush 10, 2) := by decide +kernel
theorem dX11_setChannels_11 : decode cX11_setChannels 11 = .ok (.invokestatic 67, 3) := by decide +kernel
theorem dX11_setChannels_14 : decode cX11_setChannels 14 = .ok (.ifCond .ne 12, 3) := by decide +kernel
theorem dX11_setChannels_17 : decode cX11_setChannels 17 = .ok (.iload_n 3, 1) := by decide +kernel
theorem dX11_setChannels_18 : decode cX11_setChannels 18 = .ok (.iconst 0, 1) := by decide +kernel
theorem dX11_setChannels_19 : decode cX11_setChannels 19 = .ok (.iload_n 2, 1) := by decide +kernel
theorem dX11_setChannels_20 : decode cX11_setChannels 20 = .ok (.invokestatic 67, 3) := by decide +kernel
theorem dX11_setChannels_23 : decode cX11_setChannels 23 = .ok (.ifCond .eq 13, 3) := by decide +kernel
theorem dX11_setChannels_26 : decode cX11_setChannels 26 = .ok (.new 71, 3) := by decide +kernel
theorem dX11_setChannels_29 : decode cX11_setChannels 29 = .ok (.dup, 1) := by decide +kernel
theorem dX11_setChannels_30 : decode cX11_setChannels 30 = .ok (.ldc 94, 2) := by decide +kernel
theorem dX11_setChannels_32 : decode cX11_setChannels 32 = .ok (.invokespecial 75, 3) := by decide +kernel
theorem dX11_setChannels_35 : decode cX11_setChannels 35 = .ok (.athrow, 1) := by decide +kernel
theorem dX11_setChannels_36 : decode cX11_setChannels 36 = .ok (.aload 4, 2) := by decide +kernel
theorem dX11_setChannels_38 : decode cX11_setChannels 38 = .ok (.iload_n 2, 1) := by decide +kernel
theorem dX11_setChannels_39 : decode cX11_setChannels 39 = .ok (.putfield 96, 3) := by decide +kernel
theorem dX11_setChannels_42 : decode cX11_setChannels 42 = .ok (.aload 4, 2) := by decide +kernel
theorem dX11_setChannels_44 : decode cX11_setChannels 44 = .ok (.iload_n 3, 1) := by decide +kernel
theorem dX11_setChannels_45 : decode cX11_setChannels 45 = .ok (.putfield 99, 3) := by decide +kernel
theorem dX11_setChannels_48 : decode cX11_setChannels 48 = .ok (.aload_n 0, 1) := by decide +kernel
theorem dX11_setChannels_49 : decode cX11_setChannels 49 = .ok (.aload 4, 2) := by decide +kernel
theorem dX11_setChannels_51 : decode cX11_setChannels 51 = .ok (.invokevirtual 102, 3) := by decide +kernel
theorem dX11_setChannels_54 : decode cX11_setChannels 54 = .ok (.ireturn, 1) := by decide +kernel
theorem dX11_setRate_0 : decode cX11_setRate 0 = .ok (.iload_n 1, 1) := by decide +kernel
theorem dX11_setRate_1 : decode cX11_setRate 1 = .ok (.iconst 0, 1) := by decide +kernel
theorem dX11_setRate_2 : decode cX11_setRate 2 = .ok (.iconst 2, 1) := by decide +kernel
theorem dX11_setRate_3 : decode cX11_setRate 3 = .ok (.invokestatic 67, 3) := by decide +kernel
theorem dX11_setRate_6 : decode cX11_setRate 6 = .ok (.ifCond .ne 14, 3) := by decide +kernel
theorem dX11_setRate_9 : decode cX11_setRate 9 = .ok (.iload_n 3, 1) := by decide +kernel
theorem dX11_setRate_10 : decode cX11_setRate 10 = .ok (.iconst 0, 1) := by decide +kernel
theorem dX11_setRate_11 : decode cX11_setRate 11 = .ok (.sipush 1000, 3) := by decide +kernel
theorem dX11_setRate_14 : decode cX11_setRate 14 = .ok (.invokestatic 67, 3) := by decide +kernel
theorem dX11_setRate_17 : decode cX11_setRate 17 = .ok (.ifCond .eq 13, 3) := by decide +kernel
theorem dX11_setRate_20 : decode cX11_setRate 20 = .ok (.new 71, 3) := by decide +kernel
theorem dX11_setRate_23 : decode cX11_setRate 23 = .ok (.dup, 1) := by decide +kernel
theorem dX11_setRate_24 : decode cX11_setRate 24 = .ok (.ldc 106, 2) := by decide +kernel
theorem dX11_setRate_26 : decode cX11_setRate 26 = .ok (.invokespecial 75, 3) := by decide +kernel
theorem dX11_setRate_29 : decode cX11_setRate 29 = .ok (.athrow, 1) := by decide +kernel
theorem dX11_setRate_30 : decode cX11_setRate 30 = .ok (.aload_n 0, 1) := by decide +kernel
theorem dX11_setRate_31 : decode cX11_setRate 31 = .ok (.getfield 11, 3) := by decide +kernel
theorem dX11_setRate_34 : decode cX11_setRate 34 = .ok (.iload_n 1, 1) := by decide +kernel
theorem dX11_setRate_35 : decode cX11_setRate 35 = .ok (.aaload, 1) := by decide +kernel
theorem dX11_setRate_36 : decode cX11_setRate 36 = .ok (.iload_n 2, 1) := by decide +kernel
theorem dX11_setRate_37 : decode cX11_setRate 37 = .ok (.invokevirtual 108, 3) := by decide +kernel
theorem dX11_setRate_40 : decode cX11_setRate 40 = .ok (.astore 4, 2) := by decide +kernel
theorem dX11_setRate_42 : decode cX11_setRate 42 = .ok (.aload 4, 2) := by decide +kernel
theorem dX11_setRate_44 : decode cX11_setRate 44 = .ok (.getfield 112, 3) := by decide +kernel
theorem dX11_setRate_47 : decode cX11_setRate 47 = .ok (.istore 5, 2) := by decide +kernel
theorem dX11_setRate_49 : decode cX11_setRate 49 = .ok (.aload 4, 2) := by decide +kernel
theorem dX11_setRate_51 : decode cX11_setRate 51 = .ok (.aload_n 0, 1) := by decide +kernel
theorem dX11_setRate_52 : decode cX11_setRate 52 = .ok (.getfield 50, 3) := by decide +kernel
theorem dX11_setRate_55 : decode cX11_setRate 55 = .ok (.iload_n 3, 1) := by decide +kernel
theorem dX11_setRate_56 : decode cX11_setRate 56 = .ok (.invokevirtual 117, 3) := by decide +kernel
theorem dX11_setRate_59 : decode cX11_setRate 59 = .ok (.iload 5, 2) := by decide +kernel
theorem dX11_setRate_61 : decode cX11_setRate 61 = .ok (.ireturn, 1) := by decide +kernel
theorem dX11_setSlice_0 : decode cX11_setSlice 0 = .ok (.iload_n 1, 1) := by decide +kernel
theorem dX11_setSlice_1 : decode cX11_setSlice 1 = .ok (.iconst 1, 1) := by decide +kernel
theorem dX11_setSlice_2 : decode cX11_setSlice 2 = .ok (.bipush 100, 2) := by decide +kernel
theorem dX11_setSlice_4 : decode cX11_setSlice 4 = .ok (.invokestatic 67, 3) := by decide +kernel
theorem dX11_setSlice_7 : decode cX11_setSlice 7 = .ok (.ifCond .eq 13, 3) := by decide +kernel
theorem dX11_setSlice_10 : decode cX11_setSlice 10 = .ok (.new 71, 3) := by decide +kernel
theorem dX11_setSlice_13 : decode cX11_setSlice 13 = .ok (.dup, 1) := by decide +kernel
theorem dX11_setSlice_14 : decode cX11_setSlice 14 = .ok (.ldc 121, 2) := by decide +kernel
theorem dX11_setSlice_16 : decode cX11_setSlice 16 = .ok (.invokespecial 75, 3) := by decide +kernel
theorem dX11_setSlice_19 : decode cX11_setSlice 19 = .ok (.athrow, 1) := by decide +kernel
theorem dX11_setSlice_20 : decode cX11_setSlice 20 = .ok (.aload_n 0, 1) := by decide +kernel
theorem dX11_setSlice_21 : decode cX11_setSlice 21 = .ok (.getfield 46, 3) := by decide +kernel
theorem dX11_setSlice_24 : decode cX11_setSlice 24 = .ok (.istore_n 2, 1) := by decide +kernel
theorem dX11_setSlice_25 : decode cX11_setSlice 25 = .ok (.aload_n 0, 1) := by decide +kernel
theorem dX11_setSlice_26 : decode cX11_setSlice 26 = .ok (.iload_n 1, 1) := by decide +kernel
theorem dX11_setSlice_27 : decode cX11_setSlice 27 = .ok (.putfield 46, 3) := by decide +kernel
theorem dX11_setSlice_30 : decode cX11_setSlice 30 = .ok (.iload_n 2, 1) := by decide +kernel
theorem dX11_setSlice_31 : decode cX11_setSlice 31 = .ok (.ireturn, 1) := by decide +kernel
theorem dX11_setCap_0 : decode cX11_setCap 0 = .ok (.aload_n 0, 1) := by decide +kernel
theorem dX11_setCap_1 : decode cX11_setCap 1 = .ok (.iload_n 1, 1) := by decide +kernel
theorem dX11_setCap_2 : decode cX11_setCap 2 = .ok (.invokevirtual 123, 3) := by decide +kernel
theorem dX11_setCap_5 : decode cX11_setCap 5 = .ok (.astore_n 3, 1) := by decide +kernel
theorem dX11_setCap_6 : decode cX11_setCap 6 = .ok (.iload_n 2, 1) := by decide +kernel
theorem dX11_setCap_7 : decode cX11_setCap 7 = .ok (.iconst (-1), 1) := by decide +kernel
theorem dX11_setCap_8 : decode cX11_setCap 8 = .ok (.if_icmp .eq 23, 3) := by decide +kernel
theorem dX11_setCap_11 : decode cX11_setCap 11 = .ok (.iload_n 2, 1) := by decide +kernel
theorem dX11_setCap_12 : decode cX11_setCap 12 = .ok (.iconst 0, 1) := by decide +kernel
theorem dX11_setCap_13 : decode cX11_setCap 13 = .ok (.ldc 127, 2) := by decide +kernel
theorem dX11_setCap_15 : decode cX11_setCap 15 = .ok (.invokestatic 67, 3) := by decide +kernel
theorem dX11_setCap_18 : decode cX11_setCap 18 = .ok (.ifCond .eq 13, 3) := by decide +kernel
theorem dX11_setCap_21 : decode cX11_setCap 21 = .ok (.new 71, 3) := by decide +kernel
theorem dX11_setCap_24 : decode cX11_setCap 24 = .ok (.dup, 1) := by decide +kernel
theorem dX11_setCap_25 : decode cX11_setCap 25 = .ok (.ldc 128, 2) := by decide +kernel
theorem dX11_setCap_27 : decode cX11_setCap 27 = .ok (.invokespecial 75, 3) := by decide +kernel
theorem dX11_setCap_30 : decode cX11_setCap 30 = .ok (.athrow, 1) := by decide +kernel
theorem dX11_setCap_31 : decode cX11_setCap 31 = .ok (.aload_n 3, 1) := by decide +kernel
theorem dX11_setCap_32 : decode cX11_setCap 32 = .ok (.getfield 130, 3) := by decide +kernel
theorem dX11_setCap_35 : decode cX11_setCap 35 = .ok (.istore 4, 2) := by decide +kernel
theorem dX11_setCap_37 : decode cX11_setCap 37 = .ok (.aload_n 3, 1) := by decide +kernel
theorem dX11_setCap_38 : decode cX11_setCap 38 = .ok (.iload_n 2, 1) := by decide +kernel
theorem dX11_setCap_39 : decode cX11_setCap 39 = .ok (.putfield 130, 3) := by decide +kernel
theorem dX11_setCap_42 : decode cX11_setCap 42 = .ok (.iload 4, 2) := by decide +kernel
theorem dX11_setCap_44 : decode cX11_setCap 44 = .ok (.ireturn, 1) := by decide +kernel
theorem dX11_setWallet_0 : decode cX11_setWallet 0 = .ok (.aload_n 0, 1) := by decide +kernel
theorem dX11_setWallet_1 : decode cX11_setWallet 1 = .ok (.iload_n 1, 1) := by decide +kernel
theorem dX11_setWallet_2 : decode cX11_setWallet 2 = .ok (.invokevirtual 123, 3) := by decide +kernel
theorem dX11_setWallet_5 : decode cX11_setWallet 5 = .ok (.astore_n 3, 1) := by decide +kernel
theorem dX11_setWallet_6 : decode cX11_setWallet 6 = .ok (.aload_n 0, 1) := by decide +kernel
theorem dX11_setWallet_7 : decode cX11_setWallet 7 = .ok (.iload_n 2, 1) := by decide +kernel
theorem dX11_setWallet_8 : decode cX11_setWallet 8 = .ok (.invokevirtual 133, 3) := by decide +kernel
theorem dX11_setWallet_11 : decode cX11_setWallet 11 = .ok (.astore 4, 2) := by decide +kernel
theorem dX11_setWallet_13 : decode cX11_setWallet 13 = .ok (.aload_n 3, 1) := by decide +kernel
theorem dX11_setWallet_14 : decode cX11_setWallet 14 = .ok (.getfield 137, 3) := by decide +kernel
theorem dX11_setWallet_17 : decode cX11_setWallet 17 = .ok (.ifnull 13, 3) := by decide +kernel
theorem dX11_setWallet_20 : decode cX11_setWallet 20 = .ok (.new 82, 3) := by decide +kernel
theorem dX11_setWallet_23 : decode cX11_setWallet 23 = .ok (.dup, 1) := by decide +kernel
theorem dX11_setWallet_24 : decode cX11_setWallet 24 = .ok (.ldc 141, 2) := by decide +kernel
theorem dX11_setWallet_26 : decode cX11_setWallet 26 = .ok (.invokespecial 86, 3) := by decide +kernel
theorem dX11_setWallet_29 : decode cX11_setWallet 29 = .ok (.athrow, 1) := by decide +kernel
theorem dX11_setWallet_30 : decode cX11_setWallet 30 = .ok (.aload_n 3, 1) := by decide +kernel
theorem dX11_setWallet_31 : decode cX11_setWallet 31 = .ok (.getfield 143, 3) := by decide +kernel
theorem dX11_setWallet_34 : decode cX11_setWallet 34 = .ok (.getfield 147, 3) := by decide +kernel
theorem dX11_setWallet_37 : decode cX11_setWallet 37 = .ok (.istore 5, 2) := by decide +kernel
theorem dX11_setWallet_39 : decode cX11_setWallet 39 = .ok (.aload_n 3, 1) := by decide +kernel
theorem dX11_setWallet_40 : decode cX11_setWallet 40 = .ok (.aload 4, 2) := by decide +kernel
theorem dX11_setWallet_42 : decode cX11_setWallet 42 = .ok (.putfield 143, 3) := by decide +kernel
theorem dX11_setWallet_45 : decode cX11_setWallet 45 = .ok (.iload 5, 2) := by decide +kernel
theorem dX11_setWallet_47 : decode cX11_setWallet 47 = .ok (.ireturn, 1) := by decide +kernel
theorem dX11_top_0 : decode cX11_top 0 = .ok (.aload_n 0, 1) := by decide +kernel
theorem dX11_top_1 : decode cX11_top 1 = .ok (.iload_n 1, 1) := by decide +kernel
theorem dX11_top_2 : decode cX11_top 2 = .ok (.invokevirtual 133, 3) := by decide +kernel
theorem dX11_top_5 : decode cX11_top 5 = .ok (.astore_n 3, 1) := by decide +kernel
theorem dX11_top_6 : decode cX11_top 6 = .ok (.iload_n 2, 1) := by decide +kernel
theorem dX11_top_7 : decode cX11_top 7 = .ok (.iconst 1, 1) := by decide +kernel
theorem dX11_top_8 : decode cX11_top 8 = .ok (.ldc 127, 2) := by decide +kernel
theorem dX11_top_10 : decode cX11_top 10 = .ok (.invokestatic 67, 3) := by decide +kernel
theorem dX11_top_13 : decode cX11_top 13 = .ok (.ifCond .eq 13, 3) := by decide +kernel
theorem dX11_top_16 : decode cX11_top 16 = .ok (.new 71, 3) := by decide +kernel
theorem dX11_top_19 : decode cX11_top 19 = .ok (.dup, 1) := by decide +kernel
theorem dX11_top_20 : decode cX11_top 20 = .ok (.ldc 148, 2) := by decide +kernel
theorem dX11_top_22 : decode cX11_top 22 = .ok (.invokespecial 75, 3) := by decide +kernel
theorem dX11_top_25 : decode cX11_top 25 = .ok (.athrow, 1) := by decide +kernel
theorem dX11_top_26 : decode cX11_top 26 = .ok (.aload_n 3, 1) := by decide +kernel
theorem dX11_top_27 : decode cX11_top 27 = .ok (.dup, 1) := by decide +kernel
theorem dX11_top_28 : decode cX11_top 28 = .ok (.getfield 150, 3) := by decide +kernel
theorem dX11_top_31 : decode cX11_top 31 = .ok (.iload_n 2, 1) := by decide +kernel
theorem dX11_top_32 : decode cX11_top 32 = .ok (.iadd, 1) := by decide +kernel
theorem dX11_top_33 : decode cX11_top 33 = .ok (.putfield 150, 3) := by decide +kernel
theorem dX11_top_36 : decode cX11_top 36 = .ok (.aload_n 3, 1) := by decide +kernel
theorem dX11_top_37 : decode cX11_top 37 = .ok (.getfield 150, 3) := by decide +kernel
theorem dX11_top_40 : decode cX11_top 40 = .ok (.ireturn, 1) := by decide +kernel
theorem dX11_give_0 : decode cX11_give 0 = .ok (.aload_n 0, 1) := by decide +kernel
theorem dX11_give_1 : decode cX11_give 1 = .ok (.iload_n 1, 1) := by decide +kernel
theorem dX11_give_2 : decode cX11_give 2 = .ok (.invokevirtual 133, 3) := by decide +kernel
theorem dX11_give_5 : decode cX11_give 5 = .ok (.astore 4, 2) := by decide +kernel
theorem dX11_give_7 : decode cX11_give 7 = .ok (.aload_n 0, 1) := by decide +kernel
theorem dX11_give_8 : decode cX11_give 8 = .ok (.iload_n 2, 1) := by decide +kernel
theorem dX11_give_9 : decode cX11_give 9 = .ok (.invokevirtual 133, 3) := by decide +kernel
theorem dX11_give_12 : decode cX11_give 12 = .ok (.astore 5, 2) := by decide +kernel
theorem dX11_give_14 : decode cX11_give 14 = .ok (.iload_n 1, 1) := by decide +kernel
theorem dX11_give_15 : decode cX11_give 15 = .ok (.iload_n 2, 1) := by decide +kernel
theorem dX11_give_16 : decode cX11_give 16 = .ok (.if_icmp .eq 13, 3) := by decide +kernel
theorem dX11_give_19 : decode cX11_give 19 = .ok (.iload_n 3, 1) := by decide +kernel
theorem dX11_give_20 : decode cX11_give 20 = .ok (.iconst 1, 1) := by decide +kernel
theorem dX11_give_21 : decode cX11_give 21 = .ok (.ldc 127, 2) := by decide +kernel
theorem dX11_give_23 : decode cX11_give 23 = .ok (.invokestatic 67, 3) := by decide +kernel
theorem dX11_give_26 : decode cX11_give 26 = .ok (.ifCond .eq 13, 3) := by decide +kernel
theorem dX11_give_29 : decode cX11_give 29 = .ok (.new 71, 3) := by decide +kernel
theorem dX11_give_32 : decode cX11_give 32 = .ok (.dup, 1) := by decide +kernel
theorem dX11_give_33 : decode cX11_give 33 = .ok (.ldc 153, 2) := by decide +kernel
theorem dX11_give_35 : decode cX11_give 35 = .ok (.invokespecial 75, 3) := by decide +kernel
theorem dX11_give_38 : decode cX11_give 38 = .ok (.athrow, 1) := by decide +kernel
theorem dX11_give_39 : decode cX11_give 39 = .ok (.aload 4, 2) := by decide +kernel
theorem dX11_give_41 : decode cX11_give 41 = .ok (.getfield 150, 3) := by decide +kernel
theorem dX11_give_44 : decode cX11_give 44 = .ok (.iload_n 3, 1) := by decide +kernel
theorem dX11_give_45 : decode cX11_give 45 = .ok (.if_icmp .ge 13, 3) := by decide +kernel
theorem dX11_give_48 : decode cX11_give 48 = .ok (.new 82, 3) := by decide +kernel
theorem dX11_give_51 : decode cX11_give 51 = .ok (.dup, 1) := by decide +kernel
theorem dX11_give_52 : decode cX11_give 52 = .ok (.ldc 155, 2) := by decide +kernel
theorem dX11_give_54 : decode cX11_give 54 = .ok (.invokespecial 86, 3) := by decide +kernel
theorem dX11_give_57 : decode cX11_give 57 = .ok (.athrow, 1) := by decide +kernel
theorem dX11_give_58 : decode cX11_give 58 = .ok (.aload 4, 2) := by decide +kernel
theorem dX11_give_60 : decode cX11_give 60 = .ok (.dup, 1) := by decide +kernel
theorem dX11_give_61 : decode cX11_give 61 = .ok (.getfield 150, 3) := by decide +kernel
theorem dX11_give_64 : decode cX11_give 64 = .ok (.iload_n 3, 1) := by decide +kernel
theorem dX11_give_65 : decode cX11_give 65 = .ok (.isub, 1) := by decide +kernel
theorem dX11_give_66 : decode cX11_give 66 = .ok (.putfield 150, 3) := by decide +kernel
theorem dX11_give_69 : decode cX11_give 69 = .ok (.aload 5, 2) := by decide +kernel
theorem dX11_give_71 : decode cX11_give 71 = .ok (.dup, 1) := by decide +kernel
theorem dX11_give_72 : decode cX11_give 72 = .ok (.getfield 150, 3) := by decide +kernel
theorem dX11_give_75 : decode cX11_give 75 = .ok (.iload_n 3, 1) := by decide +kernel
theorem dX11_give_76 : decode cX11_give 76 = .ok (.iadd, 1) := by decide +kernel
theorem dX11_give_77 : decode cX11_give 77 = .ok (.putfield 150, 3) := by decide +kernel
theorem dX11_give_80 : decode cX11_give 80 = .ok (.aload 4, 2) := by decide +kernel
theorem dX11_give_82 : decode cX11_give 82 = .ok (.getfield 150, 3) := by decide +kernel
theorem dX11_give_85 : decode cX11_give 85 = .ok (.ireturn, 1) := by decide +kernel
theorem dX11_buy_0 : decode cX11_buy 0 = .ok (.aload_n 0, 1) := by decide +kernel
theorem dX11_buy_1 : decode cX11_buy 1 = .ok (.iload_n 1, 1) := by decide +kernel
theorem dX11_buy_2 : decode cX11_buy 2 = .ok (.invokevirtual 133, 3) := by decide +kernel
theorem dX11_buy_5 : decode cX11_buy 5 = .ok (.astore 7, 2) := by decide +kernel
theorem dX11_buy_7 : decode cX11_buy 7 = .ok (.iload_n 2, 1) := by decide +kernel
theorem dX11_buy_8 : decode cX11_buy 8 = .ok (.iconst 1, 1) := by decide +kernel
theorem dX11_buy_9 : decode cX11_buy 9 = .ok (.bipush 7, 2) := by decide +kernel
theorem dX11_buy_11 : decode cX11_buy 11 = .ok (.invokestatic 67, 3) := by decide +kernel
theorem dX11_buy_14 : decode cX11_buy 14 = .ok (.ifCond .ne 47, 3) := by decide +kernel
theorem dX11_buy_17 : decode cX11_buy 17 = .ok (.iload_n 3, 1) := by decide +kernel
theorem dX11_buy_18 : decode cX11_buy 18 = .ok (.iconst 1, 1) := by decide +kernel
theorem dX11_buy_19 : decode cX11_buy 19 = .ok (.sipush 5000, 3) := by decide +kernel
theorem dX11_buy_22 : decode cX11_buy 22 = .ok (.invokestatic 67, 3) := by decide +kernel
theorem dX11_buy_25 : decode cX11_buy 25 = .ok (.ifCond .ne 36, 3) := by decide +kernel
theorem dX11_buy_28 : decode cX11_buy 28 = .ok (.iload 4, 2) := by decide +kernel
theorem dX11_buy_30 : decode cX11_buy 30 = .ok (.iconst 1, 1) := by decide +kernel
theorem dX11_buy_31 : decode cX11_buy 31 = .ok (.bipush 30, 2) := by decide +kernel
theorem dX11_buy_33 : decode cX11_buy 33 = .ok (.invokestatic 67, 3) := by decide +kernel
theorem dX11_buy_36 : decode cX11_buy 36 = .ok (.ifCond .ne 25, 3) := by decide +kernel
theorem dX11_buy_39 : decode cX11_buy 39 = .ok (.iload 5, 2) := by decide +kernel
theorem dX11_buy_41 : decode cX11_buy 41 = .ok (.iconst 0, 1) := by decide +kernel
theorem dX11_buy_42 : decode cX11_buy 42 = .ok (.bipush 9, 2) := by decide +kernel
theorem dX11_buy_44 : decode cX11_buy 44 = .ok (.invokestatic 67, 3) := by decide +kernel
theorem dX11_buy_47 : decode cX11_buy 47 = .ok (.ifCond .ne 14, 3) := by decide +kernel
theorem dX11_buy_50 : decode cX11_buy 50 = .ok (.iload 6, 2) := by decide +kernel
theorem dX11_buy_52 : decode cX11_buy 52 = .ok (.iconst 0, 1) := by decide +kernel
theorem dX11_buy_53 : decode cX11_buy 53 = .ok (.ldc 127, 2) := by decide +kernel
theorem dX11_buy_55 : decode cX11_buy 55 = .ok (.invokestatic 67, 3) := by decide +kernel
theorem dX11_buy_58 : decode cX11_buy 58 = .ok (.ifCond .eq 13, 3) := by decide +kernel
theorem dX11_buy_61 : decode cX11_buy 61 = .ok (.new 71, 3) := by decide +kernel
theorem dX11_buy_64 : decode cX11_buy 64 = .ok (.dup, 1) := by decide +kernel
theorem dX11_buy_65 : decode cX11_buy 65 = .ok (.ldc 157, 2) := by decide +kernel
theorem dX11_buy_67 : decode cX11_buy 67 = .ok (.invokespecial 75, 3) := by decide +kernel
theorem dX11_buy_70 : decode cX11_buy 70 = .ok (.athrow, 1) := by decide +kernel
theorem dX11_buy_71 : decode cX11_buy 71 = .ok (.aload 7, 2) := by decide +kernel
theorem dX11_buy_73 : decode cX11_buy 73 = .ok (.getfield 150, 3) := by decide +kernel
theorem dX11_buy_76 : decode cX11_buy 76 = .ok (.iload 6, 2) := by decide +kernel
theorem dX11_buy_78 : decode cX11_buy 78 = .ok (.if_icmp .lt 15, 3) := by decide +kernel
theorem dX11_buy_81 : decode cX11_buy 81 = .ok (.aload_n 0, 1) := by decide +kernel
theorem dX11_buy_82 : decode cX11_buy 82 = .ok (.getfield 36, 3) := by decide +kernel
theorem dX11_buy_85 : decode cX11_buy 85 = .ok (.invokevirtual 159, 3) := by decide +kernel
theorem dX11_buy_88 : decode cX11_buy 88 = .ok (.bipush 40, 2) := by decide +kernel
theorem dX11_buy_90 : decode cX11_buy 90 = .ok (.if_icmp .lt 13, 3) := by decide +kernel
theorem dX11_buy_93 : decode cX11_buy 93 = .ok (.new 82, 3) := by decide +kernel
theorem dX11_buy_96 : decode cX11_buy 96 = .ok (.dup, 1) := by decide +kernel
theorem dX11_buy_97 : decode cX11_buy 97 = .ok (.ldc 163, 2) := by decide +kernel
theorem dX11_buy_99 : decode cX11_buy 99 = .ok (.invokespecial 86, 3) := by decide +kernel
theorem dX11_buy_102 : decode cX11_buy 102 = .ok (.athrow, 1) := by decide +kernel
theorem dX11_buy_103 : decode cX11_buy 103 = .ok (.aload_n 0, 1) := by decide +kernel
theorem dX11_buy_104 : decode cX11_buy 104 = .ok (.getfield 36, 3) := by decide +kernel
theorem dX11_buy_107 : decode cX11_buy 107 = .ok (.invokevirtual 159, 3) := by decide +kernel
theorem dX11_buy_110 : decode cX11_buy 110 = .ok (.istore 8, 2) := by decide +kernel
theorem dX11_buy_112 : decode cX11_buy 112 = .ok (.aload 7, 2) := by decide +kernel
theorem dX11_buy_114 : decode cX11_buy 114 = .ok (.dup, 1) := by decide +kernel
theorem dX11_buy_115 : decode cX11_buy 115 = .ok (.getfield 150, 3) := by decide +kernel
theorem dX11_buy_118 : decode cX11_buy 118 = .ok (.iload 6, 2) := by decide +kernel
theorem dX11_buy_120 : decode cX11_buy 120 = .ok (.isub, 1) := by decide +kernel
theorem dX11_buy_121 : decode cX11_buy 121 = .ok (.putfield 150, 3) := by decide +kernel
theorem dX11_buy_124 : decode cX11_buy 124 = .ok (.new 165, 3) := by decide +kernel
theorem dX11_buy_127 : decode cX11_buy 127 = .ok (.dup, 1) := by decide +kernel
theorem dX11_buy_128 : decode cX11_buy 128 = .ok (.iload_n 2, 1) := by decide +kernel
theorem dX11_buy_129 : decode cX11_buy 129 = .ok (.iload_n 3, 1) := by decide +kernel
theorem dX11_buy_130 : decode cX11_buy 130 = .ok (.aload_n 0, 1) := by decide +kernel
theorem dX11_buy_131 : decode cX11_buy 131 = .ok (.getfield 50, 3) := by decide +kernel
theorem dX11_buy_134 : decode cX11_buy 134 = .ok (.invokestatic 167, 3) := by decide +kernel
theorem dX11_buy_137 : decode cX11_buy 137 = .ok (.iload 4, 2) := by decide +kernel
theorem dX11_buy_139 : decode cX11_buy 139 = .ok (.iadd, 1) := by decide +kernel
theorem dX11_buy_140 : decode cX11_buy 140 = .ok (.iload 5, 2) := by decide +kernel
theorem dX11_buy_142 : decode cX11_buy 142 = .ok (.invokespecial 171, 3) := by decide +kernel
theorem dX11_buy_145 : decode cX11_buy 145 = .ok (.astore 9, 2) := by decide +kernel
theorem dX11_buy_147 : decode cX11_buy 147 = .ok (.aload 7, 2) := by decide +kernel
theorem dX11_buy_149 : decode cX11_buy 149 = .ok (.aload 9, 2) := by decide +kernel
theorem dX11_buy_151 : decode cX11_buy 151 = .ok (.invokevirtual 174, 3) := by decide +kernel
theorem dX11_buy_154 : decode cX11_buy 154 = .ok (.aload_n 0, 1) := by decide +kernel
theorem dX11_buy_155 : decode cX11_buy 155 = .ok (.getfield 36, 3) := by decide +kernel
theorem dX11_buy_158 : decode cX11_buy 158 = .ok (.aload 9, 2) := by decide +kernel
theorem dX11_buy_160 : decode cX11_buy 160 = .ok (.invokevirtual 178, 3) := by decide +kernel
theorem dX11_buy_163 : decode cX11_buy 163 = .ok (.pop, 1) := by decide +kernel
theorem dX11_buy_164 : decode cX11_buy 164 = .ok (.iload 8, 2) := by decide +kernel
theorem dX11_buy_166 : decode cX11_buy 166 = .ok (.ireturn, 1) := by decide +kernel
theorem dX11_free_0 : decode cX11_free 0 = .ok (.aload_n 0, 1) := by decide +kernel
theorem dX11_free_1 : decode cX11_free 1 = .ok (.iload_n 1, 1) := by decide +kernel
theorem dX11_free_2 : decode cX11_free 2 = .ok (.invokevirtual 133, 3) := by decide +kernel
theorem dX11_free_5 : decode cX11_free 5 = .ok (.getfield 150, 3) := by decide +kernel
theorem dX11_free_8 : decode cX11_free 8 = .ok (.ireturn, 1) := by decide +kernel
theorem dX11_aside_0 : decode cX11_aside 0 = .ok (.aload_n 0, 1) := by decide +kernel
theorem dX11_aside_1 : decode cX11_aside 1 = .ok (.iload_n 1, 1) := by decide +kernel
theorem dX11_aside_2 : decode cX11_aside 2 = .ok (.invokevirtual 133, 3) := by decide +kernel
theorem dX11_aside_5 : decode cX11_aside 5 = .ok (.astore_n 2, 1) := by decide +kernel
theorem dX11_aside_6 : decode cX11_aside 6 = .ok (.iconst 0, 1) := by decide +kernel
theorem dX11_aside_7 : decode cX11_aside 7 = .ok (.istore_n 3, 1) := by decide +kernel
theorem dX11_aside_8 : decode cX11_aside 8 = .ok (.aload_n 0, 1) := by decide +kernel
theorem dX11_aside_9 : decode cX11_aside 9 = .ok (.getfield 29, 3) := by decide +kernel
theorem dX11_aside_12 : decode cX11_aside 12 = .ok (.astore 4, 2) := by decide +kernel
theorem dX11_aside_14 : decode cX11_aside 14 = .ok (.aload 4, 2) := by decide +kernel
theorem dX11_aside_16 : decode cX11_aside 16 = .ok (.arraylength, 1) := by decide +kernel
theorem dX11_aside_17 : decode cX11_aside 17 = .ok (.istore 5, 2) := by decide +kernel
theorem dX11_aside_19 : decode cX11_aside 19 = .ok (.iconst 0, 1) := by decide +kernel
theorem dX11_aside_20 : decode cX11_aside 20 = .ok (.istore 6, 2) := by decide +kernel
theorem dX11_aside_22 : decode cX11_aside 22 = .ok (.iload 6, 2) := by decide +kernel
theorem dX11_aside_24 : decode cX11_aside 24 = .ok (.iload 5, 2) := by decide +kernel
theorem dX11_aside_26 : decode cX11_aside 26 = .ok (.if_icmp .ge 50, 3) := by decide +kernel
theorem dX11_aside_29 : decode cX11_aside 29 = .ok (.aload 4, 2) := by decide +kernel
theorem dX11_aside_31 : decode cX11_aside 31 = .ok (.iload 6, 2) := by decide +kernel
theorem dX11_aside_33 : decode cX11_aside 33 = .ok (.aaload, 1) := by decide +kernel
theorem dX11_aside_34 : decode cX11_aside 34 = .ok (.astore 7, 2) := by decide +kernel
theorem dX11_aside_36 : decode cX11_aside 36 = .ok (.aload 7, 2) := by decide +kernel
theorem dX11_aside_38 : decode cX11_aside 38 = .ok (.getfield 137, 3) := by decide +kernel
theorem dX11_aside_41 : decode cX11_aside 41 = .ok (.ifnull 29, 3) := by decide +kernel
theorem dX11_aside_44 : decode cX11_aside 44 = .ok (.aload 7, 2) := by decide +kernel
theorem dX11_aside_46 : decode cX11_aside 46 = .ok (.getfield 137, 3) := by decide +kernel
theorem dX11_aside_49 : decode cX11_aside 49 = .ok (.getfield 182, 3) := by decide +kernel
theorem dX11_aside_52 : decode cX11_aside 52 = .ok (.aload_n 2, 1) := by decide +kernel
theorem dX11_aside_53 : decode cX11_aside 53 = .ok (.if_acmp .ne 17, 3) := by decide +kernel
theorem dX11_aside_56 : decode cX11_aside 56 = .ok (.iload_n 3, 1) := by decide +kernel
theorem dX11_aside_57 : decode cX11_aside 57 = .ok (.aload 7, 2) := by decide +kernel
theorem dX11_aside_59 : decode cX11_aside 59 = .ok (.getfield 137, 3) := by decide +kernel
theorem dX11_aside_62 : decode cX11_aside 62 = .ok (.getfield 187, 3) := by decide +kernel
theorem dX11_aside_65 : decode cX11_aside 65 = .ok (.invokevirtual 191, 3) := by decide +kernel
theorem dX11_aside_68 : decode cX11_aside 68 = .ok (.iadd, 1) := by decide +kernel
theorem dX11_aside_69 : decode cX11_aside 69 = .ok (.istore_n 3, 1) := by decide +kernel
theorem dX11_aside_70 : decode cX11_aside 70 = .ok (.iinc 6 1, 3) := by decide +kernel
theorem dX11_aside_73 : decode cX11_aside 73 = .ok (.goto (-51), 3) := by decide +kernel
theorem dX11_aside_76 : decode cX11_aside 76 = .ok (.iload_n 3, 1) := by decide +kernel
theorem dX11_aside_77 : decode cX11_aside 77 = .ok (.ireturn, 1) := by decide +kernel
theorem dX11_spent_0 : decode cX11_spent 0 = .ok (.aload_n 0, 1) := by decide +kernel
theorem dX11_spent_1 : decode cX11_spent 1 = .ok (.iload_n 1, 1) := by decide +kernel
theorem dX11_spent_2 : decode cX11_spent 2 = .ok (.invokevirtual 133, 3) := by decide +kernel
theorem dX11_spent_5 : decode cX11_spent 5 = .ok (.getfield 196, 3) := by decide +kernel
theorem dX11_spent_8 : decode cX11_spent 8 = .ok (.ireturn, 1) := by decide +kernel
theorem dX11_left_0 : decode cX11_left 0 = .ok (.iload_n 1, 1) := by decide +kernel
theorem dX11_left_1 : decode cX11_left 1 = .ok (.ifCond .lt 14, 3) := by decide +kernel
theorem dX11_left_4 : decode cX11_left 4 = .ok (.iload_n 1, 1) := by decide +kernel
theorem dX11_left_5 : decode cX11_left 5 = .ok (.aload_n 0, 1) := by decide +kernel
theorem dX11_left_6 : decode cX11_left 6 = .ok (.getfield 36, 3) := by decide +kernel
theorem dX11_left_9 : decode cX11_left 9 = .ok (.invokevirtual 159, 3) := by decide +kernel
theorem dX11_left_12 : decode cX11_left 12 = .ok (.if_icmp .lt 13, 3) := by decide +kernel
theorem dX11_left_15 : decode cX11_left 15 = .ok (.new 199, 3) := by decide +kernel
theorem dX11_left_18 : decode cX11_left 18 = .ok (.dup, 1) := by decide +kernel
theorem dX11_left_19 : decode cX11_left 19 = .ok (.ldc 201, 2) := by decide +kernel
theorem dX11_left_21 : decode cX11_left 21 = .ok (.invokespecial 203, 3) := by decide +kernel
theorem dX11_left_24 : decode cX11_left 24 = .ok (.athrow, 1) := by decide +kernel
theorem dX11_left_25 : decode cX11_left 25 = .ok (.aload_n 0, 1) := by decide +kernel
theorem dX11_left_26 : decode cX11_left 26 = .ok (.getfield 36, 3) := by decide +kernel
theorem dX11_left_29 : decode cX11_left 29 = .ok (.iload_n 1, 1) := by decide +kernel
theorem dX11_left_30 : decode cX11_left 30 = .ok (.invokevirtual 204, 3) := by decide +kernel
theorem dX11_left_33 : decode cX11_left 33 = .ok (.checkcast 165, 3) := by decide +kernel
theorem dX11_left_36 : decode cX11_left 36 = .ok (.astore_n 2, 1) := by decide +kernel
theorem dX11_left_37 : decode cX11_left 37 = .ok (.aload_n 2, 1) := by decide +kernel
theorem dX11_left_38 : decode cX11_left 38 = .ok (.aload_n 0, 1) := by decide +kernel
theorem dX11_left_39 : decode cX11_left 39 = .ok (.getfield 50, 3) := by decide +kernel
theorem dX11_left_42 : decode cX11_left 42 = .ok (.invokestatic 167, 3) := by decide +kernel
theorem dX11_left_45 : decode cX11_left 45 = .ok (.invokevirtual 208, 3) := by decide +kernel
theorem dX11_left_48 : decode cX11_left 48 = .ok (.ifCond .eq 7, 3) := by decide +kernel
theorem dX11_left_51 : decode cX11_left 51 = .ok (.iconst 0, 1) := by decide +kernel
theorem dX11_left_52 : decode cX11_left 52 = .ok (.goto 7, 3) := by decide +kernel
theorem dX11_left_55 : decode cX11_left 55 = .ok (.aload_n 2, 1) := by decide +kernel
theorem dX11_left_56 : decode cX11_left 56 = .ok (.getfield 212, 3) := by decide +kernel
theorem dX11_left_59 : decode cX11_left 59 = .ok (.ireturn, 1) := by decide +kernel
theorem dX11_begin_0 : decode cX11_begin 0 = .ok (.aload_n 0, 1) := by decide +kernel
theorem dX11_begin_1 : decode cX11_begin 1 = .ok (.iload_n 1, 1) := by decide +kernel
theorem dX11_begin_2 : decode cX11_begin 2 = .ok (.invokevirtual 123, 3) := by decide +kernel
theorem dX11_begin_5 : decode cX11_begin 5 = .ok (.astore 4, 2) := by decide +kernel
theorem dX11_begin_7 : decode cX11_begin 7 = .ok (.aload_n 0, 1) := by decide +kernel
theorem dX11_begin_8 : decode cX11_begin 8 = .ok (.iload_n 2, 1) := by decide +kernel
theorem dX11_begin_9 : decode cX11_begin 9 = .ok (.invokevirtual 123, 3) := by decide +kernel
theorem dX11_begin_12 : decode cX11_begin 12 = .ok (.astore 5, 2) := by decide +kernel
theorem dX11_begin_14 : decode cX11_begin 14 = .ok (.iload_n 1, 1) := by decide +kernel
theorem dX11_begin_15 : decode cX11_begin 15 = .ok (.iload_n 2, 1) := by decide +kernel
theorem dX11_begin_16 : decode cX11_begin 16 = .ok (.if_icmp .ne 13, 3) := by decide +kernel
theorem dX11_begin_19 : decode cX11_begin 19 = .ok (.new 71, 3) := by decide +kernel
theorem dX11_begin_22 : decode cX11_begin 22 = .ok (.dup, 1) := by decide +kernel
theorem dX11_begin_23 : decode cX11_begin 23 = .ok (.ldc 215, 2) := by decide +kernel
theorem dX11_begin_25 : decode cX11_begin 25 = .ok (.invokespecial 75, 3) := by decide +kernel
theorem dX11_begin_28 : decode cX11_begin 28 = .ok (.athrow, 1) := by decide +kernel
theorem dX11_begin_29 : decode cX11_begin 29 = .ok (.aload 4, 2) := by decide +kernel
theorem dX11_begin_31 : decode cX11_begin 31 = .ok (.getfield 137, 3) := by decide +kernel
theorem dX11_begin_34 : decode cX11_begin 34 = .ok (.ifnonnull 11, 3) := by decide +kernel
theorem dX11_begin_37 : decode cX11_begin 37 = .ok (.aload 5, 2) := by decide +kernel
theorem dX11_begin_39 : decode cX11_begin 39 = .ok (.getfield 137, 3) := by decide +kernel
theorem dX11_begin_42 : decode cX11_begin 42 = .ok (.ifnull 13, 3) := by decide +kernel
theorem dX11_begin_45 : decode cX11_begin 45 = .ok (.new 82, 3) := by decide +kernel
theorem dX11_begin_48 : decode cX11_begin 48 = .ok (.dup, 1) := by decide +kernel
theorem dX11_begin_49 : decode cX11_begin 49 = .ok (.ldc 217, 2) := by decide +kernel
theorem dX11_begin_51 : decode cX11_begin 51 = .ok (.invokespecial 86, 3) := by decide +kernel
theorem dX11_begin_54 : decode cX11_begin 54 = .ok (.athrow, 1) := by decide +kernel
theorem dX11_begin_55 : decode cX11_begin 55 = .ok (.aload 4, 2) := by decide +kernel
theorem dX11_begin_57 : decode cX11_begin 57 = .ok (.getfield 219, 3) := by decide +kernel
theorem dX11_begin_60 : decode cX11_begin 60 = .ok (.aload 5, 2) := by decide +kernel
theorem dX11_begin_62 : decode cX11_begin 62 = .ok (.getfield 219, 3) := by decide +kernel
theorem dX11_begin_65 : decode cX11_begin 65 = .ok (.if_acmp .ne 7, 3) := by decide +kernel
theorem dX11_begin_68 : decode cX11_begin 68 = .ok (.iconst 2, 1) := by decide +kernel
theorem dX11_begin_69 : decode cX11_begin 69 = .ok (.goto 4, 3) := by decide +kernel
theorem dX11_begin_72 : decode cX11_begin 72 = .ok (.iconst 1, 1) := by decide +kernel
theorem dX11_begin_73 : decode cX11_begin 73 = .ok (.istore 6, 2) := by decide +kernel
theorem dX11_begin_75 : decode cX11_begin 75 = .ok (.aload_n 0, 1) := by decide +kernel
theorem dX11_begin_76 : decode cX11_begin 76 = .ok (.aload 4, 2) := by decide +kernel
theorem dX11_begin_78 : decode cX11_begin 78 = .ok (.getfield 219, 3) := by decide +kernel
theorem dX11_begin_81 : decode cX11_begin 81 = .ok (.invokevirtual 223, 3) := by decide +kernel
theorem dX11_begin_84 : decode cX11_begin 84 = .ok (.iload 6, 2) := by decide +kernel
theorem dX11_begin_86 : decode cX11_begin 86 = .ok (.if_icmp .lt 17, 3) := by decide +kernel
theorem dX11_begin_89 : decode cX11_begin 89 = .ok (.aload_n 0, 1) := by decide +kernel
theorem dX11_begin_90 : decode cX11_begin 90 = .ok (.aload 5, 2) := by decide +kernel
theorem dX11_begin_92 : decode cX11_begin 92 = .ok (.getfield 219, 3) := by decide +kernel
theorem dX11_begin_95 : decode cX11_begin 95 = .ok (.invokevirtual 223, 3) := by decide +kernel
theorem dX11_begin_98 : decode cX11_begin 98 = .ok (.iload 6, 2) := by decide +kernel
theorem dX11_begin_100 : decode cX11_begin 100 = .ok (.if_icmp .ge 13, 3) := by decide +kernel
theorem dX11_begin_103 : decode cX11_begin 103 = .ok (.new 82, 3) := by decide +kernel
theorem dX11_begin_106 : decode cX11_begin 106 = .ok (.dup, 1) := by decide +kernel
theorem dX11_begin_107 : decode cX11_begin 107 = .ok (.ldc 226, 2) := by decide +kernel
theorem dX11_begin_109 : decode cX11_begin 109 = .ok (.invokespecial 86, 3) := by decide +kernel
theorem dX11_begin_112 : decode cX11_begin 112 = .ok (.athrow, 1) := by decide +kernel
theorem dX11_begin_113 : decode cX11_begin 113 = .ok (.aload_n 0, 1) := by decide +kernel
theorem dX11_begin_114 : decode cX11_begin 114 = .ok (.getfield 40, 3) := by decide +kernel
theorem dX11_begin_117 : decode cX11_begin 117 = .ok (.invokevirtual 159, 3) := by decide +kernel
theorem dX11_begin_120 : decode cX11_begin 120 = .ok (.bipush 40, 2) := by decide +kernel
theorem dX11_begin_122 : decode cX11_begin 122 = .ok (.if_icmp .ge 17, 3) := by decide +kernel
theorem dX11_begin_125 : decode cX11_begin 125 = .ok (.aload_n 0, 1) := by decide +kernel
theorem dX11_begin_126 : decode cX11_begin 126 = .ok (.getfield 43, 3) := by decide +kernel
theorem dX11_begin_129 : decode cX11_begin 129 = .ok (.invokevirtual 159, 3) := by decide +kernel
theorem dX11_begin_132 : decode cX11_begin 132 = .ok (.iconst 2, 1) := by decide +kernel
theorem dX11_begin_133 : decode cX11_begin 133 = .ok (.iadd, 1) := by decide +kernel
theorem dX11_begin_134 : decode cX11_begin 134 = .ok (.bipush 80, 2) := by decide +kernel
theorem dX11_begin_136 : decode cX11_begin 136 = .ok (.if_icmp .le 13, 3) := by decide +kernel
theorem dX11_begin_139 : decode cX11_begin 139 = .ok (.new 82, 3) := by decide +kernel
theorem dX11_begin_142 : decode cX11_begin 142 = .ok (.dup, 1) := by decide +kernel
theorem dX11_begin_143 : decode cX11_begin 143 = .ok (.ldc 228, 2) := by decide +kernel
theorem dX11_begin_145 : decode cX11_begin 145 = .ok (.invokespecial 86, 3) := by decide +kernel
theorem dX11_begin_148 : decode cX11_begin 148 = .ok (.athrow, 1) := by decide +kernel
theorem dX11_begin_149 : decode cX11_begin 149 = .ok (.new 230, 3) := by decide +kernel
theorem dX11_begin_152 : decode cX11_begin 152 = .ok (.dup, 1) := by decide +kernel
theorem dX11_begin_153 : decode cX11_begin 153 = .ok (.aload_n 0, 1) := by decide +kernel
theorem dX11_begin_154 : decode cX11_begin 154 = .ok (.getfield 40, 3) := by decide +kernel
theorem dX11_begin_157 : decode cX11_begin 157 = .ok (.invokevirtual 159, 3) := by decide +kernel
theorem dX11_begin_160 : decode cX11_begin 160 = .ok (.aload 4, 2) := by decide +kernel
theorem dX11_begin_162 : decode cX11_begin 162 = .ok (.invokespecial 232, 3) := by decide +kernel
theorem dX11_begin_165 : decode cX11_begin 165 = .ok (.astore 7, 2) := by decide +kernel
theorem dX11_begin_167 : decode cX11_begin 167 = .ok (.aload_n 0, 1) := by decide +kernel
theorem dX11_begin_168 : decode cX11_begin 168 = .ok (.getfield 40, 3) := by decide +kernel
theorem dX11_begin_171 : decode cX11_begin 171 = .ok (.aload 7, 2) := by decide +kernel
theorem dX11_begin_173 : decode cX11_begin 173 = .ok (.invokevirtual 178, 3) := by decide +kernel
theorem dX11_begin_176 : decode cX11_begin 176 = .ok (.pop, 1) := by decide +kernel
theorem dX11_begin_177 : decode cX11_begin 177 = .ok (.aload_n 0, 1) := by decide +kernel
theorem dX11_begin_178 : decode cX11_begin 178 = .ok (.aload 4, 2) := by decide +kernel
theorem dX11_begin_180 : decode cX11_begin 180 = .ok (.aload 7, 2) := by decide +kernel
theorem dX11_begin_182 : decode cX11_begin 182 = .ok (.iconst 0, 1) := by decide +kernel
theorem dX11_begin_183 : decode cX11_begin 183 = .ok (.invokevirtual 235, 3) := by decide +kernel
theorem dX11_begin_186 : decode cX11_begin 186 = .ok (.astore 8, 2) := by decide +kernel
theorem dX11_begin_188 : decode cX11_begin 188 = .ok (.aload_n 0, 1) := by decide +kernel
theorem dX11_begin_189 : decode cX11_begin 189 = .ok (.aload 5, 2) := by decide +kernel
theorem dX11_begin_191 : decode cX11_begin 191 = .ok (.aload 7, 2) := by decide +kernel
theorem dX11_begin_193 : decode cX11_begin 193 = .ok (.iload_n 3, 1) := by decide +kernel
theorem dX11_begin_194 : decode cX11_begin 194 = .ok (.invokevirtual 235, 3) := by decide +kernel
theorem dX11_begin_197 : decode cX11_begin 197 = .ok (.astore 9, 2) := by decide +kernel
theorem dX11_begin_199 : decode cX11_begin 199 = .ok (.aload_n 0, 1) := by decide +kernel
theorem dX11_begin_200 : decode cX11_begin 200 = .ok (.aload 8, 2) := by decide +kernel
theorem dX11_begin_202 : decode cX11_begin 202 = .ok (.invokevirtual 239, 3) := by decide +kernel
theorem dX11_begin_205 : decode cX11_begin 205 = .ok (.aload 9, 2) := by decide +kernel
theorem dX11_begin_207 : decode cX11_begin 207 = .ok (.getfield 243, 3) := by decide +kernel
theorem dX11_begin_210 : decode cX11_begin 210 = .ok (.ifCond .ne 9, 3) := by decide +kernel
theorem dX11_begin_213 : decode cX11_begin 213 = .ok (.aload_n 0, 1) := by decide +kernel
theorem dX11_begin_214 : decode cX11_begin 214 = .ok (.aload 9, 2) := by decide +kernel
theorem dX11_begin_216 : decode cX11_begin 216 = .ok (.invokevirtual 239, 3) := by decide +kernel
theorem dX11_begin_219 : decode cX11_begin 219 = .ok (.aload 7, 2) := by decide +kernel
theorem dX11_begin_221 : decode cX11_begin 221 = .ok (.getfield 246, 3) := by decide +kernel
theorem dX11_begin_224 : decode cX11_begin 224 = .ok (.ireturn, 1) := by decide +kernel
theorem dX11_join_0 : decode cX11_join 0 = .ok (.aload_n 0, 1) := by decide +kernel
theorem dX11_join_1 : decode cX11_join 1 = .ok (.iload_n 1, 1) := by decide +kernel
theorem dX11_join_2 : decode cX11_join 2 = .ok (.invokevirtual 123, 3) := by decide +kernel
theorem dX11_join_5 : decode cX11_join 5 = .ok (.astore 4, 2) := by decide +kernel
theorem dX11_join_7 : decode cX11_join 7 = .ok (.aload_n 0, 1) := by decide +kernel
theorem dX11_join_8 : decode cX11_join 8 = .ok (.iload_n 2, 1) := by decide +kernel
theorem dX11_join_9 : decode cX11_join 9 = .ok (.invokevirtual 247, 3) := by decide +kernel
theorem dX11_join_12 : decode cX11_join 12 = .ok (.astore 5, 2) := by decide +kernel
theorem dX11_join_14 : decode cX11_join 14 = .ok (.aload 5, 2) := by decide +kernel
theorem dX11_join_16 : decode cX11_join 16 = .ok (.invokevirtual 251, 3) := by decide +kernel
theorem dX11_join_19 : decode cX11_join 19 = .ok (.istore 6, 2) := by decide +kernel
theorem dX11_join_21 : decode cX11_join 21 = .ok (.aload 4, 2) := by decide +kernel
theorem dX11_join_23 : decode cX11_join 23 = .ok (.getfield 137, 3) := by decide +kernel
theorem dX11_join_26 : decode cX11_join 26 = .ok (.ifnonnull 14, 3) := by decide +kernel
theorem dX11_join_29 : decode cX11_join 29 = .ok (.iload 6, 2) := by decide +kernel
theorem dX11_join_31 : decode cX11_join 31 = .ok (.ifCond .eq 9, 3) := by decide +kernel
theorem dX11_join_34 : decode cX11_join 34 = .ok (.iload 6, 2) := by decide +kernel
theorem dX11_join_36 : decode cX11_join 36 = .ok (.iconst 4, 1) := by decide +kernel
theorem dX11_join_37 : decode cX11_join 37 = .ok (.if_icmp .lt 13, 3) := by decide +kernel
theorem dX11_join_40 : decode cX11_join 40 = .ok (.new 82, 3) := by decide +kernel
theorem dX11_join_43 : decode cX11_join 43 = .ok (.dup, 1) := by decide +kernel
theorem dX11_join_44 : decode cX11_join 44 = .ok (.ldc 254, 2) := by decide +kernel
theorem dX11_join_46 : decode cX11_join 46 = .ok (.invokespecial 86, 3) := by decide +kernel
theorem dX11_join_49 : decode cX11_join 49 = .ok (.athrow, 1) := by decide +kernel
theorem dX11_join_50 : decode cX11_join 50 = .ok (.aload_n 0, 1) := by decide +kernel
theorem dX11_join_51 : decode cX11_join 51 = .ok (.aload 4, 2) := by decide +kernel
theorem dX11_join_53 : decode cX11_join 53 = .ok (.getfield 219, 3) := by decide +kernel
theorem dX11_join_56 : decode cX11_join 56 = .ok (.invokevirtual 223, 3) := by decide +kernel
theorem dX11_join_59 : decode cX11_join 59 = .ok (.iconst 1, 1) := by decide +kernel
theorem dX11_join_60 : decode cX11_join 60 = .ok (.if_icmp .lt 15, 3) := by decide +kernel
theorem dX11_join_63 : decode cX11_join 63 = .ok (.aload_n 0, 1) := by decide +kernel
theorem dX11_join_64 : decode cX11_join 64 = .ok (.getfield 43, 3) := by decide +kernel
theorem dX11_join_67 : decode cX11_join 67 = .ok (.invokevirtual 159, 3) := by decide +kernel
theorem dX11_join_70 : decode cX11_join 70 = .ok (.bipush 80, 2) := by decide +kernel
theorem dX11_join_72 : decode cX11_join 72 = .ok (.if_icmp .lt 14, 3) := by decide +kernel
theorem dX11_join_75 : decode cX11_join 75 = .ok (.new 82, 3) := by decide +kernel
theorem dX11_join_78 : decode cX11_join 78 = .ok (.dup, 1) := by decide +kernel
theorem dX11_join_79 : decode cX11_join 79 = .ok (.ldc_w 256, 3) := by decide +kernel
theorem dX11_join_82 : decode cX11_join 82 = .ok (.invokespecial 86, 3) := by decide +kernel
theorem dX11_join_85 : decode cX11_join 85 = .ok (.athrow, 1) := by decide +kernel
theorem dX11_join_86 : decode cX11_join 86 = .ok (.aload_n 0, 1) := by decide +kernel
theorem dX11_join_87 : decode cX11_join 87 = .ok (.aload 4, 2) := by decide +kernel
theorem dX11_join_89 : decode cX11_join 89 = .ok (.aload 5, 2) := by decide +kernel
theorem dX11_join_91 : decode cX11_join 91 = .ok (.iload_n 3, 1) := by decide +kernel
theorem dX11_join_92 : decode cX11_join 92 = .ok (.invokevirtual 235, 3) := by decide +kernel
theorem dX11_join_95 : decode cX11_join 95 = .ok (.astore 7, 2) := by decide +kernel
theorem dX11_join_97 : decode cX11_join 97 = .ok (.aload_n 0, 1) := by decide +kernel
theorem dX11_join_98 : decode cX11_join 98 = .ok (.aload 7, 2) := by decide +kernel
theorem dX11_join_100 : decode cX11_join 100 = .ok (.invokevirtual 239, 3) := by decide +kernel
theorem dX11_join_103 : decode cX11_join 103 = .ok (.aload 7, 2) := by decide +kernel
theorem dX11_join_105 : decode cX11_join 105 = .ok (.getfield 258, 3) := by decide +kernel
theorem dX11_join_108 : decode cX11_join 108 = .ok (.ireturn, 1) := by decide +kernel
theorem dX11_leave_0 : decode cX11_leave 0 = .ok (.aload_n 0, 1) := by decide +kernel
theorem dX11_leave_1 : decode cX11_leave 1 = .ok (.iload_n 1, 1) := by decide +kernel
theorem dX11_leave_2 : decode cX11_leave 2 = .ok (.invokevirtual 123, 3) := by decide +kernel
theorem dX11_leave_5 : decode cX11_leave 5 = .ok (.getfield 137, 3) := by decide +kernel
theorem dX11_leave_8 : decode cX11_leave 8 = .ok (.astore_n 2, 1) := by decide +kernel
theorem dX11_leave_9 : decode cX11_leave 9 = .ok (.aload_n 2, 1) := by decide +kernel
theorem dX11_leave_10 : decode cX11_leave 10 = .ok (.ifnonnull 14, 3) := by decide +kernel
theorem dX11_leave_13 : decode cX11_leave 13 = .ok (.new 82, 3) := by decide +kernel
theorem dX11_leave_16 : decode cX11_leave 16 = .ok (.dup, 1) := by decide +kernel
theorem dX11_leave_17 : decode cX11_leave 17 = .ok (.ldc_w 259, 3) := by decide +kernel
theorem dX11_leave_20 : decode cX11_leave 20 = .ok (.invokespecial 86, 3) := by decide +kernel
theorem dX11_leave_23 : decode cX11_leave 23 = .ok (.athrow, 1) := by decide +kernel
theorem dX11_leave_24 : decode cX11_leave 24 = .ok (.aload_n 0, 1) := by decide +kernel
theorem dX11_leave_25 : decode cX11_leave 25 = .ok (.aload_n 2, 1) := by decide +kernel
theorem dX11_leave_26 : decode cX11_leave 26 = .ok (.iconst 1, 1) := by decide +kernel
theorem dX11_leave_27 : decode cX11_leave 27 = .ok (.invokevirtual 261, 3) := by decide +kernel
theorem dX11_leave_30 : decode cX11_leave 30 = .ok (.aload_n 2, 1) := by decide +kernel
theorem dX11_leave_31 : decode cX11_leave 31 = .ok (.getfield 265, 3) := by decide +kernel
theorem dX11_leave_34 : decode cX11_leave 34 = .ok (.invokevirtual 251, 3) := by decide +kernel
theorem dX11_leave_37 : decode cX11_leave 37 = .ok (.ireturn, 1) := by decide +kernel
theorem dX11_move_0 : decode cX11_move 0 = .ok (.aload_n 0, 1) := by decide +kernel
theorem dX11_move_1 : decode cX11_move 1 = .ok (.iload_n 1, 1) := by decide +kernel
theorem dX11_move_2 : decode cX11_move 2 = .ok (.invokevirtual 123, 3) := by decide +kernel
theorem dX11_move_5 : decode cX11_move 5 = .ok (.astore_n 3, 1) := by decide +kernel
theorem dX11_move_6 : decode cX11_move 6 = .ok (.aload_n 0, 1) := by decide +kernel
theorem dX11_move_7 : decode cX11_move 7 = .ok (.iload_n 2, 1) := by decide +kernel
theorem dX11_move_8 : decode cX11_move 8 = .ok (.invokevirtual 63, 3) := by decide +kernel
theorem dX11_move_11 : decode cX11_move 11 = .ok (.astore 4, 2) := by decide +kernel
theorem dX11_move_13 : decode cX11_move 13 = .ok (.aload_n 3, 1) := by decide +kernel
theorem dX11_move_14 : decode cX11_move 14 = .ok (.getfield 137, 3) := by decide +kernel
theorem dX11_move_17 : decode cX11_move 17 = .ok (.astore 5, 2) := by decide +kernel
theorem dX11_move_19 : decode cX11_move 19 = .ok (.aload 4, 2) := by decide +kernel
theorem dX11_move_21 : decode cX11_move 21 = .ok (.aload_n 3, 1) := by decide +kernel
theorem dX11_move_22 : decode cX11_move 22 = .ok (.getfield 219, 3) := by decide +kernel
theorem dX11_move_25 : decode cX11_move 25 = .ok (.if_acmp .ne 14, 3) := by decide +kernel
theorem dX11_move_28 : decode cX11_move 28 = .ok (.aload 5, 2) := by decide +kernel
theorem dX11_move_30 : decode cX11_move 30 = .ok (.ifnull 7, 3) := by decide +kernel
theorem dX11_move_33 : decode cX11_move 33 = .ok (.iconst 1, 1) := by decide +kernel
theorem dX11_move_34 : decode cX11_move 34 = .ok (.goto 4, 3) := by decide +kernel
theorem dX11_move_37 : decode cX11_move 37 = .ok (.iconst 0, 1) := by decide +kernel
theorem dX11_move_38 : decode cX11_move 38 = .ok (.ireturn, 1) := by decide +kernel
theorem dX11_move_39 : decode cX11_move 39 = .ok (.aload 5, 2) := by decide +kernel
theorem dX11_move_41 : decode cX11_move 41 = .ok (.ifnull 51, 3) := by decide +kernel
theorem dX11_move_44 : decode cX11_move 44 = .ok (.aload_n 3, 1) := by decide +kernel
theorem dX11_move_45 : decode cX11_move 45 = .ok (.getfield 219, 3) := by decide +kernel
theorem dX11_move_48 : decode cX11_move 48 = .ok (.aload 4, 2) := by decide +kernel
theorem dX11_move_50 : decode cX11_move 50 = .ok (.invokevirtual 269, 3) := by decide +kernel
theorem dX11_move_53 : decode cX11_move 53 = .ok (.ifCond .eq 32, 3) := by decide +kernel
theorem dX11_move_56 : decode cX11_move 56 = .ok (.aload_n 0, 1) := by decide +kernel
theorem dX11_move_57 : decode cX11_move 57 = .ok (.aload 4, 2) := by decide +kernel
theorem dX11_move_59 : decode cX11_move 59 = .ok (.invokevirtual 102, 3) := by decide +kernel
theorem dX11_move_62 : decode cX11_move 62 = .ok (.aload 4, 2) := by decide +kernel
theorem dX11_move_64 : decode cX11_move 64 = .ok (.getfield 96, 3) := by decide +kernel
theorem dX11_move_67 : decode cX11_move 67 = .ok (.if_icmp .ge 18, 3) := by decide +kernel
theorem dX11_move_70 : decode cX11_move 70 = .ok (.aload 5, 2) := by decide +kernel
theorem dX11_move_72 : decode cX11_move 72 = .ok (.iconst 1, 1) := by decide +kernel
theorem dX11_move_73 : decode cX11_move 73 = .ok (.aload_n 0, 1) := by decide +kernel
theorem dX11_move_74 : decode cX11_move 74 = .ok (.getfield 50, 3) := by decide +kernel
theorem dX11_move_77 : decode cX11_move 77 = .ok (.aload 4, 2) := by decide +kernel
theorem dX11_move_79 : decode cX11_move 79 = .ok (.invokevirtual 273, 3) := by decide +kernel
theorem dX11_move_82 : decode cX11_move 82 = .ok (.goto 10, 3) := by decide +kernel
theorem dX11_move_85 : decode cX11_move 85 = .ok (.aload_n 0, 1) := by decide +kernel
theorem dX11_move_86 : decode cX11_move 86 = .ok (.aload 5, 2) := by decide +kernel
theorem dX11_move_88 : decode cX11_move 88 = .ok (.iconst 3, 1) := by decide +kernel
theorem dX11_move_89 : decode cX11_move 89 = .ok (.invokevirtual 261, 3) := by decide +kernel
theorem dX11_move_92 : decode cX11_move 92 = .ok (.aload_n 3, 1) := by decide +kernel
theorem dX11_move_93 : decode cX11_move 93 = .ok (.aload 4, 2) := by decide +kernel
theorem dX11_move_95 : decode cX11_move 95 = .ok (.putfield 219, 3) := by decide +kernel
theorem dX11_move_98 : decode cX11_move 98 = .ok (.aload_n 3, 1) := by decide +kernel
theorem dX11_move_99 : decode cX11_move 99 = .ok (.getfield 137, 3) := by decide +kernel
theorem dX11_move_102 : decode cX11_move 102 = .ok (.ifnull 7, 3) := by decide +kernel
theorem dX11_move_105 : decode cX11_move 105 = .ok (.iconst 1, 1) := by decide +kernel
theorem dX11_move_106 : decode cX11_move 106 = .ok (.goto 4, 3) := by decide +kernel
theorem dX11_move_109 : decode cX11_move 109 = .ok (.iconst 0, 1) := by decide +kernel
theorem dX11_move_110 : decode cX11_move 110 = .ok (.ireturn, 1) := by decide +kernel
theorem dX11_pass_0 : decode cX11_pass 0 = .ok (.iload_n 1, 1) := by decide +kernel
theorem dX11_pass_1 : decode cX11_pass 1 = .ok (.iconst 1, 1) := by decide +kernel
theorem dX11_pass_2 : decode cX11_pass 2 = .ok (.sipush 500, 3) := by decide +kernel
theorem dX11_pass_5 : decode cX11_pass 5 = .ok (.invokestatic 67, 3) := by decide +kernel
theorem dX11_pass_8 : decode cX11_pass 8 = .ok (.ifCond .eq 13, 3) := by decide +kernel
theorem dX11_pass_11 : decode cX11_pass 11 = .ok (.new 71, 3) := by decide +kernel
theorem dX11_pass_14 : decode cX11_pass 14 = .ok (.dup, 1) := by decide +kernel
theorem dX11_pass_15 : decode cX11_pass 15 = .ok (.ldc 121, 2) := by decide +kernel
theorem dX11_pass_17 : decode cX11_pass 17 = .ok (.invokespecial 75, 3) := by decide +kernel
theorem dX11_pass_20 : decode cX11_pass 20 = .ok (.athrow, 1) := by decide +kernel
theorem dX11_pass_21 : decode cX11_pass 21 = .ok (.aload_n 0, 1) := by decide +kernel
theorem dX11_pass_22 : decode cX11_pass 22 = .ok (.getfield 50, 3) := by decide +kernel
theorem dX11_pass_25 : decode cX11_pass 25 = .ok (.iload_n 1, 1) := by decide +kernel
theorem dX11_pass_26 : decode cX11_pass 26 = .ok (.iadd, 1) := by decide +kernel
theorem dX11_pass_27 : decode cX11_pass 27 = .ok (.ldc_w 277, 3) := by decide +kernel
theorem dX11_pass_30 : decode cX11_pass 30 = .ok (.if_icmp .le 14, 3) := by decide +kernel
theorem dX11_pass_33 : decode cX11_pass 33 = .ok (.new 82, 3) := by decide +kernel
theorem dX11_pass_36 : decode cX11_pass 36 = .ok (.dup, 1) := by decide +kernel
theorem dX11_pass_37 : decode cX11_pass 37 = .ok (.ldc_w 278, 3) := by decide +kernel
theorem dX11_pass_40 : decode cX11_pass 40 = .ok (.invokespecial 86, 3) := by decide +kernel
theorem dX11_pass_43 : decode cX11_pass 43 = .ok (.athrow, 1) := by decide +kernel
theorem dX11_pass_44 : decode cX11_pass 44 = .ok (.iconst 0, 1) := by decide +kernel
theorem dX11_pass_45 : decode cX11_pass 45 = .ok (.istore_n 2, 1) := by decide +kernel
theorem dX11_pass_46 : decode cX11_pass 46 = .ok (.iconst 0, 1) := by decide +kernel
theorem dX11_pass_47 : decode cX11_pass 47 = .ok (.istore_n 3, 1) := by decide +kernel
theorem dX11_pass_48 : decode cX11_pass 48 = .ok (.iload_n 3, 1) := by decide +kernel
theorem dX11_pass_49 : decode cX11_pass 49 = .ok (.iload_n 1, 1) := by decide +kernel
theorem dX11_pass_50 : decode cX11_pass 50 = .ok (.if_icmp .ge 16, 3) := by decide +kernel
theorem dX11_pass_53 : decode cX11_pass 53 = .ok (.iload_n 2, 1) := by decide +kernel
theorem dX11_pass_54 : decode cX11_pass 54 = .ok (.aload_n 0, 1) := by decide +kernel
theorem dX11_pass_55 : decode cX11_pass 55 = .ok (.invokevirtual 280, 3) := by decide +kernel
theorem dX11_pass_58 : decode cX11_pass 58 = .ok (.iadd, 1) := by decide +kernel
theorem dX11_pass_59 : decode cX11_pass 59 = .ok (.istore_n 2, 1) := by decide +kernel
theorem dX11_pass_60 : decode cX11_pass 60 = .ok (.iinc 3 1, 3) := by decide +kernel
theorem dX11_pass_63 : decode cX11_pass 63 = .ok (.goto (-15), 3) := by decide +kernel
theorem dX11_pass_66 : decode cX11_pass 66 = .ok (.iload_n 2, 1) := by decide +kernel
theorem dX11_pass_67 : decode cX11_pass 67 = .ok (.ireturn, 1) := by decide +kernel
theorem dX11_now_0 : decode cX11_now 0 = .ok (.aload_n 0, 1) := by decide +kernel
theorem dX11_now_1 : decode cX11_now 1 = .ok (.getfield 50, 3) := by decide +kernel
theorem dX11_now_4 : decode cX11_now 4 = .ok (.ireturn, 1) := by decide +kernel
theorem dX11_cellOf_0 : decode cX11_cellOf 0 = .ok (.aload_n 0, 1) := by decide +kernel
theorem dX11_cellOf_1 : decode cX11_cellOf 1 = .ok (.iload_n 1, 1) := by decide +kernel
theorem dX11_cellOf_2 : decode cX11_cellOf 2 = .ok (.invokevirtual 123, 3) := by decide +kernel
theorem dX11_cellOf_5 : decode cX11_cellOf 5 = .ok (.getfield 219, 3) := by decide +kernel
theorem dX11_cellOf_8 : decode cX11_cellOf 8 = .ok (.getfield 283, 3) := by decide +kernel
theorem dX11_cellOf_11 : decode cX11_cellOf 11 = .ok (.ireturn, 1) := by decide +kernel
theorem dX11_rateOf_0 : decode cX11_rateOf 0 = .ok (.aload_n 0, 1) := by decide +kernel
theorem dX11_rateOf_1 : decode cX11_rateOf 1 = .ok (.aload_n 0, 1) := by decide +kernel
theorem dX11_rateOf_2 : decode cX11_rateOf 2 = .ok (.iload_n 1, 1) := by decide +kernel
theorem dX11_rateOf_3 : decode cX11_rateOf 3 = .ok (.invokevirtual 123, 3) := by decide +kernel
theorem dX11_rateOf_6 : decode cX11_rateOf 6 = .ok (.invokevirtual 284, 3) := by decide +kernel
theorem dX11_rateOf_9 : decode cX11_rateOf 9 = .ok (.ireturn, 1) := by decide +kernel
theorem dX11_legOf_0 : decode cX11_legOf 0 = .ok (.aload_n 0, 1) := by decide +kernel
theorem dX11_legOf_1 : decode cX11_legOf 1 = .ok (.iload_n 1, 1) := by decide +kernel
theorem dX11_legOf_2 : decode cX11_legOf 2 = .ok (.invokevirtual 123, 3) := by decide +kernel
theorem dX11_legOf_5 : decode cX11_legOf 5 = .ok (.getfield 137, 3) := by decide +kernel
theorem dX11_legOf_8 : decode cX11_legOf 8 = .ok (.astore_n 2, 1) := by decide +kernel
theorem dX11_legOf_9 : decode cX11_legOf 9 = .ok (.aload_n 2, 1) := by decide +kernel
theorem dX11_legOf_10 : decode cX11_legOf 10 = .ok (.ifnonnull 7, 3) := by decide +kernel
theorem dX11_legOf_13 : decode cX11_legOf 13 = .ok (.iconst (-1), 1) := by decide +kernel
theorem dX11_legOf_14 : decode cX11_legOf 14 = .ok (.goto 7, 3) := by decide +kernel
theorem dX11_legOf_17 : decode cX11_legOf 17 = .ok (.aload_n 2, 1) := by decide +kernel
theorem dX11_legOf_18 : decode cX11_legOf 18 = .ok (.getfield 258, 3) := by decide +kernel
theorem dX11_legOf_21 : decode cX11_legOf 21 = .ok (.ireturn, 1) := by decide +kernel
theorem dX11_sliceOf_0 : decode cX11_sliceOf 0 = .ok (.aload_n 0, 1) := by decide +kernel
theorem dX11_sliceOf_1 : decode cX11_sliceOf 1 = .ok (.iload_n 1, 1) := by decide +kernel
theorem dX11_sliceOf_2 : decode cX11_sliceOf 2 = .ok (.invokevirtual 123, 3) := by decide +kernel
theorem dX11_sliceOf_5 : decode cX11_sliceOf 5 = .ok (.getfield 137, 3) := by decide +kernel
theorem dX11_sliceOf_8 : decode cX11_sliceOf 8 = .ok (.astore_n 2, 1) := by decide +kernel
theorem dX11_sliceOf_9 : decode cX11_sliceOf 9 = .ok (.aload_n 2, 1) := by decide +kernel
theorem dX11_sliceOf_10 : decode cX11_sliceOf 10 = .ok (.ifnonnull 7, 3) := by decide +kernel
theorem dX11_sliceOf_13 : decode cX11_sliceOf 13 = .ok (.iconst 0, 1) := by decide +kernel
theorem dX11_sliceOf_14 : decode cX11_sliceOf 14 = .ok (.goto 10, 3) := by decide +kernel
theorem dX11_sliceOf_17 : decode cX11_sliceOf 17 = .ok (.aload_n 2, 1) := by decide +kernel
theorem dX11_sliceOf_18 : decode cX11_sliceOf 18 = .ok (.getfield 187, 3) := by decide +kernel
theorem dX11_sliceOf_21 : decode cX11_sliceOf 21 = .ok (.getfield 288, 3) := by decide +kernel
theorem dX11_sliceOf_24 : decode cX11_sliceOf 24 = .ok (.ireturn, 1) := by decide +kernel
theorem dX11_parties_0 : decode cX11_parties 0 = .ok (.aload_n 0, 1) := by decide +kernel
theorem dX11_parties_1 : decode cX11_parties 1 = .ok (.iload_n 1, 1) := by decide +kernel
theorem dX11_parties_2 : decode cX11_parties 2 = .ok (.invokevirtual 247, 3) := by decide +kernel
theorem dX11_parties_5 : decode cX11_parties 5 = .ok (.invokevirtual 251, 3) := by decide +kernel
theorem dX11_parties_8 : decode cX11_parties 8 = .ok (.ireturn, 1) := by decide +kernel
theorem dX11_legs_0 : decode cX11_legs 0 = .ok (.aload_n 0, 1) := by decide +kernel
theorem dX11_legs_1 : decode cX11_legs 1 = .ok (.getfield 43, 3) := by decide +kernel
theorem dX11_legs_4 : decode cX11_legs 4 = .ok (.invokevirtual 159, 3) := by decide +kernel
theorem dX11_legs_7 : decode cX11_legs 7 = .ok (.ireturn, 1) := by decide +kernel
theorem dX11_stateOf_0 : decode cX11_stateOf 0 = .ok (.aload_n 0, 1) := by decide +kernel
theorem dX11_stateOf_1 : decode cX11_stateOf 1 = .ok (.iload_n 1, 1) := by decide +kernel
theorem dX11_stateOf_2 : decode cX11_stateOf 2 = .ok (.invokevirtual 289, 3) := by decide +kernel
theorem dX11_stateOf_5 : decode cX11_stateOf 5 = .ok (.getfield 243, 3) := by decide +kernel
theorem dX11_stateOf_8 : decode cX11_stateOf 8 = .ok (.ireturn, 1) := by decide +kernel
theorem dX11_seconds_0 : decode cX11_seconds 0 = .ok (.aload_n 0, 1) := by decide +kernel
theorem dX11_seconds_1 : decode cX11_seconds 1 = .ok (.iload_n 1, 1) := by decide +kernel
theorem dX11_seconds_2 : decode cX11_seconds 2 = .ok (.invokevirtual 289, 3) := by decide +kernel
theorem dX11_seconds_5 : decode cX11_seconds 5 = .ok (.getfield 293, 3) := by decide +kernel
theorem dX11_seconds_8 : decode cX11_seconds 8 = .ok (.ireturn, 1) := by decide +kernel
theorem dX11_charged_0 : decode cX11_charged 0 = .ok (.aload_n 0, 1) := by decide +kernel
theorem dX11_charged_1 : decode cX11_charged 1 = .ok (.iload_n 1, 1) := by decide +kernel
theorem dX11_charged_2 : decode cX11_charged 2 = .ok (.invokevirtual 289, 3) := by decide +kernel
theorem dX11_charged_5 : decode cX11_charged 5 = .ok (.getfield 296, 3) := by decide +kernel
theorem dX11_charged_8 : decode cX11_charged 8 = .ok (.ireturn, 1) := by decide +kernel
theorem dX11_covered_0 : decode cX11_covered 0 = .ok (.aload_n 0, 1) := by decide +kernel
theorem dX11_covered_1 : decode cX11_covered 1 = .ok (.iload_n 1, 1) := by decide +kernel
theorem dX11_covered_2 : decode cX11_covered 2 = .ok (.invokevirtual 289, 3) := by decide +kernel
theorem dX11_covered_5 : decode cX11_covered 5 = .ok (.getfield 299, 3) := by decide +kernel
theorem dX11_covered_8 : decode cX11_covered 8 = .ok (.ireturn, 1) := by decide +kernel
theorem dX11_ratedByEvents_0 : decode cX11_ratedByEvents 0 = .ok (.aload_n 0, 1) := by decide +kernel
theorem dX11_ratedByEvents_1 : decode cX11_ratedByEvents 1 = .ok (.iload_n 1, 1) := by decide +kernel
theorem dX11_ratedByEvents_2 : decode cX11_ratedByEvents 2 = .ok (.invokevirtual 289, 3) := by decide +kernel
theorem dX11_ratedByEvents_5 : decode cX11_ratedByEvents 5 = .ok (.getfield 302, 3) := by decide +kernel
theorem dX11_ratedByEvents_8 : decode cX11_ratedByEvents 8 = .ok (.astore_n 2, 1) := by decide +kernel
theorem dX11_ratedByEvents_9 : decode cX11_ratedByEvents 9 = .ok (.iconst 0, 1) := by decide +kernel
theorem dX11_ratedByEvents_10 : decode cX11_ratedByEvents 10 = .ok (.istore_n 3, 1) := by decide +kernel
theorem dX11_ratedByEvents_11 : decode cX11_ratedByEvents 11 = .ok (.iconst 0, 1) := by decide +kernel
theorem dX11_ratedByEvents_12 : decode cX11_ratedByEvents 12 = .ok (.istore 4, 2) := by decide +kernel
theorem dX11_ratedByEvents_14 : decode cX11_ratedByEvents 14 = .ok (.iload 4, 2) := by decide +kernel
theorem dX11_ratedByEvents_16 : decode cX11_ratedByEvents 16 = .ok (.aload_n 2, 1) := by decide +kernel
theorem dX11_ratedByEvents_17 : decode cX11_ratedByEvents 17 = .ok (.invokevirtual 159, 3) := by decide +kernel
theorem dX11_ratedByEvents_20 : decode cX11_ratedByEvents 20 = .ok (.if_icmp .ge 84, 3) := by decide +kernel
theorem dX11_ratedByEvents_23 : decode cX11_ratedByEvents 23 = .ok (.aload_n 2, 1) := by decide +kernel
theorem dX11_ratedByEvents_24 : decode cX11_ratedByEvents 24 = .ok (.iload 4, 2) := by decide +kernel
theorem dX11_ratedByEvents_26 : decode cX11_ratedByEvents 26 = .ok (.invokevirtual 204, 3) := by decide +kernel
theorem dX11_ratedByEvents_29 : decode cX11_ratedByEvents 29 = .ok (.checkcast 305, 3) := by decide +kernel
theorem dX11_ratedByEvents_32 : decode cX11_ratedByEvents 32 = .ok (.astore 5, 2) := by decide +kernel
theorem dX11_ratedByEvents_34 : decode cX11_ratedByEvents 34 = .ok (.aload 5, 2) := by decide +kernel
theorem dX11_ratedByEvents_36 : decode cX11_ratedByEvents 36 = .ok (.getfield 307, 3) := by decide +kernel
theorem dX11_ratedByEvents_39 : decode cX11_ratedByEvents 39 = .ok (.iconst 2, 1) := by decide +kernel
theorem dX11_ratedByEvents_40 : decode cX11_ratedByEvents 40 = .ok (.if_icmp .eq 58, 3) := by decide +kernel
theorem dX11_ratedByEvents_43 : decode cX11_ratedByEvents 43 = .ok (.iload 4, 2) := by decide +kernel
theorem dX11_ratedByEvents_45 : decode cX11_ratedByEvents 45 = .ok (.iconst 1, 1) := by decide +kernel
theorem dX11_ratedByEvents_46 : decode cX11_ratedByEvents 46 = .ok (.iadd, 1) := by decide +kernel
theorem dX11_ratedByEvents_47 : decode cX11_ratedByEvents 47 = .ok (.aload_n 2, 1) := by decide +kernel
theorem dX11_ratedByEvents_48 : decode cX11_ratedByEvents 48 = .ok (.invokevirtual 159, 3) := by decide +kernel
theorem dX11_ratedByEvents_51 : decode cX11_ratedByEvents 51 = .ok (.if_icmp .ge 20, 3) := by decide +kernel
theorem dX11_ratedByEvents_54 : decode cX11_ratedByEvents 54 = .ok (.aload_n 2, 1) := by decide +kernel
theorem dX11_ratedByEvents_55 : decode cX11_ratedByEvents 55 = .ok (.iload 4, 2) := by decide +kernel
theorem dX11_ratedByEvents_57 : decode cX11_ratedByEvents 57 = .ok (.iconst 1, 1) := by decide +kernel
theorem dX11_ratedByEvents_58 : decode cX11_ratedByEvents 58 = .ok (.iadd, 1) := by decide +kernel
theorem dX11_ratedByEvents_59 : decode cX11_ratedByEvents 59 = .ok (.invokevirtual 204, 3) := by decide +kernel
theorem dX11_ratedByEvents_62 : decode cX11_ratedByEvents 62 = .ok (.checkcast 305, 3) := by decide +kernel
theorem dX11_ratedByEvents_65 : decode cX11_ratedByEvents 65 = .ok (.getfield 310, 3) := by decide +kernel
theorem dX11_ratedByEvents_68 : decode cX11_ratedByEvents 68 = .ok (.goto 7, 3) := by decide +kernel
theorem dX11_ratedByEvents_71 : decode cX11_ratedByEvents 71 = .ok (.aload_n 0, 1) := by decide +kernel
theorem dX11_ratedByEvents_72 : decode cX11_ratedByEvents 72 = .ok (.getfield 50, 3) := by decide +kernel
theorem dX11_ratedByEvents_75 : decode cX11_ratedByEvents 75 = .ok (.istore 6, 2) := by decide +kernel
theorem dX11_ratedByEvents_77 : decode cX11_ratedByEvents 77 = .ok (.iload_n 3, 1) := by decide +kernel
theorem dX11_ratedByEvents_78 : decode cX11_ratedByEvents 78 = .ok (.aload 5, 2) := by decide +kernel
theorem dX11_ratedByEvents_80 : decode cX11_ratedByEvents 80 = .ok (.getfield 311, 3) := by decide +kernel
theorem dX11_ratedByEvents_83 : decode cX11_ratedByEvents 83 = .ok (.getfield 87, 3) := by decide +kernel
theorem dX11_ratedByEvents_86 : decode cX11_ratedByEvents 86 = .ok (.aload 5, 2) := by decide +kernel
theorem dX11_ratedByEvents_88 : decode cX11_ratedByEvents 88 = .ok (.getfield 310, 3) := by decide +kernel
theorem dX11_ratedByEvents_91 : decode cX11_ratedByEvents 91 = .ok (.iload 6, 2) := by decide +kernel
theorem dX11_ratedByEvents_93 : decode cX11_ratedByEvents 93 = .ok (.invokestatic 312, 3) := by decide +kernel
theorem dX11_ratedByEvents_96 : decode cX11_ratedByEvents 96 = .ok (.iadd, 1) := by decide +kernel
theorem dX11_ratedByEvents_97 : decode cX11_ratedByEvents 97 = .ok (.istore_n 3, 1) := by decide +kernel
theorem dX11_ratedByEvents_98 : decode cX11_ratedByEvents 98 = .ok (.iinc 4 1, 3) := by decide +kernel
theorem dX11_ratedByEvents_101 : decode cX11_ratedByEvents 101 = .ok (.goto (-87), 3) := by decide +kernel
theorem dX11_ratedByEvents_104 : decode cX11_ratedByEvents 104 = .ok (.iload_n 3, 1) := by decide +kernel
theorem dX11_ratedByEvents_105 : decode cX11_ratedByEvents 105 = .ok (.ireturn, 1) := by decide +kernel
theorem dX11_tag_0 : decode cX11_tag 0 = .ok (.aload_n 0, 1) := by decide +kernel
theorem dX11_tag_1 : decode cX11_tag 1 = .ok (.iload_n 1, 1) := by decide +kernel
theorem dX11_tag_2 : decode cX11_tag 2 = .ok (.invokevirtual 289, 3) := by decide +kernel
theorem dX11_tag_5 : decode cX11_tag 5 = .ok (.getfield 316, 3) := by decide +kernel
theorem dX11_tag_8 : decode cX11_tag 8 = .ok (.ireturn, 1) := by decide +kernel
theorem dX11_seal_0 : decode cX11_seal 0 = .ok (.aload_n 0, 1) := by decide +kernel
theorem dX11_seal_1 : decode cX11_seal 1 = .ok (.iload_n 1, 1) := by decide +kernel
theorem dX11_seal_2 : decode cX11_seal 2 = .ok (.invokevirtual 289, 3) := by decide +kernel
theorem dX11_seal_5 : decode cX11_seal 5 = .ok (.invokevirtual 320, 3) := by decide +kernel
theorem dX11_seal_8 : decode cX11_seal 8 = .ok (.ireturn, 1) := by decide +kernel
theorem dX11_stamp_0 : decode cX11_stamp 0 = .ok (.aload_n 0, 1) := by decide +kernel
theorem dX11_stamp_1 : decode cX11_stamp 1 = .ok (.iload_n 1, 1) := by decide +kernel
theorem dX11_stamp_2 : decode cX11_stamp 2 = .ok (.invokevirtual 247, 3) := by decide +kernel
theorem dX11_stamp_5 : decode cX11_stamp 5 = .ok (.astore_n 2, 1) := by decide +kernel
theorem dX11_stamp_6 : decode cX11_stamp 6 = .ok (.aload_n 2, 1) := by decide +kernel
theorem dX11_stamp_7 : decode cX11_stamp 7 = .ok (.getfield 246, 3) := by decide +kernel
theorem dX11_stamp_10 : decode cX11_stamp 10 = .ok (.iconst 1, 1) := by decide +kernel
theorem dX11_stamp_11 : decode cX11_stamp 11 = .ok (.iadd, 1) := by decide +kernel
theorem dX11_stamp_12 : decode cX11_stamp 12 = .ok (.i2l, 1) := by decide +kernel
theorem dX11_stamp_13 : decode cX11_stamp 13 = .ok (.lstore_n 3, 1) := by decide +kernel
theorem dX11_stamp_14 : decode cX11_stamp 14 = .ok (.iconst 0, 1) := by decide +kernel
theorem dX11_stamp_15 : decode cX11_stamp 15 = .ok (.istore 5, 2) := by decide +kernel
theorem dX11_stamp_17 : decode cX11_stamp 17 = .ok (.iload 5, 2) := by decide +kernel
theorem dX11_stamp_19 : decode cX11_stamp 19 = .ok (.aload_n 2, 1) := by decide +kernel
theorem dX11_stamp_20 : decode cX11_stamp 20 = .ok (.getfield 323, 3) := by decide +kernel
theorem dX11_stamp_23 : decode cX11_stamp 23 = .ok (.invokevirtual 159, 3) := by decide +kernel
theorem dX11_stamp_26 : decode cX11_stamp 26 = .ok (.if_icmp .ge 38, 3) := by decide +kernel
theorem dX11_stamp_29 : decode cX11_stamp 29 = .ok (.lload_n 3, 1) := by decide +kernel
theorem dX11_stamp_30 : decode cX11_stamp 30 = .ok (.bipush 7, 2) := by decide +kernel
theorem dX11_stamp_32 : decode cX11_stamp 32 = .ok (.lshl, 1) := by decide +kernel
theorem dX11_stamp_33 : decode cX11_stamp 33 = .ok (.lload_n 3, 1) := by decide +kernel
theorem dX11_stamp_34 : decode cX11_stamp 34 = .ok (.bipush 57, 2) := by decide +kernel
theorem dX11_stamp_36 : decode cX11_stamp 36 = .ok (.lushr, 1) := by decide +kernel
theorem dX11_stamp_37 : decode cX11_stamp 37 = .ok (.lor, 1) := by decide +kernel
theorem dX11_stamp_38 : decode cX11_stamp 38 = .ok (.lstore_n 3, 1) := by decide +kernel
theorem dX11_stamp_39 : decode cX11_stamp 39 = .ok (.lload_n 3, 1) := by decide +kernel
theorem dX11_stamp_40 : decode cX11_stamp 40 = .ok (.aload_n 2, 1) := by decide +kernel
theorem dX11_stamp_41 : decode cX11_stamp 41 = .ok (.getfield 323, 3) := by decide +kernel
theorem dX11_stamp_44 : decode cX11_stamp 44 = .ok (.iload 5, 2) := by decide +kernel
theorem dX11_stamp_46 : decode cX11_stamp 46 = .ok (.invokevirtual 204, 3) := by decide +kernel
theorem dX11_stamp_49 : decode cX11_stamp 49 = .ok (.checkcast 183, 3) := by decide +kernel
theorem dX11_stamp_52 : decode cX11_stamp 52 = .ok (.invokevirtual 320, 3) := by decide +kernel
theorem dX11_stamp_55 : decode cX11_stamp 55 = .ok (.i2l, 1) := by decide +kernel
theorem dX11_stamp_56 : decode cX11_stamp 56 = .ok (.ladd, 1) := by decide +kernel
theorem dX11_stamp_57 : decode cX11_stamp 57 = .ok (.lstore_n 3, 1) := by decide +kernel
theorem dX11_stamp_58 : decode cX11_stamp 58 = .ok (.iinc 5 1, 3) := by decide +kernel
theorem dX11_stamp_61 : decode cX11_stamp 61 = .ok (.goto (-44), 3) := by decide +kernel
theorem dX11_stamp_64 : decode cX11_stamp 64 = .ok (.lload_n 3, 1) := by decide +kernel
theorem dX11_stamp_65 : decode cX11_stamp 65 = .ok (.bipush 32, 2) := by decide +kernel
theorem dX11_stamp_67 : decode cX11_stamp 67 = .ok (.lshr, 1) := by decide +kernel
theorem dX11_stamp_68 : decode cX11_stamp 68 = .ok (.l2i, 1) := by decide +kernel
theorem dX11_stamp_69 : decode cX11_stamp 69 = .ok (.lload_n 3, 1) := by decide +kernel
theorem dX11_stamp_70 : decode cX11_stamp 70 = .ok (.l2i, 1) := by decide +kernel
theorem dX11_stamp_71 : decode cX11_stamp 71 = .ok (.ixor, 1) := by decide +kernel
theorem dX11_stamp_72 : decode cX11_stamp 72 = .ok (.ireturn, 1) := by decide +kernel
theorem dX11_lineAt_0 : decode cX11_lineAt 0 = .ok (.aload_n 0, 1) := by decide +kernel
theorem dX11_lineAt_1 : decode cX11_lineAt 1 = .ok (.iload_n 1, 1) := by decide +kernel
theorem dX11_lineAt_2 : decode cX11_lineAt 2 = .ok (.invokevirtual 289, 3) := by decide +kernel
theorem dX11_lineAt_5 : decode cX11_lineAt 5 = .ok (.astore_n 3, 1) := by decide +kernel
theorem dX11_lineAt_6 : decode cX11_lineAt 6 = .ok (.iload_n 2, 1) := by decide +kernel
theorem dX11_lineAt_7 : decode cX11_lineAt 7 = .ok (.ifCond .ge 14, 3) := by decide +kernel
theorem dX11_lineAt_10 : decode cX11_lineAt 10 = .ok (.new 199, 3) := by decide +kernel
theorem dX11_lineAt_13 : decode cX11_lineAt 13 = .ok (.dup, 1) := by decide +kernel
theorem dX11_lineAt_14 : decode cX11_lineAt 14 = .ok (.ldc_w 326, 3) := by decide +kernel
theorem dX11_lineAt_17 : decode cX11_lineAt 17 = .ok (.invokespecial 203, 3) := by decide +kernel
theorem dX11_lineAt_20 : decode cX11_lineAt 20 = .ok (.athrow, 1) := by decide +kernel
theorem dX11_lineAt_21 : decode cX11_lineAt 21 = .ok (.new 328, 3) := by decide +kernel
theorem dX11_lineAt_24 : decode cX11_lineAt 24 = .ok (.dup, 1) := by decide +kernel
theorem dX11_lineAt_25 : decode cX11_lineAt 25 = .ok (.invokespecial 330, 3) := by decide +kernel
theorem dX11_lineAt_28 : decode cX11_lineAt 28 = .ok (.astore 4, 2) := by decide +kernel
theorem dX11_lineAt_30 : decode cX11_lineAt 30 = .ok (.aload 4, 2) := by decide +kernel
theorem dX11_lineAt_32 : decode cX11_lineAt 32 = .ok (.bipush 80, 2) := by decide +kernel
theorem dX11_lineAt_34 : decode cX11_lineAt 34 = .ok (.invokevirtual 331, 3) := by decide +kernel
theorem dX11_lineAt_37 : decode cX11_lineAt 37 = .ok (.aload_n 3, 1) := by decide +kernel
theorem dX11_lineAt_38 : decode cX11_lineAt 38 = .ok (.getfield 335, 3) := by decide +kernel
theorem dX11_lineAt_41 : decode cX11_lineAt 41 = .ok (.getfield 339, 3) := by decide +kernel
theorem dX11_lineAt_44 : decode cX11_lineAt 44 = .ok (.invokevirtual 340, 3) := by decide +kernel
theorem dX11_lineAt_47 : decode cX11_lineAt 47 = .ok (.bipush 67, 2) := by decide +kernel
theorem dX11_lineAt_49 : decode cX11_lineAt 49 = .ok (.invokevirtual 331, 3) := by decide +kernel
theorem dX11_lineAt_52 : decode cX11_lineAt 52 = .ok (.aload_n 3, 1) := by decide +kernel
theorem dX11_lineAt_53 : decode cX11_lineAt 53 = .ok (.getfield 265, 3) := by decide +kernel
theorem dX11_lineAt_56 : decode cX11_lineAt 56 = .ok (.getfield 246, 3) := by decide +kernel
theorem dX11_lineAt_59 : decode cX11_lineAt 59 = .ok (.invokevirtual 340, 3) := by decide +kernel
theorem dX11_lineAt_62 : decode cX11_lineAt 62 = .ok (.pop, 1) := by decide +kernel
theorem dX11_lineAt_63 : decode cX11_lineAt 63 = .ok (.aload 4, 2) := by decide +kernel
theorem dX11_lineAt_65 : decode cX11_lineAt 65 = .ok (.bipush 58, 2) := by decide +kernel
theorem dX11_lineAt_67 : decode cX11_lineAt 67 = .ok (.invokevirtual 331, 3) := by decide +kernel
theorem dX11_lineAt_70 : decode cX11_lineAt 70 = .ok (.aload_n 3, 1) := by decide +kernel
theorem dX11_lineAt_71 : decode cX11_lineAt 71 = .ok (.getfield 293, 3) := by decide +kernel
theorem dX11_lineAt_74 : decode cX11_lineAt 74 = .ok (.invokevirtual 340, 3) := by decide +kernel
theorem dX11_lineAt_77 : decode cX11_lineAt 77 = .ok (.bipush 61, 2) := by decide +kernel
theorem dX11_lineAt_79 : decode cX11_lineAt 79 = .ok (.invokevirtual 331, 3) := by decide +kernel
theorem dX11_lineAt_82 : decode cX11_lineAt 82 = .ok (.aload_n 3, 1) := by decide +kernel
theorem dX11_lineAt_83 : decode cX11_lineAt 83 = .ok (.getfield 296, 3) := by decide +kernel
theorem dX11_lineAt_86 : decode cX11_lineAt 86 = .ok (.invokevirtual 340, 3) := by decide +kernel
theorem dX11_lineAt_89 : decode cX11_lineAt 89 = .ok (.pop, 1) := by decide +kernel
theorem dX11_lineAt_90 : decode cX11_lineAt 90 = .ok (.aload 4, 2) := by decide +kernel
theorem dX11_lineAt_92 : decode cX11_lineAt 92 = .ok (.bipush 43, 2) := by decide +kernel
theorem dX11_lineAt_94 : decode cX11_lineAt 94 = .ok (.invokevirtual 331, 3) := by decide +kernel
theorem dX11_lineAt_97 : decode cX11_lineAt 97 = .ok (.aload_n 3, 1) := by decide +kernel
theorem dX11_lineAt_98 : decode cX11_lineAt 98 = .ok (.getfield 299, 3) := by decide +kernel
theorem dX11_lineAt_101 : decode cX11_lineAt 101 = .ok (.invokevirtual 340, 3) := by decide +kernel
theorem dX11_lineAt_104 : decode cX11_lineAt 104 = .ok (.aload_n 3, 1) := by decide +kernel
theorem dX11_lineAt_105 : decode cX11_lineAt 105 = .ok (.getfield 243, 3) := by decide +kernel
theorem dX11_lineAt_108 : decode cX11_lineAt 108 = .ok (.invokestatic 343, 3) := by decide +kernel
theorem dX11_lineAt_111 : decode cX11_lineAt 111 = .ok (.invokevirtual 331, 3) := by decide +kernel
theorem dX11_lineAt_114 : decode cX11_lineAt 114 = .ok (.pop, 1) := by decide +kernel
theorem dX11_lineAt_115 : decode cX11_lineAt 115 = .ok (.iload_n 2, 1) := by decide +kernel
theorem dX11_lineAt_116 : decode cX11_lineAt 116 = .ok (.aload 4, 2) := by decide +kernel
theorem dX11_lineAt_118 : decode cX11_lineAt 118 = .ok (.invokevirtual 347, 3) := by decide +kernel
theorem dX11_lineAt_121 : decode cX11_lineAt 121 = .ok (.if_icmp .lt 5, 3) := by decide +kernel
theorem dX11_lineAt_124 : decode cX11_lineAt 124 = .ok (.iconst (-1), 1) := by decide +kernel
theorem dX11_lineAt_125 : decode cX11_lineAt 125 = .ok (.ireturn, 1) := by decide +kernel
theorem dX11_lineAt_126 : decode cX11_lineAt 126 = .ok (.aload 4, 2) := by decide +kernel
theorem dX11_lineAt_128 : decode cX11_lineAt 128 = .ok (.iload_n 2, 1) := by decide +kernel
theorem dX11_lineAt_129 : decode cX11_lineAt 129 = .ok (.invokevirtual 350, 3) := by decide +kernel
theorem dX11_lineAt_132 : decode cX11_lineAt 132 = .ok (.ireturn, 1) := by decide +kernel
theorem dX11_isOutside_0 : decode cX11_isOutside 0 = .ok (.iload_n 0, 1) := by decide +kernel
theorem dX11_isOutside_1 : decode cX11_isOutside 1 = .ok (.iload_n 1, 1) := by decide +kernel
theorem dX11_isOutside_2 : decode cX11_isOutside 2 = .ok (.if_icmp .lt 8, 3) := by decide +kernel
theorem dX11_isOutside_5 : decode cX11_isOutside 5 = .ok (.iload_n 0, 1) := by decide +kernel
theorem dX11_isOutside_6 : decode cX11_isOutside 6 = .ok (.iload_n 2, 1) := by decide +kernel
theorem dX11_isOutside_7 : decode cX11_isOutside 7 = .ok (.if_icmp .le 7, 3) := by decide +kernel
theorem dX11_isOutside_10 : decode cX11_isOutside 10 = .ok (.iconst 1, 1) := by decide +kernel
theorem dX11_isOutside_11 : decode cX11_isOutside 11 = .ok (.goto 4, 3) := by decide +kernel
theorem dX11_isOutside_14 : decode cX11_isOutside 14 = .ok (.iconst 0, 1) := by decide +kernel
theorem dX11_isOutside_15 : decode cX11_isOutside 15 = .ok (.ireturn, 1) := by decide +kernel
theorem dX11_cellAt_0 : decode cX11_cellAt 0 = .ok (.iload_n 1, 1) := by decide +kernel
theorem dX11_cellAt_1 : decode cX11_cellAt 1 = .ok (.ifCond .lt 12, 3) := by decide +kernel
theorem dX11_cellAt_4 : decode cX11_cellAt 4 = .ok (.iload_n 1, 1) := by decide +kernel
theorem dX11_cellAt_5 : decode cX11_cellAt 5 = .ok (.aload_n 0, 1) := by decide +kernel
theorem dX11_cellAt_6 : decode cX11_cellAt 6 = .ok (.getfield 17, 3) := by decide +kernel
theorem dX11_cellAt_9 : decode cX11_cellAt 9 = .ok (.arraylength, 1) := by decide +kernel
theorem dX11_cellAt_10 : decode cX11_cellAt 10 = .ok (.if_icmp .lt 14, 3) := by decide +kernel
theorem dX11_cellAt_13 : decode cX11_cellAt 13 = .ok (.new 199, 3) := by decide +kernel
theorem dX11_cellAt_16 : decode cX11_cellAt 16 = .ok (.dup, 1) := by decide +kernel
theorem dX11_cellAt_17 : decode cX11_cellAt 17 = .ok (.ldc_w 353, 3) := by decide +kernel
theorem dX11_cellAt_20 : decode cX11_cellAt 20 = .ok (.invokespecial 203, 3) := by decide +kernel
theorem dX11_cellAt_23 : decode cX11_cellAt 23 = .ok (.athrow, 1) := by decide +kernel
theorem dX11_cellAt_24 : decode cX11_cellAt 24 = .ok (.aload_n 0, 1) := by decide +kernel
theorem dX11_cellAt_25 : decode cX11_cellAt 25 = .ok (.getfield 17, 3) := by decide +kernel
theorem dX11_cellAt_28 : decode cX11_cellAt 28 = .ok (.iload_n 1, 1) := by decide +kernel
theorem dX11_cellAt_29 : decode cX11_cellAt 29 = .ok (.aaload, 1) := by decide +kernel
theorem dX11_cellAt_30 : decode cX11_cellAt 30 = .ok (.areturn, 1) := by decide +kernel
theorem dX11_phoneAt_0 : decode cX11_phoneAt 0 = .ok (.iload_n 1, 1) := by decide +kernel
theorem dX11_phoneAt_1 : decode cX11_phoneAt 1 = .ok (.ifCond .lt 12, 3) := by decide +kernel
theorem dX11_phoneAt_4 : decode cX11_phoneAt 4 = .ok (.iload_n 1, 1) := by decide +kernel
theorem dX11_phoneAt_5 : decode cX11_phoneAt 5 = .ok (.aload_n 0, 1) := by decide +kernel
theorem dX11_phoneAt_6 : decode cX11_phoneAt 6 = .ok (.getfield 29, 3) := by decide +kernel
theorem dX11_phoneAt_9 : decode cX11_phoneAt 9 = .ok (.arraylength, 1) := by decide +kernel
theorem dX11_phoneAt_10 : decode cX11_phoneAt 10 = .ok (.if_icmp .lt 14, 3) := by decide +kernel
theorem dX11_phoneAt_13 : decode cX11_phoneAt 13 = .ok (.new 199, 3) := by decide +kernel
theorem dX11_phoneAt_16 : decode cX11_phoneAt 16 = .ok (.dup, 1) := by decide +kernel
theorem dX11_phoneAt_17 : decode cX11_phoneAt 17 = .ok (.ldc_w 355, 3) := by decide +kernel
theorem dX11_phoneAt_20 : decode cX11_phoneAt 20 = .ok (.invokespecial 203, 3) := by decide +kernel
theorem dX11_phoneAt_23 : decode cX11_phoneAt 23 = .ok (.athrow, 1) := by decide +kernel
theorem dX11_phoneAt_24 : decode cX11_phoneAt 24 = .ok (.aload_n 0, 1) := by decide +kernel
theorem dX11_phoneAt_25 : decode cX11_phoneAt 25 = .ok (.getfield 29, 3) := by decide +kernel
theorem dX11_phoneAt_28 : decode cX11_phoneAt 28 = .ok (.iload_n 1, 1) := by decide +kernel
theorem dX11_phoneAt_29 : decode cX11_phoneAt 29 = .ok (.aaload, 1) := by decide +kernel
theorem dX11_phoneAt_30 : decode cX11_phoneAt 30 = .ok (.areturn, 1) := by decide +kernel
theorem dX11_walletAt_0 : decode cX11_walletAt 0 = .ok (.iload_n 1, 1) := by decide +kernel
theorem dX11_walletAt_1 : decode cX11_walletAt 1 = .ok (.ifCond .lt 12, 3) := by decide +kernel
theorem dX11_walletAt_4 : decode cX11_walletAt 4 = .ok (.iload_n 1, 1) := by decide +kernel
theorem dX11_walletAt_5 : decode cX11_walletAt 5 = .ok (.aload_n 0, 1) := by decide +kernel
theorem dX11_walletAt_6 : decode cX11_walletAt 6 = .ok (.getfield 23, 3) := by decide +kernel
theorem dX11_walletAt_9 : decode cX11_walletAt 9 = .ok (.arraylength, 1) := by decide +kernel
theorem dX11_walletAt_10 : decode cX11_walletAt 10 = .ok (.if_icmp .lt 14, 3) := by decide +kernel
theorem dX11_walletAt_13 : decode cX11_walletAt 13 = .ok (.new 199, 3) := by decide +kernel
theorem dX11_walletAt_16 : decode cX11_walletAt 16 = .ok (.dup, 1) := by decide +kernel
theorem dX11_walletAt_17 : decode cX11_walletAt 17 = .ok (.ldc_w 357, 3) := by decide +kernel
theorem dX11_walletAt_20 : decode cX11_walletAt 20 = .ok (.invokespecial 203, 3) := by decide +kernel
theorem dX11_walletAt_23 : decode cX11_walletAt 23 = .ok (.athrow, 1) := by decide +kernel
theorem dX11_walletAt_24 : decode cX11_walletAt 24 = .ok (.aload_n 0, 1) := by decide +kernel
theorem dX11_walletAt_25 : decode cX11_walletAt 25 = .ok (.getfield 23, 3) := by decide +kernel
theorem dX11_walletAt_28 : decode cX11_walletAt 28 = .ok (.iload_n 1, 1) := by decide +kernel
theorem dX11_walletAt_29 : decode cX11_walletAt 29 = .ok (.aaload, 1) := by decide +kernel
theorem dX11_walletAt_30 : decode cX11_walletAt 30 = .ok (.areturn, 1) := by decide +kernel
theorem dX11_callAt_0 : decode cX11_callAt 0 = .ok (.iload_n 1, 1) := by decide +kernel
theorem dX11_callAt_1 : decode cX11_callAt 1 = .ok (.ifCond .lt 14, 3) := by decide +kernel
theorem dX11_callAt_4 : decode cX11_callAt 4 = .ok (.iload_n 1, 1) := by decide +kernel
theorem dX11_callAt_5 : decode cX11_callAt 5 = .ok (.aload_n 0, 1) := by decide +kernel
theorem dX11_callAt_6 : decode cX11_callAt 6 = .ok (.getfield 40, 3) := by decide +kernel
theorem dX11_callAt_9 : decode cX11_callAt 9 = .ok (.invokevirtual 159, 3) := by decide +kernel
theorem dX11_callAt_12 : decode cX11_callAt 12 = .ok (.if_icmp .lt 14, 3) := by decide +kernel
theorem dX11_callAt_15 : decode cX11_callAt 15 = .ok (.new 199, 3) := by decide +kernel
theorem dX11_callAt_18 : decode cX11_callAt 18 = .ok (.dup, 1) := by decide +kernel
theorem dX11_callAt_19 : decode cX11_callAt 19 = .ok (.ldc_w 359, 3) := by decide +kernel
theorem dX11_callAt_22 : decode cX11_callAt 22 = .ok (.invokespecial 203, 3) := by decide +kernel
theorem dX11_callAt_25 : decode cX11_callAt 25 = .ok (.athrow, 1) := by decide +kernel
theorem dX11_callAt_26 : decode cX11_callAt 26 = .ok (.aload_n 0, 1) := by decide +kernel
theorem dX11_callAt_27 : decode cX11_callAt 27 = .ok (.getfield 40, 3) := by decide +kernel
theorem dX11_callAt_30 : decode cX11_callAt 30 = .ok (.iload_n 1, 1) := by decide +kernel
theorem dX11_callAt_31 : decode cX11_callAt 31 = .ok (.invokevirtual 204, 3) := by decide +kernel
theorem dX11_callAt_34 : decode cX11_callAt 34 = .ok (.checkcast 230, 3) := by decide +kernel
theorem dX11_callAt_37 : decode cX11_callAt 37 = .ok (.areturn, 1) := by decide +kernel
theorem dX11_legAt_0 : decode cX11_legAt 0 = .ok (.iload_n 1, 1) := by decide +kernel
theorem dX11_legAt_1 : decode cX11_legAt 1 = .ok (.ifCond .lt 14, 3) := by decide +kernel
theorem dX11_legAt_4 : decode cX11_legAt 4 = .ok (.iload_n 1, 1) := by decide +kernel
theorem dX11_legAt_5 : decode cX11_legAt 5 = .ok (.aload_n 0, 1) := by decide +kernel
theorem dX11_legAt_6 : decode cX11_legAt 6 = .ok (.getfield 43, 3) := by decide +kernel
theorem dX11_legAt_9 : decode cX11_legAt 9 = .ok (.invokevirtual 159, 3) := by decide +kernel
theorem dX11_legAt_12 : decode cX11_legAt 12 = .ok (.if_icmp .lt 14, 3) := by decide +kernel
theorem dX11_legAt_15 : decode cX11_legAt 15 = .ok (.new 199, 3) := by decide +kernel
theorem dX11_legAt_18 : decode cX11_legAt 18 = .ok (.dup, 1) := by decide +kernel
theorem dX11_legAt_19 : decode cX11_legAt 19 = .ok (.ldc_w 361, 3) := by decide +kernel
theorem dX11_legAt_22 : decode cX11_legAt 22 = .ok (.invokespecial 203, 3) := by decide +kernel
theorem dX11_legAt_25 : decode cX11_legAt 25 = .ok (.athrow, 1) := by decide +kernel
theorem dX11_legAt_26 : decode cX11_legAt 26 = .ok (.aload_n 0, 1) := by decide +kernel
theorem dX11_legAt_27 : decode cX11_legAt 27 = .ok (.getfield 43, 3) := by decide +kernel
theorem dX11_legAt_30 : decode cX11_legAt 30 = .ok (.iload_n 1, 1) := by decide +kernel
theorem dX11_legAt_31 : decode cX11_legAt 31 = .ok (.invokevirtual 204, 3) := by decide +kernel
theorem dX11_legAt_34 : decode cX11_legAt 34 = .ok (.checkcast 183, 3) := by decide +kernel
theorem dX11_legAt_37 : decode cX11_legAt 37 = .ok (.areturn, 1) := by decide +kernel
theorem dX11_signOf_0 : decode cX11_signOf 0 = .ok (.iload_n 0, 1) := by decide +kernel
theorem dX11_signOf_1 : decode cX11_signOf 1 = .ok (.tableswitch 36 1 3 #[27, 30, 33], 27) := by decide +kernel
theorem dX11_signOf_28 : decode cX11_signOf 28 = .ok (.bipush 46, 2) := by decide +kernel
theorem dX11_signOf_30 : decode cX11_signOf 30 = .ok (.ireturn, 1) := by decide +kernel
theorem dX11_signOf_31 : decode cX11_signOf 31 = .ok (.bipush 33, 2) := by decide +kernel
theorem dX11_signOf_33 : decode cX11_signOf 33 = .ok (.ireturn, 1) := by decide +kernel
theorem dX11_signOf_34 : decode cX11_signOf 34 = .ok (.bipush 63, 2) := by decide +kernel
theorem dX11_signOf_36 : decode cX11_signOf 36 = .ok (.ireturn, 1) := by decide +kernel
theorem dX11_signOf_37 : decode cX11_signOf 37 = .ok (.bipush 126, 2) := by decide +kernel
theorem dX11_signOf_39 : decode cX11_signOf 39 = .ok (.ireturn, 1) := by decide +kernel
theorem dX11_dayOf_0 : decode cX11_dayOf 0 = .ok (.iload_n 0, 1) := by decide +kernel
theorem dX11_dayOf_1 : decode cX11_dayOf 1 = .ok (.sipush 2400, 3) := by decide +kernel
theorem dX11_dayOf_4 : decode cX11_dayOf 4 = .ok (.idiv, 1) := by decide +kernel
theorem dX11_dayOf_5 : decode cX11_dayOf 5 = .ok (.ireturn, 1) := by decide +kernel
theorem dX11_isPeakAt_0 : decode cX11_isPeakAt 0 = .ok (.iload_n 0, 1) := by decide +kernel
theorem dX11_isPeakAt_1 : decode cX11_isPeakAt 1 = .ok (.bipush 100, 2) := by decide +kernel
theorem dX11_isPeakAt_3 : decode cX11_isPeakAt 3 = .ok (.idiv, 1) := by decide +kernel
theorem dX11_isPeakAt_4 : decode cX11_isPeakAt 4 = .ok (.bipush 24, 2) := by decide +kernel
theorem dX11_isPeakAt_6 : decode cX11_isPeakAt 6 = .ok (.irem, 1) := by decide +kernel
theorem dX11_isPeakAt_7 : decode cX11_isPeakAt 7 = .ok (.istore_n 1, 1) := by decide +kernel
theorem dX11_isPeakAt_8 : decode cX11_isPeakAt 8 = .ok (.iload_n 1, 1) := by decide +kernel
theorem dX11_isPeakAt_9 : decode cX11_isPeakAt 9 = .ok (.bipush 8, 2) := by decide +kernel
theorem dX11_isPeakAt_11 : decode cX11_isPeakAt 11 = .ok (.if_icmp .lt 13, 3) := by decide +kernel
theorem dX11_isPeakAt_14 : decode cX11_isPeakAt 14 = .ok (.iload_n 1, 1) := by decide +kernel
theorem dX11_isPeakAt_15 : decode cX11_isPeakAt 15 = .ok (.bipush 19, 2) := by decide +kernel
theorem dX11_isPeakAt_17 : decode cX11_isPeakAt 17 = .ok (.if_icmp .gt 7, 3) := by decide +kernel
theorem dX11_isPeakAt_20 : decode cX11_isPeakAt 20 = .ok (.iconst 1, 1) := by decide +kernel
theorem dX11_isPeakAt_21 : decode cX11_isPeakAt 21 = .ok (.goto 4, 3) := by decide +kernel
theorem dX11_isPeakAt_24 : decode cX11_isPeakAt 24 = .ok (.iconst 0, 1) := by decide +kernel
theorem dX11_isPeakAt_25 : decode cX11_isPeakAt 25 = .ok (.ireturn, 1) := by decide +kernel
theorem dX11_rateNow_0 : decode cX11_rateNow 0 = .ok (.aload_n 1, 1) := by decide +kernel
theorem dX11_rateNow_1 : decode cX11_rateNow 1 = .ok (.getfield 219, 3) := by decide +kernel
theorem dX11_rateNow_4 : decode cX11_rateNow 4 = .ok (.getfield 87, 3) := by decide +kernel
theorem dX11_rateNow_7 : decode cX11_rateNow 7 = .ok (.aload_n 0, 1) := by decide +kernel
theorem dX11_rateNow_8 : decode cX11_rateNow 8 = .ok (.getfield 50, 3) := by decide +kernel
theorem dX11_rateNow_11 : decode cX11_rateNow 11 = .ok (.invokestatic 363, 3) := by decide +kernel
theorem dX11_rateNow_14 : decode cX11_rateNow 14 = .ok (.invokevirtual 108, 3) := by decide +kernel
theorem dX11_rateNow_17 : decode cX11_rateNow 17 = .ok (.getfield 112, 3) := by decide +kernel
theorem dX11_rateNow_20 : decode cX11_rateNow 20 = .ok (.ireturn, 1) := by decide +kernel
theorem dX11_costOfStay_0 : decode cX11_costOfStay 0 = .ok (.iconst 0, 1) := by decide +kernel
theorem dX11_costOfStay_1 : decode cX11_costOfStay 1 = .ok (.istore_n 3, 1) := by decide +kernel
theorem dX11_costOfStay_2 : decode cX11_costOfStay 2 = .ok (.iload_n 1, 1) := by decide +kernel
theorem dX11_costOfStay_3 : decode cX11_costOfStay 3 = .ok (.iload_n 1, 1) := by decide +kernel
theorem dX11_costOfStay_4 : decode cX11_costOfStay 4 = .ok (.bipush 100, 2) := by decide +kernel
theorem dX11_costOfStay_6 : decode cX11_costOfStay 6 = .ok (.irem, 1) := by decide +kernel
theorem dX11_costOfStay_7 : decode cX11_costOfStay 7 = .ok (.isub, 1) := by decide +kernel
theorem dX11_costOfStay_8 : decode cX11_costOfStay 8 = .ok (.istore 4, 2) := by decide +kernel
theorem dX11_costOfStay_10 : decode cX11_costOfStay 10 = .ok (.iload 4, 2) := by decide +kernel
theorem dX11_costOfStay_12 : decode cX11_costOfStay 12 = .ok (.iload_n 2, 1) := by decide +kernel
theorem dX11_costOfStay_13 : decode cX11_costOfStay 13 = .ok (.if_icmp .ge 47, 3) := by decide +kernel
theorem dX11_costOfStay_16 : decode cX11_costOfStay 16 = .ok (.iload_n 1, 1) := by decide +kernel
theorem dX11_costOfStay_17 : decode cX11_costOfStay 17 = .ok (.iload 4, 2) := by decide +kernel
theorem dX11_costOfStay_19 : decode cX11_costOfStay 19 = .ok (.invokestatic 366, 3) := by decide +kernel
theorem dX11_costOfStay_22 : decode cX11_costOfStay 22 = .ok (.istore 5, 2) := by decide +kernel
theorem dX11_costOfStay_24 : decode cX11_costOfStay 24 = .ok (.iload_n 2, 1) := by decide +kernel
theorem dX11_costOfStay_25 : decode cX11_costOfStay 25 = .ok (.iload 4, 2) := by decide +kernel
theorem dX11_costOfStay_27 : decode cX11_costOfStay 27 = .ok (.bipush 100, 2) := by decide +kernel
theorem dX11_costOfStay_29 : decode cX11_costOfStay 29 = .ok (.iadd, 1) := by decide +kernel
theorem dX11_costOfStay_30 : decode cX11_costOfStay 30 = .ok (.invokestatic 372, 3) := by decide +kernel
theorem dX11_costOfStay_33 : decode cX11_costOfStay 33 = .ok (.istore 6, 2) := by decide +kernel
theorem dX11_costOfStay_35 : decode cX11_costOfStay 35 = .ok (.iload_n 3, 1) := by decide +kernel
theorem dX11_costOfStay_36 : decode cX11_costOfStay 36 = .ok (.aload_n 0, 1) := by decide +kernel
theorem dX11_costOfStay_37 : decode cX11_costOfStay 37 = .ok (.iload 4, 2) := by decide +kernel
theorem dX11_costOfStay_39 : decode cX11_costOfStay 39 = .ok (.invokestatic 363, 3) := by decide +kernel
theorem dX11_costOfStay_42 : decode cX11_costOfStay 42 = .ok (.invokevirtual 108, 3) := by decide +kernel
theorem dX11_costOfStay_45 : decode cX11_costOfStay 45 = .ok (.iload 5, 2) := by decide +kernel
theorem dX11_costOfStay_47 : decode cX11_costOfStay 47 = .ok (.iload 6, 2) := by decide +kernel
theorem dX11_costOfStay_49 : decode cX11_costOfStay 49 = .ok (.invokevirtual 375, 3) := by decide +kernel
theorem dX11_costOfStay_52 : decode cX11_costOfStay 52 = .ok (.iadd, 1) := by decide +kernel
theorem dX11_costOfStay_53 : decode cX11_costOfStay 53 = .ok (.istore_n 3, 1) := by decide +kernel
theorem dX11_costOfStay_54 : decode cX11_costOfStay 54 = .ok (.iinc 4 100, 3) := by decide +kernel
theorem dX11_costOfStay_57 : decode cX11_costOfStay 57 = .ok (.goto (-47), 3) := by decide +kernel
theorem dX11_costOfStay_60 : decode cX11_costOfStay 60 = .ok (.iload_n 3, 1) := by decide +kernel
theorem dX11_costOfStay_61 : decode cX11_costOfStay 61 = .ok (.ireturn, 1) := by decide +kernel
theorem dX11_legsIn_0 : decode cX11_legsIn 0 = .ok (.iconst 0, 1) := by decide +kernel
theorem dX11_legsIn_1 : decode cX11_legsIn 1 = .ok (.istore_n 2, 1) := by decide +kernel
theorem dX11_legsIn_2 : decode cX11_legsIn 2 = .ok (.aload_n 0, 1) := by decide +kernel
theorem dX11_legsIn_3 : decode cX11_legsIn 3 = .ok (.getfield 29, 3) := by decide +kernel
theorem dX11_legsIn_6 : decode cX11_legsIn 6 = .ok (.astore_n 3, 1) := by decide +kernel
theorem dX11_legsIn_7 : decode cX11_legsIn 7 = .ok (.aload_n 3, 1) := by decide +kernel
theorem dX11_legsIn_8 : decode cX11_legsIn 8 = .ok (.arraylength, 1) := by decide +kernel
theorem dX11_legsIn_9 : decode cX11_legsIn 9 = .ok (.istore 4, 2) := by decide +kernel
theorem dX11_legsIn_11 : decode cX11_legsIn 11 = .ok (.iconst 0, 1) := by decide +kernel
theorem dX11_legsIn_12 : decode cX11_legsIn 12 = .ok (.istore 5, 2) := by decide +kernel
theorem dX11_legsIn_14 : decode cX11_legsIn 14 = .ok (.iload 5, 2) := by decide +kernel
theorem dX11_legsIn_16 : decode cX11_legsIn 16 = .ok (.iload 4, 2) := by decide +kernel
theorem dX11_legsIn_18 : decode cX11_legsIn 18 = .ok (.if_icmp .ge 35, 3) := by decide +kernel
theorem dX11_legsIn_21 : decode cX11_legsIn 21 = .ok (.aload_n 3, 1) := by decide +kernel
theorem dX11_legsIn_22 : decode cX11_legsIn 22 = .ok (.iload 5, 2) := by decide +kernel
theorem dX11_legsIn_24 : decode cX11_legsIn 24 = .ok (.aaload, 1) := by decide +kernel
theorem dX11_legsIn_25 : decode cX11_legsIn 25 = .ok (.astore 6, 2) := by decide +kernel
theorem dX11_legsIn_27 : decode cX11_legsIn 27 = .ok (.aload 6, 2) := by decide +kernel
theorem dX11_legsIn_29 : decode cX11_legsIn 29 = .ok (.getfield 137, 3) := by decide +kernel
theorem dX11_legsIn_32 : decode cX11_legsIn 32 = .ok (.ifnull 15, 3) := by decide +kernel
theorem dX11_legsIn_35 : decode cX11_legsIn 35 = .ok (.aload 6, 2) := by decide +kernel
theorem dX11_legsIn_37 : decode cX11_legsIn 37 = .ok (.getfield 219, 3) := by decide +kernel
theorem dX11_legsIn_40 : decode cX11_legsIn 40 = .ok (.aload_n 1, 1) := by decide +kernel
theorem dX11_legsIn_41 : decode cX11_legsIn 41 = .ok (.if_acmp .ne 6, 3) := by decide +kernel
theorem dX11_legsIn_44 : decode cX11_legsIn 44 = .ok (.iinc 2 1, 3) := by decide +kernel
theorem dX11_legsIn_47 : decode cX11_legsIn 47 = .ok (.iinc 5 1, 3) := by decide +kernel
theorem dX11_legsIn_50 : decode cX11_legsIn 50 = .ok (.goto (-36), 3) := by decide +kernel
theorem dX11_legsIn_53 : decode cX11_legsIn 53 = .ok (.iload_n 2, 1) := by decide +kernel
theorem dX11_legsIn_54 : decode cX11_legsIn 54 = .ok (.ireturn, 1) := by decide +kernel
theorem dX11_openChannels_0 : decode cX11_openChannels 0 = .ok (.aload_n 1, 1) := by decide +kernel
theorem dX11_openChannels_1 : decode cX11_openChannels 1 = .ok (.getfield 96, 3) := by decide +kernel
theorem dX11_openChannels_4 : decode cX11_openChannels 4 = .ok (.aload_n 1, 1) := by decide +kernel
theorem dX11_openChannels_5 : decode cX11_openChannels 5 = .ok (.getfield 99, 3) := by decide +kernel
theorem dX11_openChannels_8 : decode cX11_openChannels 8 = .ok (.isub, 1) := by decide +kernel
theorem dX11_openChannels_9 : decode cX11_openChannels 9 = .ok (.aload_n 0, 1) := by decide +kernel
theorem dX11_openChannels_10 : decode cX11_openChannels 10 = .ok (.aload_n 1, 1) := by decide +kernel
theorem dX11_openChannels_11 : decode cX11_openChannels 11 = .ok (.invokevirtual 102, 3) := by decide +kernel
theorem dX11_openChannels_14 : decode cX11_openChannels 14 = .ok (.isub, 1) := by decide +kernel
theorem dX11_openChannels_15 : decode cX11_openChannels 15 = .ok (.ireturn, 1) := by decide +kernel
theorem dX11_openLeg_0 : decode cX11_openLeg 0 = .ok (.iload_n 3, 1) := by decide +kernel
theorem dX11_openLeg_1 : decode cX11_openLeg 1 = .ok (.ifCond .eq 13, 3) := by decide +kernel
theorem dX11_openLeg_4 : decode cX11_openLeg 4 = .ok (.aload_n 2, 1) := by decide +kernel
theorem dX11_openLeg_5 : decode cX11_openLeg 5 = .ok (.getfield 378, 3) := by decide +kernel
theorem dX11_openLeg_8 : decode cX11_openLeg 8 = .ok (.getfield 143, 3) := by decide +kernel
theorem dX11_openLeg_11 : decode cX11_openLeg 11 = .ok (.goto 7, 3) := by decide +kernel
theorem dX11_openLeg_14 : decode cX11_openLeg 14 = .ok (.aload_n 1, 1) := by decide +kernel
theorem dX11_openLeg_15 : decode cX11_openLeg 15 = .ok (.getfield 143, 3) := by decide +kernel
theorem dX11_openLeg_18 : decode cX11_openLeg 18 = .ok (.astore 4, 2) := by decide +kernel
theorem dX11_openLeg_20 : decode cX11_openLeg 20 = .ok (.new 183, 3) := by decide +kernel
theorem dX11_openLeg_23 : decode cX11_openLeg 23 = .ok (.dup, 1) := by decide +kernel
theorem dX11_openLeg_24 : decode cX11_openLeg 24 = .ok (.aload_n 0, 1) := by decide +kernel
theorem dX11_openLeg_25 : decode cX11_openLeg 25 = .ok (.getfield 43, 3) := by decide +kernel
theorem dX11_openLeg_28 : decode cX11_openLeg 28 = .ok (.invokevirtual 159, 3) := by decide +kernel
theorem dX11_openLeg_31 : decode cX11_openLeg 31 = .ok (.aload_n 1, 1) := by decide +kernel
theorem dX11_openLeg_32 : decode cX11_openLeg 32 = .ok (.aload_n 2, 1) := by decide +kernel
theorem dX11_openLeg_33 : decode cX11_openLeg 33 = .ok (.aload 4, 2) := by decide +kernel
theorem dX11_openLeg_35 : decode cX11_openLeg 35 = .ok (.aload_n 0, 1) := by decide +kernel
theorem dX11_openLeg_36 : decode cX11_openLeg 36 = .ok (.getfield 50, 3) := by decide +kernel
theorem dX11_openLeg_39 : decode cX11_openLeg 39 = .ok (.invokespecial 381, 3) := by decide +kernel
theorem dX11_openLeg_42 : decode cX11_openLeg 42 = .ok (.astore 5, 2) := by decide +kernel
theorem dX11_openLeg_44 : decode cX11_openLeg 44 = .ok (.aload 5, 2) := by decide +kernel
theorem dX11_openLeg_46 : decode cX11_openLeg 46 = .ok (.iconst 0, 1) := by decide +kernel
theorem dX11_openLeg_47 : decode cX11_openLeg 47 = .ok (.aload_n 0, 1) := by decide +kernel
theorem dX11_openLeg_48 : decode cX11_openLeg 48 = .ok (.getfield 50, 3) := by decide +kernel
theorem dX11_openLeg_51 : decode cX11_openLeg 51 = .ok (.aload_n 1, 1) := by decide +kernel
theorem dX11_openLeg_52 : decode cX11_openLeg 52 = .ok (.getfield 219, 3) := by decide +kernel
theorem dX11_openLeg_55 : decode cX11_openLeg 55 = .ok (.invokevirtual 273, 3) := by decide +kernel
theorem dX11_openLeg_58 : decode cX11_openLeg 58 = .ok (.aload_n 1, 1) := by decide +kernel
theorem dX11_openLeg_59 : decode cX11_openLeg 59 = .ok (.aload 5, 2) := by decide +kernel
theorem dX11_openLeg_61 : decode cX11_openLeg 61 = .ok (.putfield 137, 3) := by decide +kernel
theorem dX11_openLeg_64 : decode cX11_openLeg 64 = .ok (.aload_n 2, 1) := by decide +kernel
theorem dX11_openLeg_65 : decode cX11_openLeg 65 = .ok (.getfield 323, 3) := by decide +kernel
theorem dX11_openLeg_68 : decode cX11_openLeg 68 = .ok (.aload 5, 2) := by decide +kernel
theorem dX11_openLeg_70 : decode cX11_openLeg 70 = .ok (.invokevirtual 178, 3) := by decide +kernel
theorem dX11_openLeg_73 : decode cX11_openLeg 73 = .ok (.pop, 1) := by decide +kernel
theorem dX11_openLeg_74 : decode cX11_openLeg 74 = .ok (.aload_n 0, 1) := by decide +kernel
theorem dX11_openLeg_75 : decode cX11_openLeg 75 = .ok (.getfield 43, 3) := by decide +kernel
theorem dX11_openLeg_78 : decode cX11_openLeg 78 = .ok (.aload 5, 2) := by decide +kernel
theorem dX11_openLeg_80 : decode cX11_openLeg 80 = .ok (.invokevirtual 178, 3) := by decide +kernel
theorem dX11_openLeg_83 : decode cX11_openLeg 83 = .ok (.pop, 1) := by decide +kernel
theorem dX11_openLeg_84 : decode cX11_openLeg 84 = .ok (.aload 5, 2) := by decide +kernel
theorem dX11_openLeg_86 : decode cX11_openLeg 86 = .ok (.areturn, 1) := by decide +kernel
theorem dX11_takeSliceOrCut_0 : decode cX11_takeSliceOrCut 0 = .ok (.aload_n 0, 1) := by decide +kernel
theorem dX11_takeSliceOrCut_1 : decode cX11_takeSliceOrCut 1 = .ok (.aload_n 1, 1) := by decide +kernel
theorem dX11_takeSliceOrCut_2 : decode cX11_takeSliceOrCut 2 = .ok (.invokevirtual 384, 3) := by decide +kernel
theorem dX11_takeSliceOrCut_5 : decode cX11_takeSliceOrCut 5 = .ok (.ifCond .ne 9, 3) := by decide +kernel
theorem dX11_takeSliceOrCut_8 : decode cX11_takeSliceOrCut 8 = .ok (.aload_n 0, 1) := by decide +kernel
theorem dX11_takeSliceOrCut_9 : decode cX11_takeSliceOrCut 9 = .ok (.aload_n 1, 1) := by decide +kernel
theorem dX11_takeSliceOrCut_10 : decode cX11_takeSliceOrCut 10 = .ok (.iconst 2, 1) := by decide +kernel
theorem dX11_takeSliceOrCut_11 : decode cX11_takeSliceOrCut 11 = .ok (.invokevirtual 261, 3) := by decide +kernel
theorem dX11_takeSliceOrCut_14 : decode cX11_takeSliceOrCut 14 = .ok (.return_, 1) := by decide +kernel
theorem dX11_closeLeg_0 : decode cX11_closeLeg 0 = .ok (.aload_n 0, 1) := by decide +kernel
theorem dX11_closeLeg_1 : decode cX11_closeLeg 1 = .ok (.aload_n 1, 1) := by decide +kernel
theorem dX11_closeLeg_2 : decode cX11_closeLeg 2 = .ok (.iload_n 2, 1) := by decide +kernel
theorem dX11_closeLeg_3 : decode cX11_closeLeg 3 = .ok (.invokevirtual 388, 3) := by decide +kernel
theorem dX11_closeLeg_6 : decode cX11_closeLeg 6 = .ok (.aload_n 1, 1) := by decide +kernel
theorem dX11_closeLeg_7 : decode cX11_closeLeg 7 = .ok (.getfield 265, 3) := by decide +kernel
theorem dX11_closeLeg_10 : decode cX11_closeLeg 10 = .ok (.invokevirtual 391, 3) := by decide +kernel
theorem dX11_closeLeg_13 : decode cX11_closeLeg 13 = .ok (.astore_n 3, 1) := by decide +kernel
theorem dX11_closeLeg_14 : decode cX11_closeLeg 14 = .ok (.aload_n 3, 1) := by decide +kernel
theorem dX11_closeLeg_15 : decode cX11_closeLeg 15 = .ok (.ifnull 9, 3) := by decide +kernel
theorem dX11_closeLeg_18 : decode cX11_closeLeg 18 = .ok (.aload_n 0, 1) := by decide +kernel
theorem dX11_closeLeg_19 : decode cX11_closeLeg 19 = .ok (.aload_n 3, 1) := by decide +kernel
theorem dX11_closeLeg_20 : decode cX11_closeLeg 20 = .ok (.iconst 1, 1) := by decide +kernel
theorem dX11_closeLeg_21 : decode cX11_closeLeg 21 = .ok (.invokevirtual 388, 3) := by decide +kernel
theorem dX11_closeLeg_24 : decode cX11_closeLeg 24 = .ok (.return_, 1) := by decide +kernel
theorem dX11_finishLeg_0 : decode cX11_finishLeg 0 = .ok (.aload_n 0, 1) := by decide +kernel
theorem dX11_finishLeg_1 : decode cX11_finishLeg 1 = .ok (.aload_n 1, 1) := by decide +kernel
theorem dX11_finishLeg_2 : decode cX11_finishLeg 2 = .ok (.invokevirtual 395, 3) := by decide +kernel
theorem dX11_finishLeg_5 : decode cX11_finishLeg 5 = .ok (.aload_n 1, 1) := by decide +kernel
theorem dX11_finishLeg_6 : decode cX11_finishLeg 6 = .ok (.iconst 2, 1) := by decide +kernel
theorem dX11_finishLeg_7 : decode cX11_finishLeg 7 = .ok (.aload_n 1, 1) := by decide +kernel
theorem dX11_finishLeg_8 : decode cX11_finishLeg 8 = .ok (.invokevirtual 398, 3) := by decide +kernel
theorem dX11_finishLeg_11 : decode cX11_finishLeg 11 = .ok (.aload_n 1, 1) := by decide +kernel
theorem dX11_finishLeg_12 : decode cX11_finishLeg 12 = .ok (.getfield 335, 3) := by decide +kernel
theorem dX11_finishLeg_15 : decode cX11_finishLeg 15 = .ok (.getfield 219, 3) := by decide +kernel
theorem dX11_finishLeg_18 : decode cX11_finishLeg 18 = .ok (.invokevirtual 273, 3) := by decide +kernel
theorem dX11_finishLeg_21 : decode cX11_finishLeg 21 = .ok (.aload_n 1, 1) := by decide +kernel
theorem dX11_finishLeg_22 : decode cX11_finishLeg 22 = .ok (.iload_n 2, 1) := by decide +kernel
theorem dX11_finishLeg_23 : decode cX11_finishLeg 23 = .ok (.putfield 243, 3) := by decide +kernel
theorem dX11_finishLeg_26 : decode cX11_finishLeg 26 = .ok (.aload_n 1, 1) := by decide +kernel
theorem dX11_finishLeg_27 : decode cX11_finishLeg 27 = .ok (.getfield 335, 3) := by decide +kernel
theorem dX11_finishLeg_30 : decode cX11_finishLeg 30 = .ok (.aconst_null, 1) := by decide +kernel
theorem dX11_finishLeg_31 : decode cX11_finishLeg 31 = .ok (.putfield 137, 3) := by decide +kernel
theorem dX11_finishLeg_34 : decode cX11_finishLeg 34 = .ok (.return_, 1) := by decide +kernel
theorem dX11_liveSecond_0 : decode cX11_liveSecond 0 = .ok (.iconst 0, 1) := by decide +kernel
theorem dX11_liveSecond_1 : decode cX11_liveSecond 1 = .ok (.istore_n 1, 1) := by decide +kernel
theorem dX11_liveSecond_2 : decode cX11_liveSecond 2 = .ok (.aload_n 0, 1) := by decide +kernel
theorem dX11_liveSecond_3 : decode cX11_liveSecond 3 = .ok (.getfield 29, 3) := by decide +kernel
theorem dX11_liveSecond_6 : decode cX11_liveSecond 6 = .ok (.astore_n 2, 1) := by decide +kernel
theorem dX11_liveSecond_7 : decode cX11_liveSecond 7 = .ok (.aload_n 2, 1) := by decide +kernel
theorem dX11_liveSecond_8 : decode cX11_liveSecond 8 = .ok (.arraylength, 1) := by decide +kernel
theorem dX11_liveSecond_9 : decode cX11_liveSecond 9 = .ok (.istore_n 3, 1) := by decide +kernel
theorem dX11_liveSecond_10 : decode cX11_liveSecond 10 = .ok (.iconst 0, 1) := by decide +kernel
theorem dX11_liveSecond_11 : decode cX11_liveSecond 11 = .ok (.istore 4, 2) := by decide +kernel
theorem dX11_liveSecond_13 : decode cX11_liveSecond 13 = .ok (.iload 4, 2) := by decide +kernel
theorem dX11_liveSecond_15 : decode cX11_liveSecond 15 = .ok (.iload_n 3, 1) := by decide +kernel
theorem dX11_liveSecond_16 : decode cX11_liveSecond 16 = .ok (.if_icmp .ge 38, 3) := by decide +kernel
theorem dX11_liveSecond_19 : decode cX11_liveSecond 19 = .ok (.aload_n 2, 1) := by decide +kernel
theorem dX11_liveSecond_20 : decode cX11_liveSecond 20 = .ok (.iload 4, 2) := by decide +kernel
theorem dX11_liveSecond_22 : decode cX11_liveSecond 22 = .ok (.aaload, 1) := by decide +kernel
theorem dX11_liveSecond_23 : decode cX11_liveSecond 23 = .ok (.astore 5, 2) := by decide +kernel
theorem dX11_liveSecond_25 : decode cX11_liveSecond 25 = .ok (.aload 5, 2) := by decide +kernel
theorem dX11_liveSecond_27 : decode cX11_liveSecond 27 = .ok (.getfield 137, 3) := by decide +kernel
theorem dX11_liveSecond_30 : decode cX11_liveSecond 30 = .ok (.ifnull 18, 3) := by decide +kernel
theorem dX11_liveSecond_33 : decode cX11_liveSecond 33 = .ok (.aload_n 0, 1) := by decide +kernel
theorem dX11_liveSecond_34 : decode cX11_liveSecond 34 = .ok (.aload 5, 2) := by decide +kernel
theorem dX11_liveSecond_36 : decode cX11_liveSecond 36 = .ok (.getfield 137, 3) := by decide +kernel
theorem dX11_liveSecond_39 : decode cX11_liveSecond 39 = .ok (.invokevirtual 401, 3) := by decide +kernel
theorem dX11_liveSecond_42 : decode cX11_liveSecond 42 = .ok (.ifCond .ne 6, 3) := by decide +kernel
theorem dX11_liveSecond_45 : decode cX11_liveSecond 45 = .ok (.iinc 1 1, 3) := by decide +kernel
theorem dX11_liveSecond_48 : decode cX11_liveSecond 48 = .ok (.iinc 4 1, 3) := by decide +kernel
theorem dX11_liveSecond_51 : decode cX11_liveSecond 51 = .ok (.goto (-38), 3) := by decide +kernel
theorem dX11_liveSecond_54 : decode cX11_liveSecond 54 = .ok (.aload_n 0, 1) := by decide +kernel
theorem dX11_liveSecond_55 : decode cX11_liveSecond 55 = .ok (.dup, 1) := by decide +kernel
theorem dX11_liveSecond_56 : decode cX11_liveSecond 56 = .ok (.getfield 50, 3) := by decide +kernel
theorem dX11_liveSecond_59 : decode cX11_liveSecond 59 = .ok (.iconst 1, 1) := by decide +kernel
theorem dX11_liveSecond_60 : decode cX11_liveSecond 60 = .ok (.iadd, 1) := by decide +kernel
theorem dX11_liveSecond_61 : decode cX11_liveSecond 61 = .ok (.putfield 50, 3) := by decide +kernel
theorem dX11_liveSecond_64 : decode cX11_liveSecond 64 = .ok (.iload_n 1, 1) := by decide +kernel
theorem dX11_liveSecond_65 : decode cX11_liveSecond 65 = .ok (.ireturn, 1) := by decide +kernel
theorem dX11_isLived_0 : decode cX11_isLived 0 = .ok (.aload_n 0, 1) := by decide +kernel
theorem dX11_isLived_1 : decode cX11_isLived 1 = .ok (.aload_n 1, 1) := by decide +kernel
theorem dX11_isLived_2 : decode cX11_isLived 2 = .ok (.getfield 335, 3) := by decide +kernel
theorem dX11_isLived_5 : decode cX11_isLived 5 = .ok (.invokevirtual 284, 3) := by decide +kernel
theorem dX11_isLived_8 : decode cX11_isLived 8 = .ok (.istore_n 2, 1) := by decide +kernel
theorem dX11_isLived_9 : decode cX11_isLived 9 = .ok (.aload_n 0, 1) := by decide +kernel
theorem dX11_isLived_10 : decode cX11_isLived 10 = .ok (.aload_n 1, 1) := by decide +kernel
theorem dX11_isLived_11 : decode cX11_isLived 11 = .ok (.iload_n 2, 1) := by decide +kernel
theorem dX11_isLived_12 : decode cX11_isLived 12 = .ok (.invokevirtual 404, 3) := by decide +kernel
theorem dX11_isLived_15 : decode cX11_isLived 15 = .ok (.ifCond .ne 8, 3) := by decide +kernel
theorem dX11_isLived_18 : decode cX11_isLived 18 = .ok (.aload_n 0, 1) := by decide +kernel
theorem dX11_isLived_19 : decode cX11_isLived 19 = .ok (.aload_n 1, 1) := by decide +kernel
theorem dX11_isLived_20 : decode cX11_isLived 20 = .ok (.invokevirtual 395, 3) := by decide +kernel
theorem dX11_isLived_23 : decode cX11_isLived 23 = .ok (.aload_n 1, 1) := by decide +kernel
theorem dX11_isLived_24 : decode cX11_isLived 24 = .ok (.getfield 187, 3) := by decide +kernel
theorem dX11_isLived_27 : decode cX11_isLived 27 = .ok (.getfield 288, 3) := by decide +kernel
theorem dX11_isLived_30 : decode cX11_isLived 30 = .ok (.iconst 1, 1) := by decide +kernel
theorem dX11_isLived_31 : decode cX11_isLived 31 = .ok (.if_icmp .ge 19, 3) := by decide +kernel
theorem dX11_isLived_34 : decode cX11_isLived 34 = .ok (.aload_n 0, 1) := by decide +kernel
theorem dX11_isLived_35 : decode cX11_isLived 35 = .ok (.aload_n 1, 1) := by decide +kernel
theorem dX11_isLived_36 : decode cX11_isLived 36 = .ok (.invokevirtual 384, 3) := by decide +kernel
theorem dX11_isLived_39 : decode cX11_isLived 39 = .ok (.ifCond .ne 11, 3) := by decide +kernel
theorem dX11_isLived_42 : decode cX11_isLived 42 = .ok (.aload_n 0, 1) := by decide +kernel
theorem dX11_isLived_43 : decode cX11_isLived 43 = .ok (.aload_n 1, 1) := by decide +kernel
theorem dX11_isLived_44 : decode cX11_isLived 44 = .ok (.iconst 2, 1) := by decide +kernel
theorem dX11_isLived_45 : decode cX11_isLived 45 = .ok (.invokevirtual 261, 3) := by decide +kernel
theorem dX11_isLived_48 : decode cX11_isLived 48 = .ok (.iconst 0, 1) := by decide +kernel
theorem dX11_isLived_49 : decode cX11_isLived 49 = .ok (.ireturn, 1) := by decide +kernel
theorem dX11_isLived_50 : decode cX11_isLived 50 = .ok (.aload_n 1, 1) := by decide +kernel
theorem dX11_isLived_51 : decode cX11_isLived 51 = .ok (.iload_n 2, 1) := by decide +kernel
theorem dX11_isLived_52 : decode cX11_isLived 52 = .ok (.aload_n 0, 1) := by decide +kernel
theorem dX11_isLived_53 : decode cX11_isLived 53 = .ok (.getfield 50, 3) := by decide +kernel
theorem dX11_isLived_56 : decode cX11_isLived 56 = .ok (.invokestatic 167, 3) := by decide +kernel
theorem dX11_isLived_59 : decode cX11_isLived 59 = .ok (.invokevirtual 408, 3) := by decide +kernel
theorem dX11_isLived_62 : decode cX11_isLived 62 = .ok (.iconst 1, 1) := by decide +kernel
theorem dX11_isLived_63 : decode cX11_isLived 63 = .ok (.ireturn, 1) := by decide +kernel
theorem dX11_isSliceFit_0 : decode cX11_isSliceFit 0 = .ok (.aload_n 1, 1) := by decide +kernel
theorem dX11_isSliceFit_1 : decode cX11_isSliceFit 1 = .ok (.getfield 187, 3) := by decide +kernel
theorem dX11_isSliceFit_4 : decode cX11_isSliceFit 4 = .ok (.getfield 411, 3) := by decide +kernel
theorem dX11_isSliceFit_7 : decode cX11_isSliceFit 7 = .ok (.astore_n 3, 1) := by decide +kernel
theorem dX11_isSliceFit_8 : decode cX11_isSliceFit 8 = .ok (.aload_n 3, 1) := by decide +kernel
theorem dX11_isSliceFit_9 : decode cX11_isSliceFit 9 = .ok (.ifnonnull 20, 3) := by decide +kernel
theorem dX11_isSliceFit_12 : decode cX11_isSliceFit 12 = .ok (.aload_n 1, 1) := by decide +kernel
theorem dX11_isSliceFit_13 : decode cX11_isSliceFit 13 = .ok (.getfield 187, 3) := by decide +kernel
theorem dX11_isSliceFit_16 : decode cX11_isSliceFit 16 = .ok (.getfield 415, 3) := by decide +kernel
theorem dX11_isSliceFit_19 : decode cX11_isSliceFit 19 = .ok (.iload_n 2, 1) := by decide +kernel
theorem dX11_isSliceFit_20 : decode cX11_isSliceFit 20 = .ok (.if_icmp .ne 7, 3) := by decide +kernel
theorem dX11_isSliceFit_23 : decode cX11_isSliceFit 23 = .ok (.iconst 1, 1) := by decide +kernel
theorem dX11_isSliceFit_24 : decode cX11_isSliceFit 24 = .ok (.goto 4, 3) := by decide +kernel
theorem dX11_isSliceFit_27 : decode cX11_isSliceFit 27 = .ok (.iconst 0, 1) := by decide +kernel
theorem dX11_isSliceFit_28 : decode cX11_isSliceFit 28 = .ok (.ireturn, 1) := by decide +kernel
theorem dX11_isSliceFit_29 : decode cX11_isSliceFit 29 = .ok (.aload_n 3, 1) := by decide +kernel
theorem dX11_isSliceFit_30 : decode cX11_isSliceFit 30 = .ok (.aload_n 0, 1) := by decide +kernel
theorem dX11_isSliceFit_31 : decode cX11_isSliceFit 31 = .ok (.getfield 50, 3) := by decide +kernel
theorem dX11_isSliceFit_34 : decode cX11_isSliceFit 34 = .ok (.invokestatic 167, 3) := by decide +kernel
theorem dX11_isSliceFit_37 : decode cX11_isSliceFit 37 = .ok (.invokevirtual 208, 3) := by decide +kernel
theorem dX11_isSliceFit_40 : decode cX11_isSliceFit 40 = .ok (.ifCond .ne 24, 3) := by decide +kernel
theorem dX11_isSliceFit_43 : decode cX11_isSliceFit 43 = .ok (.aload_n 3, 1) := by decide +kernel
theorem dX11_isSliceFit_44 : decode cX11_isSliceFit 44 = .ok (.aload_n 1, 1) := by decide +kernel
theorem dX11_isSliceFit_45 : decode cX11_isSliceFit 45 = .ok (.getfield 335, 3) := by decide +kernel
theorem dX11_isSliceFit_48 : decode cX11_isSliceFit 48 = .ok (.getfield 219, 3) := by decide +kernel
theorem dX11_isSliceFit_51 : decode cX11_isSliceFit 51 = .ok (.getfield 87, 3) := by decide +kernel
theorem dX11_isSliceFit_54 : decode cX11_isSliceFit 54 = .ok (.invokevirtual 418, 3) := by decide +kernel
theorem dX11_isSliceFit_57 : decode cX11_isSliceFit 57 = .ok (.ifCond .eq 7, 3) := by decide +kernel
theorem dX11_isSliceFit_60 : decode cX11_isSliceFit 60 = .ok (.iconst 1, 1) := by decide +kernel
theorem dX11_isSliceFit_61 : decode cX11_isSliceFit 61 = .ok (.goto 4, 3) := by decide +kernel
theorem dX11_isSliceFit_64 : decode cX11_isSliceFit 64 = .ok (.iconst 0, 1) := by decide +kernel
theorem dX11_isSliceFit_65 : decode cX11_isSliceFit 65 = .ok (.ireturn, 1) := by decide +kernel
theorem dX11_giveBack_0 : decode cX11_giveBack 0 = .ok (.aload_n 1, 1) := by decide +kernel
theorem dX11_giveBack_1 : decode cX11_giveBack 1 = .ok (.getfield 187, 3) := by decide +kernel
theorem dX11_giveBack_4 : decode cX11_giveBack 4 = .ok (.astore_n 2, 1) := by decide +kernel
theorem dX11_giveBack_5 : decode cX11_giveBack 5 = .ok (.aload_n 2, 1) := by decide +kernel
theorem dX11_giveBack_6 : decode cX11_giveBack 6 = .ok (.getfield 411, 3) := by decide +kernel
theorem dX11_giveBack_9 : decode cX11_giveBack 9 = .ok (.ifnonnull 22, 3) := by decide +kernel
theorem dX11_giveBack_12 : decode cX11_giveBack 12 = .ok (.aload_n 1, 1) := by decide +kernel
theorem dX11_giveBack_13 : decode cX11_giveBack 13 = .ok (.getfield 182, 3) := by decide +kernel
theorem dX11_giveBack_16 : decode cX11_giveBack 16 = .ok (.dup, 1) := by decide +kernel
theorem dX11_giveBack_17 : decode cX11_giveBack 17 = .ok (.getfield 150, 3) := by decide +kernel
theorem dX11_giveBack_20 : decode cX11_giveBack 20 = .ok (.aload_n 2, 1) := by decide +kernel
theorem dX11_giveBack_21 : decode cX11_giveBack 21 = .ok (.invokevirtual 191, 3) := by decide +kernel
theorem dX11_giveBack_24 : decode cX11_giveBack 24 = .ok (.iadd, 1) := by decide +kernel
theorem dX11_giveBack_25 : decode cX11_giveBack 25 = .ok (.putfield 150, 3) := by decide +kernel
theorem dX11_giveBack_28 : decode cX11_giveBack 28 = .ok (.goto 36, 3) := by decide +kernel
theorem dX11_giveBack_31 : decode cX11_giveBack 31 = .ok (.aload_n 2, 1) := by decide +kernel
theorem dX11_giveBack_32 : decode cX11_giveBack 32 = .ok (.getfield 411, 3) := by decide +kernel
theorem dX11_giveBack_35 : decode cX11_giveBack 35 = .ok (.aload_n 0, 1) := by decide +kernel
theorem dX11_giveBack_36 : decode cX11_giveBack 36 = .ok (.getfield 50, 3) := by decide +kernel
theorem dX11_giveBack_39 : decode cX11_giveBack 39 = .ok (.invokestatic 167, 3) := by decide +kernel
theorem dX11_giveBack_42 : decode cX11_giveBack 42 = .ok (.invokevirtual 208, 3) := by decide +kernel
theorem dX11_giveBack_45 : decode cX11_giveBack 45 = .ok (.ifCond .ne 19, 3) := by decide +kernel
theorem dX11_giveBack_48 : decode cX11_giveBack 48 = .ok (.aload_n 2, 1) := by decide +kernel
theorem dX11_giveBack_49 : decode cX11_giveBack 49 = .ok (.getfield 411, 3) := by decide +kernel
theorem dX11_giveBack_52 : decode cX11_giveBack 52 = .ok (.dup, 1) := by decide +kernel
theorem dX11_giveBack_53 : decode cX11_giveBack 53 = .ok (.getfield 212, 3) := by decide +kernel
theorem dX11_giveBack_56 : decode cX11_giveBack 56 = .ok (.aload_n 2, 1) := by decide +kernel
theorem dX11_giveBack_57 : decode cX11_giveBack 57 = .ok (.getfield 288, 3) := by decide +kernel
theorem dX11_giveBack_60 : decode cX11_giveBack 60 = .ok (.iadd, 1) := by decide +kernel
theorem dX11_giveBack_61 : decode cX11_giveBack 61 = .ok (.putfield 212, 3) := by decide +kernel
theorem dX11_giveBack_64 : decode cX11_giveBack 64 = .ok (.aload_n 2, 1) := by decide +kernel
theorem dX11_giveBack_65 : decode cX11_giveBack 65 = .ok (.iconst 0, 1) := by decide +kernel
theorem dX11_giveBack_66 : decode cX11_giveBack 66 = .ok (.putfield 288, 3) := by decide +kernel
theorem dX11_giveBack_69 : decode cX11_giveBack 69 = .ok (.return_, 1) := by decide +kernel
theorem dX11_takeSlice_0 : decode cX11_takeSlice 0 = .ok (.aload_n 1, 1) := by decide +kernel
theorem dX11_takeSlice_1 : decode cX11_takeSlice 1 = .ok (.getfield 182, 3) := by decide +kernel
theorem dX11_takeSlice_4 : decode cX11_takeSlice 4 = .ok (.aload_n 1, 1) := by decide +kernel
theorem dX11_takeSlice_5 : decode cX11_takeSlice 5 = .ok (.getfield 335, 3) := by decide +kernel
theorem dX11_takeSlice_8 : decode cX11_takeSlice 8 = .ok (.getfield 219, 3) := by decide +kernel
theorem dX11_takeSlice_11 : decode cX11_takeSlice 11 = .ok (.getfield 87, 3) := by decide +kernel
theorem dX11_takeSlice_14 : decode cX11_takeSlice 14 = .ok (.aload_n 0, 1) := by decide +kernel
theorem dX11_takeSlice_15 : decode cX11_takeSlice 15 = .ok (.getfield 50, 3) := by decide +kernel
theorem dX11_takeSlice_18 : decode cX11_takeSlice 18 = .ok (.invokestatic 167, 3) := by decide +kernel
theorem dX11_takeSlice_21 : decode cX11_takeSlice 21 = .ok (.invokevirtual 422, 3) := by decide +kernel
theorem dX11_takeSlice_24 : decode cX11_takeSlice 24 = .ok (.astore_n 2, 1) := by decide +kernel
theorem dX11_takeSlice_25 : decode cX11_takeSlice 25 = .ok (.aload_n 2, 1) := by decide +kernel
theorem dX11_takeSlice_26 : decode cX11_takeSlice 26 = .ok (.ifnull 24, 3) := by decide +kernel
theorem dX11_takeSlice_29 : decode cX11_takeSlice 29 = .ok (.aload_n 1, 1) := by decide +kernel
theorem dX11_takeSlice_30 : decode cX11_takeSlice 30 = .ok (.getfield 187, 3) := by decide +kernel
theorem dX11_takeSlice_33 : decode cX11_takeSlice 33 = .ok (.aload_n 2, 1) := by decide +kernel
theorem dX11_takeSlice_34 : decode cX11_takeSlice 34 = .ok (.aload_n 0, 1) := by decide +kernel
theorem dX11_takeSlice_35 : decode cX11_takeSlice 35 = .ok (.getfield 46, 3) := by decide +kernel
theorem dX11_takeSlice_38 : decode cX11_takeSlice 38 = .ok (.aload_n 2, 1) := by decide +kernel
theorem dX11_takeSlice_39 : decode cX11_takeSlice 39 = .ok (.getfield 212, 3) := by decide +kernel
theorem dX11_takeSlice_42 : decode cX11_takeSlice 42 = .ok (.invokestatic 372, 3) := by decide +kernel
theorem dX11_takeSlice_45 : decode cX11_takeSlice 45 = .ok (.invokevirtual 426, 3) := by decide +kernel
theorem dX11_takeSlice_48 : decode cX11_takeSlice 48 = .ok (.iconst 1, 1) := by decide +kernel
theorem dX11_takeSlice_49 : decode cX11_takeSlice 49 = .ok (.ireturn, 1) := by decide +kernel
theorem dX11_takeSlice_50 : decode cX11_takeSlice 50 = .ok (.aload_n 0, 1) := by decide +kernel
theorem dX11_takeSlice_51 : decode cX11_takeSlice 51 = .ok (.aload_n 1, 1) := by decide +kernel
theorem dX11_takeSlice_52 : decode cX11_takeSlice 52 = .ok (.getfield 335, 3) := by decide +kernel
theorem dX11_takeSlice_55 : decode cX11_takeSlice 55 = .ok (.invokevirtual 284, 3) := by decide +kernel
theorem dX11_takeSlice_58 : decode cX11_takeSlice 58 = .ok (.istore_n 3, 1) := by decide +kernel
theorem dX11_takeSlice_59 : decode cX11_takeSlice 59 = .ok (.aload_n 0, 1) := by decide +kernel
theorem dX11_takeSlice_60 : decode cX11_takeSlice 60 = .ok (.getfield 46, 3) := by decide +kernel
theorem dX11_takeSlice_63 : decode cX11_takeSlice 63 = .ok (.istore 4, 2) := by decide +kernel
theorem dX11_takeSlice_65 : decode cX11_takeSlice 65 = .ok (.iload_n 3, 1) := by decide +kernel
theorem dX11_takeSlice_66 : decode cX11_takeSlice 66 = .ok (.ifCond .le 53, 3) := by decide +kernel
theorem dX11_takeSlice_69 : decode cX11_takeSlice 69 = .ok (.iload 4, 2) := by decide +kernel
theorem dX11_takeSlice_71 : decode cX11_takeSlice 71 = .ok (.aload_n 1, 1) := by decide +kernel
theorem dX11_takeSlice_72 : decode cX11_takeSlice 72 = .ok (.getfield 335, 3) := by decide +kernel
theorem dX11_takeSlice_75 : decode cX11_takeSlice 75 = .ok (.aload_n 0, 1) := by decide +kernel
theorem dX11_takeSlice_76 : decode cX11_takeSlice 76 = .ok (.getfield 50, 3) := by decide +kernel
theorem dX11_takeSlice_79 : decode cX11_takeSlice 79 = .ok (.invokestatic 167, 3) := by decide +kernel
theorem dX11_takeSlice_82 : decode cX11_takeSlice 82 = .ok (.invokevirtual 430, 3) := by decide +kernel
theorem dX11_takeSlice_85 : decode cX11_takeSlice 85 = .ok (.iload_n 3, 1) := by decide +kernel
theorem dX11_takeSlice_86 : decode cX11_takeSlice 86 = .ok (.idiv, 1) := by decide +kernel
theorem dX11_takeSlice_87 : decode cX11_takeSlice 87 = .ok (.invokestatic 372, 3) := by decide +kernel
theorem dX11_takeSlice_90 : decode cX11_takeSlice 90 = .ok (.istore 4, 2) := by decide +kernel
theorem dX11_takeSlice_92 : decode cX11_takeSlice 92 = .ok (.iload 4, 2) := by decide +kernel
theorem dX11_takeSlice_94 : decode cX11_takeSlice 94 = .ok (.ifCond .le 9, 3) := by decide +kernel
theorem dX11_takeSlice_97 : decode cX11_takeSlice 97 = .ok (.aload_n 0, 1) := by decide +kernel
theorem dX11_takeSlice_98 : decode cX11_takeSlice 98 = .ok (.aload_n 1, 1) := by decide +kernel
theorem dX11_takeSlice_99 : decode cX11_takeSlice 99 = .ok (.iload_n 3, 1) := by decide +kernel
theorem dX11_takeSlice_100 : decode cX11_takeSlice 100 = .ok (.invokevirtual 433, 3) := by decide +kernel
theorem dX11_takeSlice_103 : decode cX11_takeSlice 103 = .ok (.iload 4, 2) := by decide +kernel
theorem dX11_takeSlice_105 : decode cX11_takeSlice 105 = .ok (.aload_n 1, 1) := by decide +kernel
theorem dX11_takeSlice_106 : decode cX11_takeSlice 106 = .ok (.getfield 182, 3) := by decide +kernel
theorem dX11_takeSlice_109 : decode cX11_takeSlice 109 = .ok (.getfield 150, 3) := by decide +kernel
theorem dX11_takeSlice_112 : decode cX11_takeSlice 112 = .ok (.iload_n 3, 1) := by decide +kernel
theorem dX11_takeSlice_113 : decode cX11_takeSlice 113 = .ok (.idiv, 1) := by decide +kernel
theorem dX11_takeSlice_114 : decode cX11_takeSlice 114 = .ok (.invokestatic 372, 3) := by decide +kernel
theorem dX11_takeSlice_117 : decode cX11_takeSlice 117 = .ok (.istore 4, 2) := by decide +kernel
theorem dX11_takeSlice_119 : decode cX11_takeSlice 119 = .ok (.iload 4, 2) := by decide +kernel
theorem dX11_takeSlice_121 : decode cX11_takeSlice 121 = .ok (.iconst 1, 1) := by decide +kernel
theorem dX11_takeSlice_122 : decode cX11_takeSlice 122 = .ok (.if_icmp .ge 5, 3) := by decide +kernel
theorem dX11_takeSlice_125 : decode cX11_takeSlice 125 = .ok (.iconst 0, 1) := by decide +kernel
theorem dX11_takeSlice_126 : decode cX11_takeSlice 126 = .ok (.ireturn, 1) := by decide +kernel
theorem dX11_takeSlice_127 : decode cX11_takeSlice 127 = .ok (.aload_n 1, 1) := by decide +kernel
theorem dX11_takeSlice_128 : decode cX11_takeSlice 128 = .ok (.getfield 182, 3) := by decide +kernel
theorem dX11_takeSlice_131 : decode cX11_takeSlice 131 = .ok (.dup, 1) := by decide +kernel
theorem dX11_takeSlice_132 : decode cX11_takeSlice 132 = .ok (.getfield 150, 3) := by decide +kernel
theorem dX11_takeSlice_135 : decode cX11_takeSlice 135 = .ok (.iload 4, 2) := by decide +kernel
theorem dX11_takeSlice_137 : decode cX11_takeSlice 137 = .ok (.iload_n 3, 1) := by decide +kernel
theorem dX11_takeSlice_138 : decode cX11_takeSlice 138 = .ok (.imul, 1) := by decide +kernel
theorem dX11_takeSlice_139 : decode cX11_takeSlice 139 = .ok (.isub, 1) := by decide +kernel
theorem dX11_takeSlice_140 : decode cX11_takeSlice 140 = .ok (.putfield 150, 3) := by decide +kernel
theorem dX11_takeSlice_143 : decode cX11_takeSlice 143 = .ok (.aload_n 1, 1) := by decide +kernel
theorem dX11_takeSlice_144 : decode cX11_takeSlice 144 = .ok (.getfield 187, 3) := by decide +kernel
theorem dX11_takeSlice_147 : decode cX11_takeSlice 147 = .ok (.iload 4, 2) := by decide +kernel
theorem dX11_takeSlice_149 : decode cX11_takeSlice 149 = .ok (.iload_n 3, 1) := by decide +kernel
theorem dX11_takeSlice_150 : decode cX11_takeSlice 150 = .ok (.invokevirtual 436, 3) := by decide +kernel
theorem dX11_takeSlice_153 : decode cX11_takeSlice 153 = .ok (.iconst 1, 1) := by decide +kernel
theorem dX11_takeSlice_154 : decode cX11_takeSlice 154 = .ok (.ireturn, 1) := by decide +kernel
theorem dX11_raiseMoney_0 : decode cX11_raiseMoney 0 = .ok (.iconst 0, 1) := by decide +kernel
theorem dX11_raiseMoney_1 : decode cX11_raiseMoney 1 = .ok (.istore_n 3, 1) := by decide +kernel
theorem dX11_raiseMoney_2 : decode cX11_raiseMoney 2 = .ok (.iload_n 3, 1) := by decide +kernel
theorem dX11_raiseMoney_3 : decode cX11_raiseMoney 3 = .ok (.sipush 1000, 3) := by decide +kernel
theorem dX11_raiseMoney_6 : decode cX11_raiseMoney 6 = .ok (.if_icmp .ge 83, 3) := by decide +kernel
theorem dX11_raiseMoney_9 : decode cX11_raiseMoney 9 = .ok (.aload_n 1, 1) := by decide +kernel
theorem dX11_raiseMoney_10 : decode cX11_raiseMoney 10 = .ok (.getfield 182, 3) := by decide +kernel
theorem dX11_raiseMoney_13 : decode cX11_raiseMoney 13 = .ok (.getfield 150, 3) := by decide +kernel
theorem dX11_raiseMoney_16 : decode cX11_raiseMoney 16 = .ok (.iload_n 2, 1) := by decide +kernel
theorem dX11_raiseMoney_17 : decode cX11_raiseMoney 17 = .ok (.if_icmp .ge 72, 3) := by decide +kernel
theorem dX11_raiseMoney_20 : decode cX11_raiseMoney 20 = .ok (.aload_n 0, 1) := by decide +kernel
theorem dX11_raiseMoney_21 : decode cX11_raiseMoney 21 = .ok (.aload_n 1, 1) := by decide +kernel
theorem dX11_raiseMoney_22 : decode cX11_raiseMoney 22 = .ok (.invokevirtual 439, 3) := by decide +kernel
theorem dX11_raiseMoney_25 : decode cX11_raiseMoney 25 = .ok (.astore 4, 2) := by decide +kernel
theorem dX11_raiseMoney_27 : decode cX11_raiseMoney 27 = .ok (.aload 4, 2) := by decide +kernel
theorem dX11_raiseMoney_29 : decode cX11_raiseMoney 29 = .ok (.ifnonnull 4, 3) := by decide +kernel
theorem dX11_raiseMoney_32 : decode cX11_raiseMoney 32 = .ok (.return_, 1) := by decide +kernel
theorem dX11_raiseMoney_33 : decode cX11_raiseMoney 33 = .ok (.aload 4, 2) := by decide +kernel
theorem dX11_raiseMoney_35 : decode cX11_raiseMoney 35 = .ok (.getfield 187, 3) := by decide +kernel
theorem dX11_raiseMoney_38 : decode cX11_raiseMoney 38 = .ok (.getfield 288, 3) := by decide +kernel
theorem dX11_raiseMoney_41 : decode cX11_raiseMoney 41 = .ok (.iconst 2, 1) := by decide +kernel
theorem dX11_raiseMoney_42 : decode cX11_raiseMoney 42 = .ok (.idiv, 1) := by decide +kernel
theorem dX11_raiseMoney_43 : decode cX11_raiseMoney 43 = .ok (.istore 5, 2) := by decide +kernel
theorem dX11_raiseMoney_45 : decode cX11_raiseMoney 45 = .ok (.aload 4, 2) := by decide +kernel
theorem dX11_raiseMoney_47 : decode cX11_raiseMoney 47 = .ok (.getfield 187, 3) := by decide +kernel
theorem dX11_raiseMoney_50 : decode cX11_raiseMoney 50 = .ok (.dup, 1) := by decide +kernel
theorem dX11_raiseMoney_51 : decode cX11_raiseMoney 51 = .ok (.getfield 288, 3) := by decide +kernel
theorem dX11_raiseMoney_54 : decode cX11_raiseMoney 54 = .ok (.iload 5, 2) := by decide +kernel
theorem dX11_raiseMoney_56 : decode cX11_raiseMoney 56 = .ok (.isub, 1) := by decide +kernel
theorem dX11_raiseMoney_57 : decode cX11_raiseMoney 57 = .ok (.putfield 288, 3) := by decide +kernel
theorem dX11_raiseMoney_60 : decode cX11_raiseMoney 60 = .ok (.aload_n 1, 1) := by decide +kernel
theorem dX11_raiseMoney_61 : decode cX11_raiseMoney 61 = .ok (.getfield 182, 3) := by decide +kernel
theorem dX11_raiseMoney_64 : decode cX11_raiseMoney 64 = .ok (.dup, 1) := by decide +kernel
theorem dX11_raiseMoney_65 : decode cX11_raiseMoney 65 = .ok (.getfield 150, 3) := by decide +kernel
theorem dX11_raiseMoney_68 : decode cX11_raiseMoney 68 = .ok (.iload 5, 2) := by decide +kernel
theorem dX11_raiseMoney_70 : decode cX11_raiseMoney 70 = .ok (.aload 4, 2) := by decide +kernel
theorem dX11_raiseMoney_72 : decode cX11_raiseMoney 72 = .ok (.getfield 187, 3) := by decide +kernel
theorem dX11_raiseMoney_75 : decode cX11_raiseMoney 75 = .ok (.getfield 415, 3) := by decide +kernel
theorem dX11_raiseMoney_78 : decode cX11_raiseMoney 78 = .ok (.imul, 1) := by decide +kernel
theorem dX11_raiseMoney_79 : decode cX11_raiseMoney 79 = .ok (.iadd, 1) := by decide +kernel
theorem dX11_raiseMoney_80 : decode cX11_raiseMoney 80 = .ok (.putfield 150, 3) := by decide +kernel
theorem dX11_raiseMoney_83 : decode cX11_raiseMoney 83 = .ok (.iinc 3 1, 3) := by decide +kernel
theorem dX11_raiseMoney_86 : decode cX11_raiseMoney 86 = .ok (.goto (-84), 3) := by decide +kernel
theorem dX11_raiseMoney_89 : decode cX11_raiseMoney 89 = .ok (.return_, 1) := by decide +kernel
theorem dX11_findRichestOther_0 : decode cX11_findRichestOther 0 = .ok (.aconst_null, 1) := by decide +kernel
theorem dX11_findRichestOther_1 : decode cX11_findRichestOther 1 = .ok (.astore_n 2, 1) := by decide +kernel
theorem dX11_findRichestOther_2 : decode cX11_findRichestOther 2 = .ok (.iconst 0, 1) := by decide +kernel
theorem dX11_findRichestOther_3 : decode cX11_findRichestOther 3 = .ok (.istore_n 3, 1) := by decide +kernel
theorem dX11_findRichestOther_4 : decode cX11_findRichestOther 4 = .ok (.aload_n 0, 1) := by decide +kernel
theorem dX11_findRichestOther_5 : decode cX11_findRichestOther 5 = .ok (.getfield 29, 3) := by decide +kernel
theorem dX11_findRichestOther_8 : decode cX11_findRichestOther 8 = .ok (.astore 4, 2) := by decide +kernel
theorem dX11_findRichestOther_10 : decode cX11_findRichestOther 10 = .ok (.aload 4, 2) := by decide +kernel
theorem dX11_findRichestOther_12 : decode cX11_findRichestOther 12 = .ok (.arraylength, 1) := by decide +kernel
theorem dX11_findRichestOther_13 : decode cX11_findRichestOther 13 = .ok (.istore 5, 2) := by decide +kernel
theorem dX11_findRichestOther_15 : decode cX11_findRichestOther 15 = .ok (.iconst 0, 1) := by decide +kernel
theorem dX11_findRichestOther_16 : decode cX11_findRichestOther 16 = .ok (.istore 6, 2) := by decide +kernel
theorem dX11_findRichestOther_18 : decode cX11_findRichestOther 18 = .ok (.iload 6, 2) := by decide +kernel
theorem dX11_findRichestOther_20 : decode cX11_findRichestOther 20 = .ok (.iload 5, 2) := by decide +kernel
theorem dX11_findRichestOther_22 : decode cX11_findRichestOther 22 = .ok (.if_icmp .ge 82, 3) := by decide +kernel
theorem dX11_findRichestOther_25 : decode cX11_findRichestOther 25 = .ok (.aload 4, 2) := by decide +kernel
theorem dX11_findRichestOther_27 : decode cX11_findRichestOther 27 = .ok (.iload 6, 2) := by decide +kernel
theorem dX11_findRichestOther_29 : decode cX11_findRichestOther 29 = .ok (.aaload, 1) := by decide +kernel
theorem dX11_findRichestOther_30 : decode cX11_findRichestOther 30 = .ok (.astore 7, 2) := by decide +kernel
theorem dX11_findRichestOther_32 : decode cX11_findRichestOther 32 = .ok (.aload 7, 2) := by decide +kernel
theorem dX11_findRichestOther_34 : decode cX11_findRichestOther 34 = .ok (.getfield 137, 3) := by decide +kernel
theorem dX11_findRichestOther_37 : decode cX11_findRichestOther 37 = .ok (.astore 8, 2) := by decide +kernel
theorem dX11_findRichestOther_39 : decode cX11_findRichestOther 39 = .ok (.aload 8, 2) := by decide +kernel
theorem dX11_findRichestOther_41 : decode cX11_findRichestOther 41 = .ok (.ifnull 57, 3) := by decide +kernel
theorem dX11_findRichestOther_44 : decode cX11_findRichestOther 44 = .ok (.aload 8, 2) := by decide +kernel
theorem dX11_findRichestOther_46 : decode cX11_findRichestOther 46 = .ok (.aload_n 1, 1) := by decide +kernel
theorem dX11_findRichestOther_47 : decode cX11_findRichestOther 47 = .ok (.if_acmp .eq 51, 3) := by decide +kernel
theorem dX11_findRichestOther_50 : decode cX11_findRichestOther 50 = .ok (.aload 8, 2) := by decide +kernel
theorem dX11_findRichestOther_52 : decode cX11_findRichestOther 52 = .ok (.getfield 182, 3) := by decide +kernel
theorem dX11_findRichestOther_55 : decode cX11_findRichestOther 55 = .ok (.aload_n 1, 1) := by decide +kernel
theorem dX11_findRichestOther_56 : decode cX11_findRichestOther 56 = .ok (.getfield 182, 3) := by decide +kernel
theorem dX11_findRichestOther_59 : decode cX11_findRichestOther 59 = .ok (.if_acmp .ne 39, 3) := by decide +kernel
theorem dX11_findRichestOther_62 : decode cX11_findRichestOther 62 = .ok (.aload 8, 2) := by decide +kernel
theorem dX11_findRichestOther_64 : decode cX11_findRichestOther 64 = .ok (.getfield 187, 3) := by decide +kernel
theorem dX11_findRichestOther_67 : decode cX11_findRichestOther 67 = .ok (.getfield 288, 3) := by decide +kernel
theorem dX11_findRichestOther_70 : decode cX11_findRichestOther 70 = .ok (.iconst 2, 1) := by decide +kernel
theorem dX11_findRichestOther_71 : decode cX11_findRichestOther 71 = .ok (.if_icmp .lt 27, 3) := by decide +kernel
theorem dX11_findRichestOther_74 : decode cX11_findRichestOther 74 = .ok (.aload 8, 2) := by decide +kernel
theorem dX11_findRichestOther_76 : decode cX11_findRichestOther 76 = .ok (.getfield 187, 3) := by decide +kernel
theorem dX11_findRichestOther_79 : decode cX11_findRichestOther 79 = .ok (.invokevirtual 191, 3) := by decide +kernel
theorem dX11_findRichestOther_82 : decode cX11_findRichestOther 82 = .ok (.iload_n 3, 1) := by decide +kernel
theorem dX11_findRichestOther_83 : decode cX11_findRichestOther 83 = .ok (.if_icmp .le 15, 3) := by decide +kernel
theorem dX11_findRichestOther_86 : decode cX11_findRichestOther 86 = .ok (.aload 8, 2) := by decide +kernel
theorem dX11_findRichestOther_88 : decode cX11_findRichestOther 88 = .ok (.astore_n 2, 1) := by decide +kernel
theorem dX11_findRichestOther_89 : decode cX11_findRichestOther 89 = .ok (.aload 8, 2) := by decide +kernel
theorem dX11_findRichestOther_91 : decode cX11_findRichestOther 91 = .ok (.getfield 187, 3) := by decide +kernel
theorem dX11_findRichestOther_94 : decode cX11_findRichestOther 94 = .ok (.invokevirtual 191, 3) := by decide +kernel
theorem dX11_findRichestOther_97 : decode cX11_findRichestOther 97 = .ok (.istore_n 3, 1) := by decide +kernel
theorem dX11_findRichestOther_98 : decode cX11_findRichestOther 98 = .ok (.iinc 6 1, 3) := by decide +kernel
theorem dX11_findRichestOther_101 : decode cX11_findRichestOther 101 = .ok (.goto (-83), 3) := by decide +kernel
theorem dX11_findRichestOther_104 : decode cX11_findRichestOther 104 = .ok (.aload_n 2, 1) := by decide +kernel
theorem dX11_findRichestOther_105 : decode cX11_findRichestOther 105 = .ok (.areturn, 1) := by decide +kernel
theorem dX12_init_0 : decode cX12_init 0 = .ok (.aload_n 0, 1) := by decide +kernel
theorem dX12_init_1 : decode cX12_init 1 = .ok (.invokespecial 1, 3) := by decide +kernel
theorem dX12_init_4 : decode cX12_init 4 = .ok (.aload_n 0, 1) := by decide +kernel
theorem dX12_init_5 : decode cX12_init 5 = .ok (.bipush 20, 2) := by decide +kernel
theorem dX12_init_7 : decode cX12_init 7 = .ok (.putfield 7, 3) := by decide +kernel
theorem dX12_init_10 : decode cX12_init 10 = .ok (.aload_n 0, 1) := by decide +kernel
theorem dX12_init_11 : decode cX12_init 11 = .ok (.bipush 8, 2) := by decide +kernel
theorem dX12_init_13 : decode cX12_init 13 = .ok (.newarray .int, 2) := by decide +kernel
theorem dX12_init_15 : decode cX12_init 15 = .ok (.putfield 13, 3) := by decide +kernel
theorem dX12_init_18 : decode cX12_init 18 = .ok (.aload_n 0, 1) := by decide +kernel
theorem dX12_init_19 : decode cX12_init 19 = .ok (.bipush 8, 2) := by decide +kernel
theorem dX12_init_21 : decode cX12_init 21 = .ok (.newarray .int, 2) := by decide +kernel
theorem dX12_init_23 : decode cX12_init 23 = .ok (.putfield 17, 3) := by decide +kernel
theorem dX12_init_26 : decode cX12_init 26 = .ok (.aload_n 0, 1) := by decide +kernel
theorem dX12_init_27 : decode cX12_init 27 = .ok (.bipush 8, 2) := by decide +kernel
theorem dX12_init_29 : decode cX12_init 29 = .ok (.newarray .int, 2) := by decide +kernel
theorem dX12_init_31 : decode cX12_init 31 = .ok (.putfield 20, 3) := by decide +kernel
theorem dX12_init_34 : decode cX12_init 34 = .ok (.aload_n 0, 1) := by decide +kernel
theorem dX12_init_35 : decode cX12_init 35 = .ok (.bipush 6, 2) := by decide +kernel
theorem dX12_init_37 : decode cX12_init 37 = .ok (.newarray .int, 2) := by decide +kernel
theorem dX12_init_39 : decode cX12_init 39 = .ok (.putfield 23, 3) := by decide +kernel
theorem dX12_init_42 : decode cX12_init 42 = .ok (.aload_n 0, 1) := by decide +kernel
theorem dX12_init_43 : decode cX12_init 43 = .ok (.bipush 10, 2) := by decide +kernel
theorem dX12_init_45 : decode cX12_init 45 = .ok (.newarray .int, 2) := by decide +kernel
theorem dX12_init_47 : decode cX12_init 47 = .ok (.putfield 26, 3) := by decide +kernel
theorem dX12_init_50 : decode cX12_init 50 = .ok (.aload_n 0, 1) := by decide +kernel
theorem dX12_init_51 : decode cX12_init 51 = .ok (.bipush 10, 2) := by decide +kernel
theorem dX12_init_53 : decode cX12_init 53 = .ok (.newarray .int, 2) := by decide +kernel
theorem dX12_init_55 : decode cX12_init 55 = .ok (.putfield 29, 3) := by decide +kernel
theorem dX12_init_58 : decode cX12_init 58 = .ok (.aload_n 0, 1) := by decide +kernel
theorem dX12_init_59 : decode cX12_init 59 = .ok (.bipush 10, 2) := by decide +kernel
theorem dX12_init_61 : decode cX12_init 61 = .ok (.newarray .int, 2) := by decide +kernel
theorem dX12_init_63 : decode cX12_init 63 = .ok (.putfield 32, 3) := by decide +kernel
theorem dX12_init_66 : decode cX12_init 66 = .ok (.aload_n 0, 1) := by decide +kernel
theorem dX12_init_67 : decode cX12_init 67 = .ok (.bipush 10, 2) := by decide +kernel
theorem dX12_init_69 : decode cX12_init 69 = .ok (.newarray .int, 2) := by decide +kernel
theorem dX12_init_71 : decode cX12_init 71 = .ok (.putfield 35, 3) := by decide +kernel
theorem dX12_init_74 : decode cX12_init 74 = .ok (.aload_n 0, 1) := by decide +kernel
theorem dX12_init_75 : decode cX12_init 75 = .ok (.bipush 10, 2) := by decide +kernel
theorem dX12_init_77 : decode cX12_init 77 = .ok (.newarray .int, 2) := by decide +kernel
theorem dX12_init_79 : decode cX12_init 79 = .ok (.putfield 38, 3) := by decide +kernel
theorem dX12_init_82 : decode cX12_init 82 = .ok (.aload_n 0, 1) := by decide +kernel
theorem dX12_init_83 : decode cX12_init 83 = .ok (.bipush 10, 2) := by decide +kernel
theorem dX12_init_85 : decode cX12_init 85 = .ok (.newarray .int, 2) := by decide +kernel
theorem dX12_init_87 : decode cX12_init 87 = .ok (.putfield 41, 3) := by decide +kernel
theorem dX12_init_90 : decode cX12_init 90 = .ok (.aload_n 0, 1) := by decide +kernel
theorem dX12_init_91 : decode cX12_init 91 = .ok (.iconst 4, 1) := by decide +kernel
theorem dX12_init_92 : decode cX12_init 92 = .ok (.newarray .int, 2) := by decide +kernel
theorem dX12_init_94 : decode cX12_init 94 = .ok (.putfield 44, 3) := by decide +kernel
theorem dX12_init_97 : decode cX12_init 97 = .ok (.aload_n 0, 1) := by decide +kernel
theorem dX12_init_98 : decode cX12_init 98 = .ok (.iconst 4, 1) := by decide +kernel
theorem dX12_init_99 : decode cX12_init 99 = .ok (.newarray .int, 2) := by decide +kernel
theorem dX12_init_101 : decode cX12_init 101 = .ok (.putfield 47, 3) := by decide +kernel
theorem dX12_init_104 : decode cX12_init 104 = .ok (.aload_n 0, 1) := by decide +kernel
theorem dX12_init_105 : decode cX12_init 105 = .ok (.bipush 40, 2) := by decide +kernel
theorem dX12_init_107 : decode cX12_init 107 = .ok (.newarray .int, 2) := by decide +kernel
theorem dX12_init_109 : decode cX12_init 109 = .ok (.putfield 50, 3) := by decide +kernel
theorem dX12_init_112 : decode cX12_init 112 = .ok (.aload_n 0, 1) := by decide +kernel
theorem dX12_init_113 : decode cX12_init 113 = .ok (.bipush 40, 2) := by decide +kernel
theorem dX12_init_115 : decode cX12_init 115 = .ok (.newarray .int, 2) := by decide +kernel
theorem dX12_init_117 : decode cX12_init 117 = .ok (.putfield 53, 3) := by decide +kernel
theorem dX12_init_120 : decode cX12_init 120 = .ok (.aload_n 0, 1) := by decide +kernel
theorem dX12_init_121 : decode cX12_init 121 = .ok (.bipush 40, 2) := by decide +kernel
theorem dX12_init_123 : decode cX12_init 123 = .ok (.newarray .int, 2) := by decide +kernel
theorem dX12_init_125 : decode cX12_init 125 = .ok (.putfield 56, 3) := by decide +kernel
theorem dX12_init_128 : decode cX12_init 128 = .ok (.aload_n 0, 1) := by decide +kernel
theorem dX12_init_129 : decode cX12_init 129 = .ok (.bipush 40, 2) := by decide +kernel
theorem dX12_init_131 : decode cX12_init 131 = .ok (.newarray .int, 2) := by decide +kernel
theorem dX12_init_133 : decode cX12_init 133 = .ok (.putfield 59, 3) := by decide +kernel
theorem dX12_init_136 : decode cX12_init 136 = .ok (.aload_n 0, 1) := by decide +kernel
theorem dX12_init_137 : decode cX12_init 137 = .ok (.bipush 40, 2) := by decide +kernel
theorem dX12_init_139 : decode cX12_init 139 = .ok (.newarray .int, 2) := by decide +kernel
theorem dX12_init_141 : decode cX12_init 141 = .ok (.putfield 62, 3) := by decide +kernel
theorem dX12_init_144 : decode cX12_init 144 = .ok (.aload_n 0, 1) := by decide +kernel
theorem dX12_init_145 : decode cX12_init 145 = .ok (.bipush 40, 2) := by decide +kernel
theorem dX12_init_147 : decode cX12_init 147 = .ok (.newarray .int, 2) := by decide +kernel
theorem dX12_init_149 : decode cX12_init 149 = .ok (.putfield 65, 3) := by decide +kernel
theorem dX12_init_152 : decode cX12_init 152 = .ok (.aload_n 0, 1) := by decide +kernel
theorem dX12_init_153 : decode cX12_init 153 = .ok (.bipush 80, 2) := by decide +kernel
theorem dX12_init_155 : decode cX12_init 155 = .ok (.newarray .int, 2) := by decide +kernel
theorem dX12_init_157 : decode cX12_init 157 = .ok (.putfield 68, 3) := by decide +kernel
theorem dX12_init_160 : decode cX12_init 160 = .ok (.aload_n 0, 1) := by decide +kernel
theorem dX12_init_161 : decode cX12_init 161 = .ok (.bipush 80, 2) := by decide +kernel
theorem dX12_init_163 : decode cX12_init 163 = .ok (.newarray .int, 2) := by decide +kernel
theorem dX12_init_165 : decode cX12_init 165 = .ok (.putfield 71, 3) := by decide +kernel
theorem dX12_init_168 : decode cX12_init 168 = .ok (.aload_n 0, 1) := by decide +kernel
theorem dX12_init_169 : decode cX12_init 169 = .ok (.bipush 80, 2) := by decide +kernel
theorem dX12_init_171 : decode cX12_init 171 = .ok (.newarray .int, 2) := by decide +kernel
theorem dX12_init_173 : decode cX12_init 173 = .ok (.putfield 74, 3) := by decide +kernel
theorem dX12_init_176 : decode cX12_init 176 = .ok (.aload_n 0, 1) := by decide +kernel
theorem dX12_init_177 : decode cX12_init 177 = .ok (.bipush 80, 2) := by decide +kernel
theorem dX12_init_179 : decode cX12_init 179 = .ok (.newarray .int, 2) := by decide +kernel
theorem dX12_init_181 : decode cX12_init 181 = .ok (.putfield 77, 3) := by decide +kernel
theorem dX12_init_184 : decode cX12_init 184 = .ok (.aload_n 0, 1) := by decide +kernel
theorem dX12_init_185 : decode cX12_init 185 = .ok (.bipush 80, 2) := by decide +kernel
theorem dX12_init_187 : decode cX12_init 187 = .ok (.newarray .int, 2) := by decide +kernel
theorem dX12_init_189 : decode cX12_init 189 = .ok (.putfield 80, 3) := by decide +kernel
theorem dX12_init_192 : decode cX12_init 192 = .ok (.aload_n 0, 1) := by decide +kernel
theorem dX12_init_193 : decode cX12_init 193 = .ok (.bipush 80, 2) := by decide +kernel
theorem dX12_init_195 : decode cX12_init 195 = .ok (.newarray .int, 2) := by decide +kernel
theorem dX12_init_197 : decode cX12_init 197 = .ok (.putfield 83, 3) := by decide +kernel
theorem dX12_init_200 : decode cX12_init 200 = .ok (.aload_n 0, 1) := by decide +kernel
theorem dX12_init_201 : decode cX12_init 201 = .ok (.bipush 80, 2) := by decide +kernel
theorem dX12_init_203 : decode cX12_init 203 = .ok (.newarray .int, 2) := by decide +kernel
theorem dX12_init_205 : decode cX12_init 205 = .ok (.putfield 86, 3) := by decide +kernel
theorem dX12_init_208 : decode cX12_init 208 = .ok (.aload_n 0, 1) := by decide +kernel
theorem dX12_init_209 : decode cX12_init 209 = .ok (.bipush 80, 2) := by decide +kernel
theorem dX12_init_211 : decode cX12_init 211 = .ok (.newarray .int, 2) := by decide +kernel
theorem dX12_init_213 : decode cX12_init 213 = .ok (.putfield 89, 3) := by decide +kernel
theorem dX12_init_216 : decode cX12_init 216 = .ok (.aload_n 0, 1) := by decide +kernel
theorem dX12_init_217 : decode cX12_init 217 = .ok (.bipush 80, 2) := by decide +kernel
theorem dX12_init_219 : decode cX12_init 219 = .ok (.newarray .int, 2) := by decide +kernel
theorem dX12_init_221 : decode cX12_init 221 = .ok (.putfield 92, 3) := by decide +kernel
theorem dX12_init_224 : decode cX12_init 224 = .ok (.aload_n 0, 1) := by decide +kernel
theorem dX12_init_225 : decode cX12_init 225 = .ok (.bipush 80, 2) := by decide +kernel
theorem dX12_init_227 : decode cX12_init 227 = .ok (.newarray .int, 2) := by decide +kernel
theorem dX12_init_229 : decode cX12_init 229 = .ok (.putfield 95, 3) := by decide +kernel
theorem dX12_init_232 : decode cX12_init 232 = .ok (.aload_n 0, 1) := by decide +kernel
theorem dX12_init_233 : decode cX12_init 233 = .ok (.bipush 80, 2) := by decide +kernel
theorem dX12_init_235 : decode cX12_init 235 = .ok (.newarray .int, 2) := by decide +kernel
theorem dX12_init_237 : decode cX12_init 237 = .ok (.putfield 98, 3) := by decide +kernel
theorem dX12_init_240 : decode cX12_init 240 = .ok (.aload_n 0, 1) := by decide +kernel
theorem dX12_init_241 : decode cX12_init 241 = .ok (.bipush 80, 2) := by decide +kernel
theorem dX12_init_243 : decode cX12_init 243 = .ok (.newarray .int, 2) := by decide +kernel
theorem dX12_init_245 : decode cX12_init 245 = .ok (.putfield 101, 3) := by decide +kernel
theorem dX12_init_248 : decode cX12_init 248 = .ok (.aload_n 0, 1) := by decide +kernel
theorem dX12_init_249 : decode cX12_init 249 = .ok (.bipush 80, 2) := by decide +kernel
theorem dX12_init_251 : decode cX12_init 251 = .ok (.newarray .int, 2) := by decide +kernel
theorem dX12_init_253 : decode cX12_init 253 = .ok (.putfield 104, 3) := by decide +kernel
theorem dX12_init_256 : decode cX12_init 256 = .ok (.iconst 0, 1) := by decide +kernel
theorem dX12_init_257 : decode cX12_init 257 = .ok (.istore_n 1, 1) := by decide +kernel
theorem dX12_init_258 : decode cX12_init 258 = .ok (.iload_n 1, 1) := by decide +kernel
theorem dX12_init_259 : decode cX12_init 259 = .ok (.bipush 8, 2) := by decide +kernel
theorem dX12_init_261 : decode cX12_init 261 = .ok (.if_icmp .ge 25, 3) := by decide +kernel
theorem dX12_init_264 : decode cX12_init 264 = .ok (.aload_n 0, 1) := by decide +kernel
theorem dX12_init_265 : decode cX12_init 265 = .ok (.getfield 13, 3) := by decide +kernel
theorem dX12_init_268 : decode cX12_init 268 = .ok (.iload_n 1, 1) := by decide +kernel
theorem dX12_init_269 : decode cX12_init 269 = .ok (.iload_n 1, 1) := by decide +kernel
theorem dX12_init_270 : decode cX12_init 270 = .ok (.iconst 3, 1) := by decide +kernel
theorem dX12_init_271 : decode cX12_init 271 = .ok (.irem, 1) := by decide +kernel
theorem dX12_init_272 : decode cX12_init 272 = .ok (.iastore, 1) := by decide +kernel
theorem dX12_init_273 : decode cX12_init 273 = .ok (.aload_n 0, 1) := by decide +kernel
theorem dX12_init_274 : decode cX12_init 274 = .ok (.getfield 17, 3) := by decide +kernel
theorem dX12_init_277 : decode cX12_init 277 = .ok (.iload_n 1, 1) := by decide +kernel
theorem dX12_init_278 : decode cX12_init 278 = .ok (.iconst 3, 1) := by decide +kernel
theorem dX12_init_279 : decode cX12_init 279 = .ok (.iastore, 1) := by decide +kernel
theorem dX12_init_280 : decode cX12_init 280 = .ok (.iinc 1 1, 3) := by decide +kernel
theorem dX12_init_283 : decode cX12_init 283 = .ok (.goto (-25), 3) := by decide +kernel
theorem dX12_init_286 : decode cX12_init 286 = .ok (.iconst 0, 1) := by decide +kernel
theorem dX12_init_287 : decode cX12_init 287 = .ok (.istore_n 1, 1) := by decide +kernel
theorem dX12_init_288 : decode cX12_init 288 = .ok (.iload_n 1, 1) := by decide +kernel
theorem dX12_init_289 : decode cX12_init 289 = .ok (.iconst 3, 1) := by decide +kernel
theorem dX12_init_290 : decode cX12_init 290 = .ok (.if_icmp .ge 35, 3) := by decide +kernel
theorem dX12_init_293 : decode cX12_init 293 = .ok (.aload_n 0, 1) := by decide +kernel
theorem dX12_init_294 : decode cX12_init 294 = .ok (.getfield 23, 3) := by decide +kernel
theorem dX12_init_297 : decode cX12_init 297 = .ok (.iload_n 1, 1) := by decide +kernel
theorem dX12_init_298 : decode cX12_init 298 = .ok (.bipush 10, 2) := by decide +kernel
theorem dX12_init_300 : decode cX12_init 300 = .ok (.iload_n 1, 1) := by decide +kernel
theorem dX12_init_301 : decode cX12_init 301 = .ok (.iconst 1, 1) := by decide +kernel
theorem dX12_init_302 : decode cX12_init 302 = .ok (.iadd, 1) := by decide +kernel
theorem dX12_init_303 : decode cX12_init 303 = .ok (.imul, 1) := by decide +kernel
theorem dX12_init_304 : decode cX12_init 304 = .ok (.iastore, 1) := by decide +kernel
theorem dX12_init_305 : decode cX12_init 305 = .ok (.aload_n 0, 1) := by decide +kernel
theorem dX12_init_306 : decode cX12_init 306 = .ok (.getfield 23, 3) := by decide +kernel
theorem dX12_init_309 : decode cX12_init 309 = .ok (.iconst 3, 1) := by decide +kernel
theorem dX12_init_310 : decode cX12_init 310 = .ok (.iload_n 1, 1) := by decide +kernel
theorem dX12_init_311 : decode cX12_init 311 = .ok (.iadd, 1) := by decide +kernel
theorem dX12_init_312 : decode cX12_init 312 = .ok (.bipush 20, 2) := by decide +kernel
theorem dX12_init_314 : decode cX12_init 314 = .ok (.iload_n 1, 1) := by decide +kernel
theorem dX12_init_315 : decode cX12_init 315 = .ok (.iconst 1, 1) := by decide +kernel
theorem dX12_init_316 : decode cX12_init 316 = .ok (.iadd, 1) := by decide +kernel
theorem dX12_init_317 : decode cX12_init 317 = .ok (.imul, 1) := by decide +kernel
theorem dX12_init_318 : decode cX12_init 318 = .ok (.iastore, 1) := by decide +kernel
theorem dX12_init_319 : decode cX12_init 319 = .ok (.iinc 1 1, 3) := by decide +kernel
theorem dX12_init_322 : decode cX12_init 322 = .ok (.goto (-34), 3) := by decide +kernel
theorem dX12_init_325 : decode cX12_init 325 = .ok (.iconst 0, 1) := by decide +kernel
theorem dX12_init_326 : decode cX12_init 326 = .ok (.istore_n 1, 1) := by decide +kernel
theorem dX12_init_327 : decode cX12_init 327 = .ok (.iload_n 1, 1) := by decide +kernel
theorem dX12_init_328 : decode cX12_init 328 = .ok (.bipush 10, 2) := by decide +kernel
theorem dX12_init_330 : decode cX12_init 330 = .ok (.if_icmp .ge 42, 3) := by decide +kernel
theorem dX12_init_333 : decode cX12_init 333 = .ok (.aload_n 0, 1) := by decide +kernel
theorem dX12_init_334 : decode cX12_init 334 = .ok (.getfield 26, 3) := by decide +kernel
theorem dX12_init_337 : decode cX12_init 337 = .ok (.iload_n 1, 1) := by decide +kernel
theorem dX12_init_338 : decode cX12_init 338 = .ok (.iload_n 1, 1) := by decide +kernel
theorem dX12_init_339 : decode cX12_init 339 = .ok (.bipush 8, 2) := by decide +kernel
theorem dX12_init_341 : decode cX12_init 341 = .ok (.irem, 1) := by decide +kernel
theorem dX12_init_342 : decode cX12_init 342 = .ok (.iastore, 1) := by decide +kernel
theorem dX12_init_343 : decode cX12_init 343 = .ok (.aload_n 0, 1) := by decide +kernel
theorem dX12_init_344 : decode cX12_init 344 = .ok (.getfield 29, 3) := by decide +kernel
theorem dX12_init_347 : decode cX12_init 347 = .ok (.iload_n 1, 1) := by decide +kernel
theorem dX12_init_348 : decode cX12_init 348 = .ok (.iload_n 1, 1) := by decide +kernel
theorem dX12_init_349 : decode cX12_init 349 = .ok (.iconst 4, 1) := by decide +kernel
theorem dX12_init_350 : decode cX12_init 350 = .ok (.irem, 1) := by decide +kernel
theorem dX12_init_351 : decode cX12_init 351 = .ok (.iastore, 1) := by decide +kernel
theorem dX12_init_352 : decode cX12_init 352 = .ok (.aload_n 0, 1) := by decide +kernel
theorem dX12_init_353 : decode cX12_init 353 = .ok (.getfield 32, 3) := by decide +kernel
theorem dX12_init_356 : decode cX12_init 356 = .ok (.iload_n 1, 1) := by decide +kernel
theorem dX12_init_357 : decode cX12_init 357 = .ok (.iconst (-1), 1) := by decide +kernel
theorem dX12_init_358 : decode cX12_init 358 = .ok (.iastore, 1) := by decide +kernel
theorem dX12_init_359 : decode cX12_init 359 = .ok (.aload_n 0, 1) := by decide +kernel
theorem dX12_init_360 : decode cX12_init 360 = .ok (.getfield 35, 3) := by decide +kernel
theorem dX12_init_363 : decode cX12_init 363 = .ok (.iload_n 1, 1) := by decide +kernel
theorem dX12_init_364 : decode cX12_init 364 = .ok (.iconst (-1), 1) := by decide +kernel
theorem dX12_init_365 : decode cX12_init 365 = .ok (.iastore, 1) := by decide +kernel
theorem dX12_init_366 : decode cX12_init 366 = .ok (.iinc 1 1, 3) := by decide +kernel
theorem dX12_init_369 : decode cX12_init 369 = .ok (.goto (-42), 3) := by decide +kernel
theorem dX12_init_372 : decode cX12_init 372 = .ok (.return_, 1) := by decide +kernel
theorem dX12_thrown_0 : decode cX12_thrown 0 = .ok (.aload_n 0, 1) := by decide +kernel
theorem dX12_thrown_1 : decode cX12_thrown 1 = .ok (.getfield 107, 3) := by decide +kernel
theorem dX12_thrown_4 : decode cX12_thrown 4 = .ok (.ireturn, 1) := by decide +kernel
theorem dX12_can_0 : decode cX12_can 0 = .ok (.aload_n 0, 1) := by decide +kernel
theorem dX12_can_1 : decode cX12_can 1 = .ok (.iload_n 1, 1) := by decide +kernel
theorem dX12_can_2 : decode cX12_can 2 = .ok (.putfield 107, 3) := by decide +kernel
theorem dX12_can_5 : decode cX12_can 5 = .ok (.iload_n 1, 1) := by decide +kernel
theorem dX12_can_6 : decode cX12_can 6 = .ok (.ifCond .ne 7, 3) := by decide +kernel
theorem dX12_can_9 : decode cX12_can 9 = .ok (.iconst 1, 1) := by decide +kernel
theorem dX12_can_10 : decode cX12_can 10 = .ok (.goto 4, 3) := by decide +kernel
theorem dX12_can_13 : decode cX12_can 13 = .ok (.iconst 0, 1) := by decide +kernel
theorem dX12_can_14 : decode cX12_can 14 = .ok (.ireturn, 1) := by decide +kernel
theorem dX12_isIn_0 : decode cX12_isIn 0 = .ok (.iload_n 0, 1) := by decide +kernel
theorem dX12_isIn_1 : decode cX12_isIn 1 = .ok (.iload_n 1, 1) := by decide +kernel
theorem dX12_isIn_2 : decode cX12_isIn 2 = .ok (.if_icmp .lt 12, 3) := by decide +kernel
theorem dX12_isIn_5 : decode cX12_isIn 5 = .ok (.iload_n 0, 1) := by decide +kernel
theorem dX12_isIn_6 : decode cX12_isIn 6 = .ok (.iload_n 2, 1) := by decide +kernel
theorem dX12_isIn_7 : decode cX12_isIn 7 = .ok (.if_icmp .gt 7, 3) := by decide +kernel
theorem dX12_isIn_10 : decode cX12_isIn 10 = .ok (.iconst 1, 1) := by decide +kernel
theorem dX12_isIn_11 : decode cX12_isIn 11 = .ok (.goto 4, 3) := by decide +kernel
theorem dX12_isIn_14 : decode cX12_isIn 14 = .ok (.iconst 0, 1) := by decide +kernel
theorem dX12_isIn_15 : decode cX12_isIn 15 = .ok (.ireturn, 1) := by decide +kernel
theorem dX12_isCell_0 : decode cX12_isCell 0 = .ok (.iload_n 0, 1) := by decide +kernel
theorem dX12_isCell_1 : decode cX12_isCell 1 = .ok (.iconst 0, 1) := by decide +kernel
theorem dX12_isCell_2 : decode cX12_isCell 2 = .ok (.bipush 7, 2) := by decide +kernel
theorem dX12_isCell_4 : decode cX12_isCell 4 = .ok (.invokestatic 110, 3) := by decide +kernel
theorem dX12_isCell_7 : decode cX12_isCell 7 = .ok (.ireturn, 1) := by decide +kernel
theorem dX12_isPhone_0 : decode cX12_isPhone 0 = .ok (.iload_n 0, 1) := by decide +kernel
theorem dX12_isPhone_1 : decode cX12_isPhone 1 = .ok (.iconst 0, 1) := by decide +kernel
theorem dX12_isPhone_2 : decode cX12_isPhone 2 = .ok (.bipush 9, 2) := by decide +kernel
theorem dX12_isPhone_4 : decode cX12_isPhone 4 = .ok (.invokestatic 110, 3) := by decide +kernel
theorem dX12_isPhone_7 : decode cX12_isPhone 7 = .ok (.ireturn, 1) := by decide +kernel
theorem dX12_isWallet_0 : decode cX12_isWallet 0 = .ok (.iload_n 0, 1) := by decide +kernel
theorem dX12_isWallet_1 : decode cX12_isWallet 1 = .ok (.iconst 0, 1) := by decide +kernel
theorem dX12_isWallet_2 : decode cX12_isWallet 2 = .ok (.iconst 3, 1) := by decide +kernel
theorem dX12_isWallet_3 : decode cX12_isWallet 3 = .ok (.invokestatic 110, 3) := by decide +kernel
theorem dX12_isWallet_6 : decode cX12_isWallet 6 = .ok (.ireturn, 1) := by decide +kernel
theorem dX12_isZone_0 : decode cX12_isZone 0 = .ok (.iload_n 0, 1) := by decide +kernel
theorem dX12_isZone_1 : decode cX12_isZone 1 = .ok (.iconst 0, 1) := by decide +kernel
theorem dX12_isZone_2 : decode cX12_isZone 2 = .ok (.iconst 2, 1) := by decide +kernel
theorem dX12_isZone_3 : decode cX12_isZone 3 = .ok (.invokestatic 110, 3) := by decide +kernel
theorem dX12_isZone_6 : decode cX12_isZone 6 = .ok (.ireturn, 1) := by decide +kernel
theorem dX12_isCall_0 : decode cX12_isCall 0 = .ok (.iload_n 1, 1) := by decide +kernel
theorem dX12_isCall_1 : decode cX12_isCall 1 = .ok (.iconst 0, 1) := by decide +kernel
theorem dX12_isCall_2 : decode cX12_isCall 2 = .ok (.aload_n 0, 1) := by decide +kernel
theorem dX12_isCall_3 : decode cX12_isCall 3 = .ok (.getfield 114, 3) := by decide +kernel
theorem dX12_isCall_6 : decode cX12_isCall 6 = .ok (.iconst 1, 1) := by decide +kernel
theorem dX12_isCall_7 : decode cX12_isCall 7 = .ok (.isub, 1) := by decide +kernel
theorem dX12_isCall_8 : decode cX12_isCall 8 = .ok (.invokestatic 110, 3) := by decide +kernel
theorem dX12_isCall_11 : decode cX12_isCall 11 = .ok (.ireturn, 1) := by decide +kernel
theorem dX12_isLeg_0 : decode cX12_isLeg 0 = .ok (.iload_n 1, 1) := by decide +kernel
theorem dX12_isLeg_1 : decode cX12_isLeg 1 = .ok (.iconst 0, 1) := by decide +kernel
theorem dX12_isLeg_2 : decode cX12_isLeg 2 = .ok (.aload_n 0, 1) := by decide +kernel
theorem dX12_isLeg_3 : decode cX12_isLeg 3 = .ok (.getfield 117, 3) := by decide +kernel
theorem dX12_isLeg_6 : decode cX12_isLeg 6 = .ok (.iconst 1, 1) := by decide +kernel
theorem dX12_isLeg_7 : decode cX12_isLeg 7 = .ok (.isub, 1) := by decide +kernel
theorem dX12_isLeg_8 : decode cX12_isLeg 8 = .ok (.invokestatic 110, 3) := by decide +kernel
theorem dX12_isLeg_11 : decode cX12_isLeg 11 = .ok (.ireturn, 1) := by decide +kernel
theorem dX12_setZone_0 : decode cX12_setZone 0 = .ok (.aload_n 0, 1) := by decide +kernel
theorem dX12_setZone_1 : decode cX12_setZone 1 = .ok (.iload_n 1, 1) := by decide +kernel
theorem dX12_setZone_2 : decode cX12_setZone 2 = .ok (.invokestatic 120, 3) := by decide +kernel
theorem dX12_setZone_5 : decode cX12_setZone 5 = .ok (.ifCond .ne 7, 3) := by decide +kernel
theorem dX12_setZone_8 : decode cX12_setZone 8 = .ok (.iconst 1, 1) := by decide +kernel
theorem dX12_setZone_9 : decode cX12_setZone 9 = .ok (.goto 26, 3) := by decide +kernel
theorem dX12_setZone_12 : decode cX12_setZone 12 = .ok (.iload_n 2, 1) := by decide +kernel
theorem dX12_setZone_13 : decode cX12_setZone 13 = .ok (.invokestatic 124, 3) := by decide +kernel
theorem dX12_setZone_16 : decode cX12_setZone 16 = .ok (.ifCond .ne 7, 3) := by decide +kernel
theorem dX12_setZone_19 : decode cX12_setZone 19 = .ok (.iconst 2, 1) := by decide +kernel
theorem dX12_setZone_20 : decode cX12_setZone 20 = .ok (.goto 15, 3) := by decide +kernel
theorem dX12_setZone_23 : decode cX12_setZone 23 = .ok (.aload_n 0, 1) := by decide +kernel
theorem dX12_setZone_24 : decode cX12_setZone 24 = .ok (.getfield 114, 3) := by decide +kernel
theorem dX12_setZone_27 : decode cX12_setZone 27 = .ok (.ifCond .le 7, 3) := by decide +kernel
theorem dX12_setZone_30 : decode cX12_setZone 30 = .ok (.iconst 3, 1) := by decide +kernel
theorem dX12_setZone_31 : decode cX12_setZone 31 = .ok (.goto 4, 3) := by decide +kernel
theorem dX12_setZone_34 : decode cX12_setZone 34 = .ok (.iconst 0, 1) := by decide +kernel
theorem dX12_setZone_35 : decode cX12_setZone 35 = .ok (.invokevirtual 127, 3) := by decide +kernel
theorem dX12_setZone_38 : decode cX12_setZone 38 = .ok (.ifCond .ne 5, 3) := by decide +kernel
theorem dX12_setZone_41 : decode cX12_setZone 41 = .ok (.iconst 0, 1) := by decide +kernel
theorem dX12_setZone_42 : decode cX12_setZone 42 = .ok (.ireturn, 1) := by decide +kernel
theorem dX12_setZone_43 : decode cX12_setZone 43 = .ok (.aload_n 0, 1) := by decide +kernel
theorem dX12_setZone_44 : decode cX12_setZone 44 = .ok (.getfield 13, 3) := by decide +kernel
theorem dX12_setZone_47 : decode cX12_setZone 47 = .ok (.iload_n 1, 1) := by decide +kernel
theorem dX12_setZone_48 : decode cX12_setZone 48 = .ok (.iaload, 1) := by decide +kernel
theorem dX12_setZone_49 : decode cX12_setZone 49 = .ok (.istore_n 3, 1) := by decide +kernel
theorem dX12_setZone_50 : decode cX12_setZone 50 = .ok (.aload_n 0, 1) := by decide +kernel
theorem dX12_setZone_51 : decode cX12_setZone 51 = .ok (.getfield 13, 3) := by decide +kernel
theorem dX12_setZone_54 : decode cX12_setZone 54 = .ok (.iload_n 1, 1) := by decide +kernel
theorem dX12_setZone_55 : decode cX12_setZone 55 = .ok (.iload_n 2, 1) := by decide +kernel
theorem dX12_setZone_56 : decode cX12_setZone 56 = .ok (.iastore, 1) := by decide +kernel
theorem dX12_setZone_57 : decode cX12_setZone 57 = .ok (.iload_n 3, 1) := by decide +kernel
theorem dX12_setZone_58 : decode cX12_setZone 58 = .ok (.ireturn, 1) := by decide +kernel
theorem dX12_legsIn_0 : decode cX12_legsIn 0 = .ok (.iconst 0, 1) := by decide +kernel
theorem dX12_legsIn_1 : decode cX12_legsIn 1 = .ok (.istore_n 2, 1) := by decide +kernel
theorem dX12_legsIn_2 : decode cX12_legsIn 2 = .ok (.iconst 0, 1) := by decide +kernel
theorem dX12_legsIn_3 : decode cX12_legsIn 3 = .ok (.istore_n 3, 1) := by decide +kernel
theorem dX12_legsIn_4 : decode cX12_legsIn 4 = .ok (.iload_n 3, 1) := by decide +kernel
theorem dX12_legsIn_5 : decode cX12_legsIn 5 = .ok (.bipush 10, 2) := by decide +kernel
theorem dX12_legsIn_7 : decode cX12_legsIn 7 = .ok (.if_icmp .ge 37, 3) := by decide +kernel
theorem dX12_legsIn_10 : decode cX12_legsIn 10 = .ok (.iload_n 2, 1) := by decide +kernel
theorem dX12_legsIn_11 : decode cX12_legsIn 11 = .ok (.aload_n 0, 1) := by decide +kernel
theorem dX12_legsIn_12 : decode cX12_legsIn 12 = .ok (.getfield 35, 3) := by decide +kernel
theorem dX12_legsIn_15 : decode cX12_legsIn 15 = .ok (.iload_n 3, 1) := by decide +kernel
theorem dX12_legsIn_16 : decode cX12_legsIn 16 = .ok (.iaload, 1) := by decide +kernel
theorem dX12_legsIn_17 : decode cX12_legsIn 17 = .ok (.iconst (-1), 1) := by decide +kernel
theorem dX12_legsIn_18 : decode cX12_legsIn 18 = .ok (.if_icmp .eq 17, 3) := by decide +kernel
theorem dX12_legsIn_21 : decode cX12_legsIn 21 = .ok (.aload_n 0, 1) := by decide +kernel
theorem dX12_legsIn_22 : decode cX12_legsIn 22 = .ok (.getfield 26, 3) := by decide +kernel
theorem dX12_legsIn_25 : decode cX12_legsIn 25 = .ok (.iload_n 3, 1) := by decide +kernel
theorem dX12_legsIn_26 : decode cX12_legsIn 26 = .ok (.iaload, 1) := by decide +kernel
theorem dX12_legsIn_27 : decode cX12_legsIn 27 = .ok (.iload_n 1, 1) := by decide +kernel
theorem dX12_legsIn_28 : decode cX12_legsIn 28 = .ok (.if_icmp .ne 7, 3) := by decide +kernel
theorem dX12_legsIn_31 : decode cX12_legsIn 31 = .ok (.iconst 1, 1) := by decide +kernel
theorem dX12_legsIn_32 : decode cX12_legsIn 32 = .ok (.goto 4, 3) := by decide +kernel
theorem dX12_legsIn_35 : decode cX12_legsIn 35 = .ok (.iconst 0, 1) := by decide +kernel
theorem dX12_legsIn_36 : decode cX12_legsIn 36 = .ok (.iadd, 1) := by decide +kernel
theorem dX12_legsIn_37 : decode cX12_legsIn 37 = .ok (.istore_n 2, 1) := by decide +kernel
theorem dX12_legsIn_38 : decode cX12_legsIn 38 = .ok (.iinc 3 1, 3) := by decide +kernel
theorem dX12_legsIn_41 : decode cX12_legsIn 41 = .ok (.goto (-37), 3) := by decide +kernel
theorem dX12_legsIn_44 : decode cX12_legsIn 44 = .ok (.iload_n 2, 1) := by decide +kernel
theorem dX12_legsIn_45 : decode cX12_legsIn 45 = .ok (.ireturn, 1) := by decide +kernel
theorem dX12_setChannels_0 : decode cX12_setChannels 0 = .ok (.iload_n 2, 1) := by decide +kernel
theorem dX12_setChannels_1 : decode cX12_setChannels 1 = .ok (.iconst 0, 1) := by decide +kernel
theorem dX12_setChannels_2 : decode cX12_setChannels 2 = .ok (.bipush 10, 2) := by decide +kernel
theorem dX12_setChannels_4 : decode cX12_setChannels 4 = .ok (.invokestatic 110, 3) := by decide +kernel
theorem dX12_setChannels_7 : decode cX12_setChannels 7 = .ok (.ifCond .eq 16, 3) := by decide +kernel
theorem dX12_setChannels_10 : decode cX12_setChannels 10 = .ok (.iload_n 3, 1) := by decide +kernel
theorem dX12_setChannels_11 : decode cX12_setChannels 11 = .ok (.iconst 0, 1) := by decide +kernel
theorem dX12_setChannels_12 : decode cX12_setChannels 12 = .ok (.iload_n 2, 1) := by decide +kernel
theorem dX12_setChannels_13 : decode cX12_setChannels 13 = .ok (.invokestatic 110, 3) := by decide +kernel
theorem dX12_setChannels_16 : decode cX12_setChannels 16 = .ok (.ifCond .eq 7, 3) := by decide +kernel
theorem dX12_setChannels_19 : decode cX12_setChannels 19 = .ok (.iconst 1, 1) := by decide +kernel
theorem dX12_setChannels_20 : decode cX12_setChannels 20 = .ok (.goto 4, 3) := by decide +kernel
theorem dX12_setChannels_23 : decode cX12_setChannels 23 = .ok (.iconst 0, 1) := by decide +kernel
theorem dX12_setChannels_24 : decode cX12_setChannels 24 = .ok (.istore 4, 2) := by decide +kernel
theorem dX12_setChannels_26 : decode cX12_setChannels 26 = .ok (.aload_n 0, 1) := by decide +kernel
theorem dX12_setChannels_27 : decode cX12_setChannels 27 = .ok (.iload_n 1, 1) := by decide +kernel
theorem dX12_setChannels_28 : decode cX12_setChannels 28 = .ok (.invokestatic 120, 3) := by decide +kernel
theorem dX12_setChannels_31 : decode cX12_setChannels 31 = .ok (.ifCond .ne 7, 3) := by decide +kernel
theorem dX12_setChannels_34 : decode cX12_setChannels 34 = .ok (.iconst 1, 1) := by decide +kernel
theorem dX12_setChannels_35 : decode cX12_setChannels 35 = .ok (.goto 13, 3) := by decide +kernel
theorem dX12_setChannels_38 : decode cX12_setChannels 38 = .ok (.iload 4, 2) := by decide +kernel
theorem dX12_setChannels_40 : decode cX12_setChannels 40 = .ok (.ifCond .eq 7, 3) := by decide +kernel
theorem dX12_setChannels_43 : decode cX12_setChannels 43 = .ok (.iconst 0, 1) := by decide +kernel
theorem dX12_setChannels_44 : decode cX12_setChannels 44 = .ok (.goto 4, 3) := by decide +kernel
theorem dX12_setChannels_47 : decode cX12_setChannels 47 = .ok (.iconst 2, 1) := by decide +kernel
theorem dX12_setChannels_48 : decode cX12_setChannels 48 = .ok (.invokevirtual 127, 3) := by decide +kernel
theorem dX12_setChannels_51 : decode cX12_setChannels 51 = .ok (.ifCond .ne 5, 3) := by decide +kernel
theorem dX12_setChannels_54 : decode cX12_setChannels 54 = .ok (.iconst 0, 1) := by decide +kernel
theorem dX12_setChannels_55 : decode cX12_setChannels 55 = .ok (.ireturn, 1) := by decide +kernel
theorem dX12_setChannels_56 : decode cX12_setChannels 56 = .ok (.aload_n 0, 1) := by decide +kernel
theorem dX12_setChannels_57 : decode cX12_setChannels 57 = .ok (.getfield 17, 3) := by decide +kernel
theorem dX12_setChannels_60 : decode cX12_setChannels 60 = .ok (.iload_n 1, 1) := by decide +kernel
theorem dX12_setChannels_61 : decode cX12_setChannels 61 = .ok (.iload_n 2, 1) := by decide +kernel
theorem dX12_setChannels_62 : decode cX12_setChannels 62 = .ok (.iastore, 1) := by decide +kernel
theorem dX12_setChannels_63 : decode cX12_setChannels 63 = .ok (.aload_n 0, 1) := by decide +kernel
theorem dX12_setChannels_64 : decode cX12_setChannels 64 = .ok (.getfield 20, 3) := by decide +kernel
theorem dX12_setChannels_67 : decode cX12_setChannels 67 = .ok (.iload_n 1, 1) := by decide +kernel
theorem dX12_setChannels_68 : decode cX12_setChannels 68 = .ok (.iload_n 3, 1) := by decide +kernel
theorem dX12_setChannels_69 : decode cX12_setChannels 69 = .ok (.iastore, 1) := by decide +kernel
theorem dX12_setChannels_70 : decode cX12_setChannels 70 = .ok (.aload_n 0, 1) := by decide +kernel
theorem dX12_setChannels_71 : decode cX12_setChannels 71 = .ok (.iload_n 1, 1) := by decide +kernel
theorem dX12_setChannels_72 : decode cX12_setChannels 72 = .ok (.invokevirtual 130, 3) := by decide +kernel
theorem dX12_setChannels_75 : decode cX12_setChannels 75 = .ok (.ireturn, 1) := by decide +kernel
theorem dX12_setRate_0 : decode cX12_setRate 0 = .ok (.aload_n 0, 1) := by decide +kernel
theorem dX12_setRate_1 : decode cX12_setRate 1 = .ok (.iload_n 1, 1) := by decide +kernel
theorem dX12_setRate_2 : decode cX12_setRate 2 = .ok (.invokestatic 124, 3) := by decide +kernel
theorem dX12_setRate_5 : decode cX12_setRate 5 = .ok (.ifCond .eq 18, 3) := by decide +kernel
theorem dX12_setRate_8 : decode cX12_setRate 8 = .ok (.iload_n 3, 1) := by decide +kernel
theorem dX12_setRate_9 : decode cX12_setRate 9 = .ok (.iconst 0, 1) := by decide +kernel
theorem dX12_setRate_10 : decode cX12_setRate 10 = .ok (.sipush 1000, 3) := by decide +kernel
theorem dX12_setRate_13 : decode cX12_setRate 13 = .ok (.invokestatic 110, 3) := by decide +kernel
theorem dX12_setRate_16 : decode cX12_setRate 16 = .ok (.ifCond .eq 7, 3) := by decide +kernel
theorem dX12_setRate_19 : decode cX12_setRate 19 = .ok (.iconst 0, 1) := by decide +kernel
theorem dX12_setRate_20 : decode cX12_setRate 20 = .ok (.goto 4, 3) := by decide +kernel
theorem dX12_setRate_23 : decode cX12_setRate 23 = .ok (.iconst 1, 1) := by decide +kernel
theorem dX12_setRate_24 : decode cX12_setRate 24 = .ok (.invokevirtual 127, 3) := by decide +kernel
theorem dX12_setRate_27 : decode cX12_setRate 27 = .ok (.ifCond .ne 5, 3) := by decide +kernel
theorem dX12_setRate_30 : decode cX12_setRate 30 = .ok (.iconst 0, 1) := by decide +kernel
theorem dX12_setRate_31 : decode cX12_setRate 31 = .ok (.ireturn, 1) := by decide +kernel
theorem dX12_setRate_32 : decode cX12_setRate 32 = .ok (.iload_n 2, 1) := by decide +kernel
theorem dX12_setRate_33 : decode cX12_setRate 33 = .ok (.ifCond .eq 7, 3) := by decide +kernel
theorem dX12_setRate_36 : decode cX12_setRate 36 = .ok (.iconst 3, 1) := by decide +kernel
theorem dX12_setRate_37 : decode cX12_setRate 37 = .ok (.goto 4, 3) := by decide +kernel
theorem dX12_setRate_40 : decode cX12_setRate 40 = .ok (.iconst 0, 1) := by decide +kernel
theorem dX12_setRate_41 : decode cX12_setRate 41 = .ok (.iload_n 1, 1) := by decide +kernel
theorem dX12_setRate_42 : decode cX12_setRate 42 = .ok (.iadd, 1) := by decide +kernel
theorem dX12_setRate_43 : decode cX12_setRate 43 = .ok (.istore 4, 2) := by decide +kernel
theorem dX12_setRate_45 : decode cX12_setRate 45 = .ok (.aload_n 0, 1) := by decide +kernel
theorem dX12_setRate_46 : decode cX12_setRate 46 = .ok (.getfield 23, 3) := by decide +kernel
theorem dX12_setRate_49 : decode cX12_setRate 49 = .ok (.iload 4, 2) := by decide +kernel
theorem dX12_setRate_51 : decode cX12_setRate 51 = .ok (.iaload, 1) := by decide +kernel
theorem dX12_setRate_52 : decode cX12_setRate 52 = .ok (.istore 5, 2) := by decide +kernel
theorem dX12_setRate_54 : decode cX12_setRate 54 = .ok (.aload_n 0, 1) := by decide +kernel
theorem dX12_setRate_55 : decode cX12_setRate 55 = .ok (.getfield 23, 3) := by decide +kernel
theorem dX12_setRate_58 : decode cX12_setRate 58 = .ok (.iload 4, 2) := by decide +kernel
theorem dX12_setRate_60 : decode cX12_setRate 60 = .ok (.iload_n 3, 1) := by decide +kernel
theorem dX12_setRate_61 : decode cX12_setRate 61 = .ok (.iastore, 1) := by decide +kernel
theorem dX12_setRate_62 : decode cX12_setRate 62 = .ok (.iload 5, 2) := by decide +kernel
theorem dX12_setRate_64 : decode cX12_setRate 64 = .ok (.ireturn, 1) := by decide +kernel
theorem dX12_setSlice_0 : decode cX12_setSlice 0 = .ok (.aload_n 0, 1) := by decide +kernel
theorem dX12_setSlice_1 : decode cX12_setSlice 1 = .ok (.iload_n 1, 1) := by decide +kernel
theorem dX12_setSlice_2 : decode cX12_setSlice 2 = .ok (.iconst 1, 1) := by decide +kernel
theorem dX12_setSlice_3 : decode cX12_setSlice 3 = .ok (.bipush 100, 2) := by decide +kernel
theorem dX12_setSlice_5 : decode cX12_setSlice 5 = .ok (.invokestatic 110, 3) := by decide +kernel
theorem dX12_setSlice_8 : decode cX12_setSlice 8 = .ok (.ifCond .eq 7, 3) := by decide +kernel
theorem dX12_setSlice_11 : decode cX12_setSlice 11 = .ok (.iconst 0, 1) := by decide +kernel
theorem dX12_setSlice_12 : decode cX12_setSlice 12 = .ok (.goto 4, 3) := by decide +kernel
theorem dX12_setSlice_15 : decode cX12_setSlice 15 = .ok (.iconst 1, 1) := by decide +kernel
theorem dX12_setSlice_16 : decode cX12_setSlice 16 = .ok (.invokevirtual 127, 3) := by decide +kernel
theorem dX12_setSlice_19 : decode cX12_setSlice 19 = .ok (.ifCond .ne 5, 3) := by decide +kernel
theorem dX12_setSlice_22 : decode cX12_setSlice 22 = .ok (.iconst 0, 1) := by decide +kernel
theorem dX12_setSlice_23 : decode cX12_setSlice 23 = .ok (.ireturn, 1) := by decide +kernel
theorem dX12_setSlice_24 : decode cX12_setSlice 24 = .ok (.aload_n 0, 1) := by decide +kernel
theorem dX12_setSlice_25 : decode cX12_setSlice 25 = .ok (.getfield 7, 3) := by decide +kernel
theorem dX12_setSlice_28 : decode cX12_setSlice 28 = .ok (.istore_n 2, 1) := by decide +kernel
theorem dX12_setSlice_29 : decode cX12_setSlice 29 = .ok (.aload_n 0, 1) := by decide +kernel
theorem dX12_setSlice_30 : decode cX12_setSlice 30 = .ok (.iload_n 1, 1) := by decide +kernel
theorem dX12_setSlice_31 : decode cX12_setSlice 31 = .ok (.putfield 7, 3) := by decide +kernel
theorem dX12_setSlice_34 : decode cX12_setSlice 34 = .ok (.iload_n 2, 1) := by decide +kernel
theorem dX12_setSlice_35 : decode cX12_setSlice 35 = .ok (.ireturn, 1) := by decide +kernel
theorem dX12_setCap_0 : decode cX12_setCap 0 = .ok (.aload_n 0, 1) := by decide +kernel
theorem dX12_setCap_1 : decode cX12_setCap 1 = .ok (.iload_n 1, 1) := by decide +kernel
theorem dX12_setCap_2 : decode cX12_setCap 2 = .ok (.invokestatic 134, 3) := by decide +kernel
theorem dX12_setCap_5 : decode cX12_setCap 5 = .ok (.ifCond .ne 7, 3) := by decide +kernel
theorem dX12_setCap_8 : decode cX12_setCap 8 = .ok (.iconst 1, 1) := by decide +kernel
theorem dX12_setCap_9 : decode cX12_setCap 9 = .ok (.goto 18, 3) := by decide +kernel
theorem dX12_setCap_12 : decode cX12_setCap 12 = .ok (.iload_n 2, 1) := by decide +kernel
theorem dX12_setCap_13 : decode cX12_setCap 13 = .ok (.iconst (-1), 1) := by decide +kernel
theorem dX12_setCap_14 : decode cX12_setCap 14 = .ok (.ldc 137, 2) := by decide +kernel
theorem dX12_setCap_16 : decode cX12_setCap 16 = .ok (.invokestatic 110, 3) := by decide +kernel
theorem dX12_setCap_19 : decode cX12_setCap 19 = .ok (.ifCond .eq 7, 3) := by decide +kernel
theorem dX12_setCap_22 : decode cX12_setCap 22 = .ok (.iconst 0, 1) := by decide +kernel
theorem dX12_setCap_23 : decode cX12_setCap 23 = .ok (.goto 4, 3) := by decide +kernel
theorem dX12_setCap_26 : decode cX12_setCap 26 = .ok (.iconst 2, 1) := by decide +kernel
theorem dX12_setCap_27 : decode cX12_setCap 27 = .ok (.invokevirtual 127, 3) := by decide +kernel
theorem dX12_setCap_30 : decode cX12_setCap 30 = .ok (.ifCond .ne 5, 3) := by decide +kernel
theorem dX12_setCap_33 : decode cX12_setCap 33 = .ok (.iconst 0, 1) := by decide +kernel
theorem dX12_setCap_34 : decode cX12_setCap 34 = .ok (.ireturn, 1) := by decide +kernel
theorem dX12_setCap_35 : decode cX12_setCap 35 = .ok (.aload_n 0, 1) := by decide +kernel
theorem dX12_setCap_36 : decode cX12_setCap 36 = .ok (.getfield 32, 3) := by decide +kernel
theorem dX12_setCap_39 : decode cX12_setCap 39 = .ok (.iload_n 1, 1) := by decide +kernel
theorem dX12_setCap_40 : decode cX12_setCap 40 = .ok (.iaload, 1) := by decide +kernel
theorem dX12_setCap_41 : decode cX12_setCap 41 = .ok (.istore_n 3, 1) := by decide +kernel
theorem dX12_setCap_42 : decode cX12_setCap 42 = .ok (.aload_n 0, 1) := by decide +kernel
theorem dX12_setCap_43 : decode cX12_setCap 43 = .ok (.getfield 32, 3) := by decide +kernel
theorem dX12_setCap_46 : decode cX12_setCap 46 = .ok (.iload_n 1, 1) := by decide +kernel
theorem dX12_setCap_47 : decode cX12_setCap 47 = .ok (.iload_n 2, 1) := by decide +kernel
theorem dX12_setCap_48 : decode cX12_setCap 48 = .ok (.iastore, 1) := by decide +kernel
theorem dX12_setCap_49 : decode cX12_setCap 49 = .ok (.iload_n 3, 1) := by decide +kernel
theorem dX12_setCap_50 : decode cX12_setCap 50 = .ok (.ireturn, 1) := by decide +kernel
theorem dX12_setWallet_0 : decode cX12_setWallet 0 = .ok (.iload_n 1, 1) := by decide +kernel
theorem dX12_setWallet_1 : decode cX12_setWallet 1 = .ok (.invokestatic 134, 3) := by decide +kernel
theorem dX12_setWallet_4 : decode cX12_setWallet 4 = .ok (.ifCond .eq 14, 3) := by decide +kernel
theorem dX12_setWallet_7 : decode cX12_setWallet 7 = .ok (.iload_n 2, 1) := by decide +kernel
theorem dX12_setWallet_8 : decode cX12_setWallet 8 = .ok (.invokestatic 138, 3) := by decide +kernel
theorem dX12_setWallet_11 : decode cX12_setWallet 11 = .ok (.ifCond .eq 7, 3) := by decide +kernel
theorem dX12_setWallet_14 : decode cX12_setWallet 14 = .ok (.iconst 1, 1) := by decide +kernel
theorem dX12_setWallet_15 : decode cX12_setWallet 15 = .ok (.goto 4, 3) := by decide +kernel
theorem dX12_setWallet_18 : decode cX12_setWallet 18 = .ok (.iconst 0, 1) := by decide +kernel
theorem dX12_setWallet_19 : decode cX12_setWallet 19 = .ok (.istore_n 3, 1) := by decide +kernel
theorem dX12_setWallet_20 : decode cX12_setWallet 20 = .ok (.aload_n 0, 1) := by decide +kernel
theorem dX12_setWallet_21 : decode cX12_setWallet 21 = .ok (.iload_n 3, 1) := by decide +kernel
theorem dX12_setWallet_22 : decode cX12_setWallet 22 = .ok (.ifCond .ne 7, 3) := by decide +kernel
theorem dX12_setWallet_25 : decode cX12_setWallet 25 = .ok (.iconst 1, 1) := by decide +kernel
theorem dX12_setWallet_26 : decode cX12_setWallet 26 = .ok (.goto 18, 3) := by decide +kernel
theorem dX12_setWallet_29 : decode cX12_setWallet 29 = .ok (.aload_n 0, 1) := by decide +kernel
theorem dX12_setWallet_30 : decode cX12_setWallet 30 = .ok (.getfield 35, 3) := by decide +kernel
theorem dX12_setWallet_33 : decode cX12_setWallet 33 = .ok (.iload_n 1, 1) := by decide +kernel
theorem dX12_setWallet_34 : decode cX12_setWallet 34 = .ok (.iaload, 1) := by decide +kernel
theorem dX12_setWallet_35 : decode cX12_setWallet 35 = .ok (.iconst (-1), 1) := by decide +kernel
theorem dX12_setWallet_36 : decode cX12_setWallet 36 = .ok (.if_icmp .eq 7, 3) := by decide +kernel
theorem dX12_setWallet_39 : decode cX12_setWallet 39 = .ok (.iconst 2, 1) := by decide +kernel
theorem dX12_setWallet_40 : decode cX12_setWallet 40 = .ok (.goto 4, 3) := by decide +kernel
theorem dX12_setWallet_43 : decode cX12_setWallet 43 = .ok (.iconst 0, 1) := by decide +kernel
theorem dX12_setWallet_44 : decode cX12_setWallet 44 = .ok (.invokevirtual 127, 3) := by decide +kernel
theorem dX12_setWallet_47 : decode cX12_setWallet 47 = .ok (.ifCond .ne 5, 3) := by decide +kernel
theorem dX12_setWallet_50 : decode cX12_setWallet 50 = .ok (.iconst 0, 1) := by decide +kernel
theorem dX12_setWallet_51 : decode cX12_setWallet 51 = .ok (.ireturn, 1) := by decide +kernel
theorem dX12_setWallet_52 : decode cX12_setWallet 52 = .ok (.aload_n 0, 1) := by decide +kernel
theorem dX12_setWallet_53 : decode cX12_setWallet 53 = .ok (.getfield 29, 3) := by decide +kernel
theorem dX12_setWallet_56 : decode cX12_setWallet 56 = .ok (.iload_n 1, 1) := by decide +kernel
theorem dX12_setWallet_57 : decode cX12_setWallet 57 = .ok (.iaload, 1) := by decide +kernel
theorem dX12_setWallet_58 : decode cX12_setWallet 58 = .ok (.istore 4, 2) := by decide +kernel
theorem dX12_setWallet_60 : decode cX12_setWallet 60 = .ok (.aload_n 0, 1) := by decide +kernel
theorem dX12_setWallet_61 : decode cX12_setWallet 61 = .ok (.getfield 29, 3) := by decide +kernel
theorem dX12_setWallet_64 : decode cX12_setWallet 64 = .ok (.iload_n 1, 1) := by decide +kernel
theorem dX12_setWallet_65 : decode cX12_setWallet 65 = .ok (.iload_n 2, 1) := by decide +kernel
theorem dX12_setWallet_66 : decode cX12_setWallet 66 = .ok (.iastore, 1) := by decide +kernel
theorem dX12_setWallet_67 : decode cX12_setWallet 67 = .ok (.iload 4, 2) := by decide +kernel
theorem dX12_setWallet_69 : decode cX12_setWallet 69 = .ok (.ireturn, 1) := by decide +kernel
theorem dX12_top_0 : decode cX12_top 0 = .ok (.aload_n 0, 1) := by decide +kernel
theorem dX12_top_1 : decode cX12_top 1 = .ok (.iload_n 1, 1) := by decide +kernel
theorem dX12_top_2 : decode cX12_top 2 = .ok (.invokestatic 138, 3) := by decide +kernel
theorem dX12_top_5 : decode cX12_top 5 = .ok (.ifCond .ne 7, 3) := by decide +kernel
theorem dX12_top_8 : decode cX12_top 8 = .ok (.iconst 1, 1) := by decide +kernel
theorem dX12_top_9 : decode cX12_top 9 = .ok (.goto 18, 3) := by decide +kernel
theorem dX12_top_12 : decode cX12_top 12 = .ok (.iload_n 2, 1) := by decide +kernel
theorem dX12_top_13 : decode cX12_top 13 = .ok (.iconst 1, 1) := by decide +kernel
theorem dX12_top_14 : decode cX12_top 14 = .ok (.ldc 137, 2) := by decide +kernel
theorem dX12_top_16 : decode cX12_top 16 = .ok (.invokestatic 110, 3) := by decide +kernel
theorem dX12_top_19 : decode cX12_top 19 = .ok (.ifCond .eq 7, 3) := by decide +kernel
theorem dX12_top_22 : decode cX12_top 22 = .ok (.iconst 0, 1) := by decide +kernel
theorem dX12_top_23 : decode cX12_top 23 = .ok (.goto 4, 3) := by decide +kernel
theorem dX12_top_26 : decode cX12_top 26 = .ok (.iconst 2, 1) := by decide +kernel
theorem dX12_top_27 : decode cX12_top 27 = .ok (.invokevirtual 127, 3) := by decide +kernel
theorem dX12_top_30 : decode cX12_top 30 = .ok (.ifCond .ne 5, 3) := by decide +kernel
theorem dX12_top_33 : decode cX12_top 33 = .ok (.iconst 0, 1) := by decide +kernel
theorem dX12_top_34 : decode cX12_top 34 = .ok (.ireturn, 1) := by decide +kernel
theorem dX12_top_35 : decode cX12_top 35 = .ok (.aload_n 0, 1) := by decide +kernel
theorem dX12_top_36 : decode cX12_top 36 = .ok (.getfield 44, 3) := by decide +kernel
theorem dX12_top_39 : decode cX12_top 39 = .ok (.iload_n 1, 1) := by decide +kernel
theorem dX12_top_40 : decode cX12_top 40 = .ok (.dup2, 1) := by decide +kernel
theorem dX12_top_41 : decode cX12_top 41 = .ok (.iaload, 1) := by decide +kernel
theorem dX12_top_42 : decode cX12_top 42 = .ok (.iload_n 2, 1) := by decide +kernel
theorem dX12_top_43 : decode cX12_top 43 = .ok (.iadd, 1) := by decide +kernel
theorem dX12_top_44 : decode cX12_top 44 = .ok (.iastore, 1) := by decide +kernel
theorem dX12_top_45 : decode cX12_top 45 = .ok (.aload_n 0, 1) := by decide +kernel
theorem dX12_top_46 : decode cX12_top 46 = .ok (.getfield 44, 3) := by decide +kernel
theorem dX12_top_49 : decode cX12_top 49 = .ok (.iload_n 1, 1) := by decide +kernel
theorem dX12_top_50 : decode cX12_top 50 = .ok (.iaload, 1) := by decide +kernel
theorem dX12_top_51 : decode cX12_top 51 = .ok (.ireturn, 1) := by decide +kernel
theorem dX12_give_0 : decode cX12_give 0 = .ok (.iload_n 1, 1) := by decide +kernel
theorem dX12_give_1 : decode cX12_give 1 = .ok (.invokestatic 138, 3) := by decide +kernel
theorem dX12_give_4 : decode cX12_give 4 = .ok (.ifCond .eq 14, 3) := by decide +kernel
theorem dX12_give_7 : decode cX12_give 7 = .ok (.iload_n 2, 1) := by decide +kernel
theorem dX12_give_8 : decode cX12_give 8 = .ok (.invokestatic 138, 3) := by decide +kernel
theorem dX12_give_11 : decode cX12_give 11 = .ok (.ifCond .eq 7, 3) := by decide +kernel
theorem dX12_give_14 : decode cX12_give 14 = .ok (.iconst 1, 1) := by decide +kernel
theorem dX12_give_15 : decode cX12_give 15 = .ok (.goto 4, 3) := by decide +kernel
theorem dX12_give_18 : decode cX12_give 18 = .ok (.iconst 0, 1) := by decide +kernel
theorem dX12_give_19 : decode cX12_give 19 = .ok (.istore 4, 2) := by decide +kernel
theorem dX12_give_21 : decode cX12_give 21 = .ok (.iload_n 1, 1) := by decide +kernel
theorem dX12_give_22 : decode cX12_give 22 = .ok (.iload_n 2, 1) := by decide +kernel
theorem dX12_give_23 : decode cX12_give 23 = .ok (.if_icmp .eq 17, 3) := by decide +kernel
theorem dX12_give_26 : decode cX12_give 26 = .ok (.iload_n 3, 1) := by decide +kernel
theorem dX12_give_27 : decode cX12_give 27 = .ok (.iconst 1, 1) := by decide +kernel
theorem dX12_give_28 : decode cX12_give 28 = .ok (.ldc 137, 2) := by decide +kernel
theorem dX12_give_30 : decode cX12_give 30 = .ok (.invokestatic 110, 3) := by decide +kernel
theorem dX12_give_33 : decode cX12_give 33 = .ok (.ifCond .eq 7, 3) := by decide +kernel
theorem dX12_give_36 : decode cX12_give 36 = .ok (.iconst 1, 1) := by decide +kernel
theorem dX12_give_37 : decode cX12_give 37 = .ok (.goto 4, 3) := by decide +kernel
theorem dX12_give_40 : decode cX12_give 40 = .ok (.iconst 0, 1) := by decide +kernel
theorem dX12_give_41 : decode cX12_give 41 = .ok (.istore 5, 2) := by decide +kernel
theorem dX12_give_43 : decode cX12_give 43 = .ok (.aload_n 0, 1) := by decide +kernel
theorem dX12_give_44 : decode cX12_give 44 = .ok (.iload 4, 2) := by decide +kernel
theorem dX12_give_46 : decode cX12_give 46 = .ok (.ifCond .ne 7, 3) := by decide +kernel
theorem dX12_give_49 : decode cX12_give 49 = .ok (.iconst 1, 1) := by decide +kernel
theorem dX12_give_50 : decode cX12_give 50 = .ok (.goto 27, 3) := by decide +kernel
theorem dX12_give_53 : decode cX12_give 53 = .ok (.iload 5, 2) := by decide +kernel
theorem dX12_give_55 : decode cX12_give 55 = .ok (.ifCond .ne 7, 3) := by decide +kernel
theorem dX12_give_58 : decode cX12_give 58 = .ok (.iconst 2, 1) := by decide +kernel
theorem dX12_give_59 : decode cX12_give 59 = .ok (.goto 18, 3) := by decide +kernel
theorem dX12_give_62 : decode cX12_give 62 = .ok (.aload_n 0, 1) := by decide +kernel
theorem dX12_give_63 : decode cX12_give 63 = .ok (.getfield 44, 3) := by decide +kernel
theorem dX12_give_66 : decode cX12_give 66 = .ok (.iload_n 1, 1) := by decide +kernel
theorem dX12_give_67 : decode cX12_give 67 = .ok (.iaload, 1) := by decide +kernel
theorem dX12_give_68 : decode cX12_give 68 = .ok (.iload_n 3, 1) := by decide +kernel
theorem dX12_give_69 : decode cX12_give 69 = .ok (.if_icmp .ge 7, 3) := by decide +kernel
theorem dX12_give_72 : decode cX12_give 72 = .ok (.iconst 3, 1) := by decide +kernel
theorem dX12_give_73 : decode cX12_give 73 = .ok (.goto 4, 3) := by decide +kernel
theorem dX12_give_76 : decode cX12_give 76 = .ok (.iconst 0, 1) := by decide +kernel
theorem dX12_give_77 : decode cX12_give 77 = .ok (.invokevirtual 127, 3) := by decide +kernel
theorem dX12_give_80 : decode cX12_give 80 = .ok (.ifCond .ne 5, 3) := by decide +kernel
theorem dX12_give_83 : decode cX12_give 83 = .ok (.iconst 0, 1) := by decide +kernel
theorem dX12_give_84 : decode cX12_give 84 = .ok (.ireturn, 1) := by decide +kernel
theorem dX12_give_85 : decode cX12_give 85 = .ok (.aload_n 0, 1) := by decide +kernel
theorem dX12_give_86 : decode cX12_give 86 = .ok (.getfield 44, 3) := by decide +kernel
theorem dX12_give_89 : decode cX12_give 89 = .ok (.iload_n 1, 1) := by decide +kernel
theorem dX12_give_90 : decode cX12_give 90 = .ok (.dup2, 1) := by decide +kernel
theorem dX12_give_91 : decode cX12_give 91 = .ok (.iaload, 1) := by decide +kernel
theorem dX12_give_92 : decode cX12_give 92 = .ok (.iload_n 3, 1) := by decide +kernel
theorem dX12_give_93 : decode cX12_give 93 = .ok (.isub, 1) := by decide +kernel
theorem dX12_give_94 : decode cX12_give 94 = .ok (.iastore, 1) := by decide +kernel
theorem dX12_give_95 : decode cX12_give 95 = .ok (.aload_n 0, 1) := by decide +kernel
theorem dX12_give_96 : decode cX12_give 96 = .ok (.getfield 44, 3) := by decide +kernel
theorem dX12_give_99 : decode cX12_give 99 = .ok (.iload_n 2, 1) := by decide +kernel
theorem dX12_give_100 : decode cX12_give 100 = .ok (.dup2, 1) := by decide +kernel
theorem dX12_give_101 : decode cX12_give 101 = .ok (.iaload, 1) := by decide +kernel
theorem dX12_give_102 : decode cX12_give 102 = .ok (.iload_n 3, 1) := by decide +kernel
theorem dX12_give_103 : decode cX12_give 103 = .ok (.iadd, 1) := by decide +kernel
theorem dX12_give_104 : decode cX12_give 104 = .ok (.iastore, 1) := by decide +kernel
theorem dX12_give_105 : decode cX12_give 105 = .ok (.aload_n 0, 1) := by decide +kernel
theorem dX12_give_106 : decode cX12_give 106 = .ok (.getfield 44, 3) := by decide +kernel
theorem dX12_give_109 : decode cX12_give 109 = .ok (.iload_n 1, 1) := by decide +kernel
theorem dX12_give_110 : decode cX12_give 110 = .ok (.iaload, 1) := by decide +kernel
theorem dX12_give_111 : decode cX12_give 111 = .ok (.ireturn, 1) := by decide +kernel
theorem dX12_today_0 : decode cX12_today 0 = .ok (.aload_n 0, 1) := by decide +kernel
theorem dX12_today_1 : decode cX12_today 1 = .ok (.getfield 141, 3) := by decide +kernel
theorem dX12_today_4 : decode cX12_today 4 = .ok (.sipush 2400, 3) := by decide +kernel
theorem dX12_today_7 : decode cX12_today 7 = .ok (.idiv, 1) := by decide +kernel
theorem dX12_today_8 : decode cX12_today 8 = .ok (.ireturn, 1) := by decide +kernel
theorem dX12_buy_0 : decode cX12_buy 0 = .ok (.iload_n 2, 1) := by decide +kernel
theorem dX12_buy_1 : decode cX12_buy 1 = .ok (.iconst 1, 1) := by decide +kernel
theorem dX12_buy_2 : decode cX12_buy 2 = .ok (.bipush 7, 2) := by decide +kernel
theorem dX12_buy_4 : decode cX12_buy 4 = .ok (.invokestatic 110, 3) := by decide +kernel
theorem dX12_buy_7 : decode cX12_buy 7 = .ok (.ifCond .eq 51, 3) := by decide +kernel
theorem dX12_buy_10 : decode cX12_buy 10 = .ok (.iload_n 3, 1) := by decide +kernel
theorem dX12_buy_11 : decode cX12_buy 11 = .ok (.iconst 1, 1) := by decide +kernel
theorem dX12_buy_12 : decode cX12_buy 12 = .ok (.sipush 5000, 3) := by decide +kernel
theorem dX12_buy_15 : decode cX12_buy 15 = .ok (.invokestatic 110, 3) := by decide +kernel
theorem dX12_buy_18 : decode cX12_buy 18 = .ok (.ifCond .eq 40, 3) := by decide +kernel
theorem dX12_buy_21 : decode cX12_buy 21 = .ok (.iload 4, 2) := by decide +kernel
theorem dX12_buy_23 : decode cX12_buy 23 = .ok (.iconst 1, 1) := by decide +kernel
theorem dX12_buy_24 : decode cX12_buy 24 = .ok (.bipush 30, 2) := by decide +kernel
theorem dX12_buy_26 : decode cX12_buy 26 = .ok (.invokestatic 110, 3) := by decide +kernel
theorem dX12_buy_29 : decode cX12_buy 29 = .ok (.ifCond .eq 29, 3) := by decide +kernel
theorem dX12_buy_32 : decode cX12_buy 32 = .ok (.iload 5, 2) := by decide +kernel
theorem dX12_buy_34 : decode cX12_buy 34 = .ok (.iconst 0, 1) := by decide +kernel
theorem dX12_buy_35 : decode cX12_buy 35 = .ok (.bipush 9, 2) := by decide +kernel
theorem dX12_buy_37 : decode cX12_buy 37 = .ok (.invokestatic 110, 3) := by decide +kernel
theorem dX12_buy_40 : decode cX12_buy 40 = .ok (.ifCond .eq 18, 3) := by decide +kernel
theorem dX12_buy_43 : decode cX12_buy 43 = .ok (.iload 6, 2) := by decide +kernel
theorem dX12_buy_45 : decode cX12_buy 45 = .ok (.iconst 0, 1) := by decide +kernel
theorem dX12_buy_46 : decode cX12_buy 46 = .ok (.ldc 137, 2) := by decide +kernel
theorem dX12_buy_48 : decode cX12_buy 48 = .ok (.invokestatic 110, 3) := by decide +kernel
theorem dX12_buy_51 : decode cX12_buy 51 = .ok (.ifCond .eq 7, 3) := by decide +kernel
theorem dX12_buy_54 : decode cX12_buy 54 = .ok (.iconst 1, 1) := by decide +kernel
theorem dX12_buy_55 : decode cX12_buy 55 = .ok (.goto 4, 3) := by decide +kernel
theorem dX12_buy_58 : decode cX12_buy 58 = .ok (.iconst 0, 1) := by decide +kernel
theorem dX12_buy_59 : decode cX12_buy 59 = .ok (.istore 7, 2) := by decide +kernel
theorem dX12_buy_61 : decode cX12_buy 61 = .ok (.aload_n 0, 1) := by decide +kernel
theorem dX12_buy_62 : decode cX12_buy 62 = .ok (.iload_n 1, 1) := by decide +kernel
theorem dX12_buy_63 : decode cX12_buy 63 = .ok (.invokestatic 138, 3) := by decide +kernel
theorem dX12_buy_66 : decode cX12_buy 66 = .ok (.ifCond .ne 7, 3) := by decide +kernel
theorem dX12_buy_69 : decode cX12_buy 69 = .ok (.iconst 1, 1) := by decide +kernel
theorem dX12_buy_70 : decode cX12_buy 70 = .ok (.goto 37, 3) := by decide +kernel
theorem dX12_buy_73 : decode cX12_buy 73 = .ok (.iload 7, 2) := by decide +kernel
theorem dX12_buy_75 : decode cX12_buy 75 = .ok (.ifCond .ne 7, 3) := by decide +kernel
theorem dX12_buy_78 : decode cX12_buy 78 = .ok (.iconst 2, 1) := by decide +kernel
theorem dX12_buy_79 : decode cX12_buy 79 = .ok (.goto 28, 3) := by decide +kernel
theorem dX12_buy_82 : decode cX12_buy 82 = .ok (.aload_n 0, 1) := by decide +kernel
theorem dX12_buy_83 : decode cX12_buy 83 = .ok (.getfield 44, 3) := by decide +kernel
theorem dX12_buy_86 : decode cX12_buy 86 = .ok (.iload_n 1, 1) := by decide +kernel
theorem dX12_buy_87 : decode cX12_buy 87 = .ok (.iaload, 1) := by decide +kernel
theorem dX12_buy_88 : decode cX12_buy 88 = .ok (.iload 6, 2) := by decide +kernel
theorem dX12_buy_90 : decode cX12_buy 90 = .ok (.if_icmp .lt 12, 3) := by decide +kernel
theorem dX12_buy_93 : decode cX12_buy 93 = .ok (.aload_n 0, 1) := by decide +kernel
theorem dX12_buy_94 : decode cX12_buy 94 = .ok (.getfield 144, 3) := by decide +kernel
theorem dX12_buy_97 : decode cX12_buy 97 = .ok (.bipush 40, 2) := by decide +kernel
theorem dX12_buy_99 : decode cX12_buy 99 = .ok (.if_icmp .ne 7, 3) := by decide +kernel
theorem dX12_buy_102 : decode cX12_buy 102 = .ok (.iconst 3, 1) := by decide +kernel
theorem dX12_buy_103 : decode cX12_buy 103 = .ok (.goto 4, 3) := by decide +kernel
theorem dX12_buy_106 : decode cX12_buy 106 = .ok (.iconst 0, 1) := by decide +kernel
theorem dX12_buy_107 : decode cX12_buy 107 = .ok (.invokevirtual 127, 3) := by decide +kernel
theorem dX12_buy_110 : decode cX12_buy 110 = .ok (.ifCond .ne 5, 3) := by decide +kernel
theorem dX12_buy_113 : decode cX12_buy 113 = .ok (.iconst 0, 1) := by decide +kernel
theorem dX12_buy_114 : decode cX12_buy 114 = .ok (.ireturn, 1) := by decide +kernel
theorem dX12_buy_115 : decode cX12_buy 115 = .ok (.aload_n 0, 1) := by decide +kernel
theorem dX12_buy_116 : decode cX12_buy 116 = .ok (.getfield 44, 3) := by decide +kernel
theorem dX12_buy_119 : decode cX12_buy 119 = .ok (.iload_n 1, 1) := by decide +kernel
theorem dX12_buy_120 : decode cX12_buy 120 = .ok (.dup2, 1) := by decide +kernel
theorem dX12_buy_121 : decode cX12_buy 121 = .ok (.iaload, 1) := by decide +kernel
theorem dX12_buy_122 : decode cX12_buy 122 = .ok (.iload 6, 2) := by decide +kernel
theorem dX12_buy_124 : decode cX12_buy 124 = .ok (.isub, 1) := by decide +kernel
theorem dX12_buy_125 : decode cX12_buy 125 = .ok (.iastore, 1) := by decide +kernel
theorem dX12_buy_126 : decode cX12_buy 126 = .ok (.aload_n 0, 1) := by decide +kernel
theorem dX12_buy_127 : decode cX12_buy 127 = .ok (.getfield 50, 3) := by decide +kernel
theorem dX12_buy_130 : decode cX12_buy 130 = .ok (.aload_n 0, 1) := by decide +kernel
theorem dX12_buy_131 : decode cX12_buy 131 = .ok (.getfield 144, 3) := by decide +kernel
theorem dX12_buy_134 : decode cX12_buy 134 = .ok (.iload_n 1, 1) := by decide +kernel
theorem dX12_buy_135 : decode cX12_buy 135 = .ok (.iastore, 1) := by decide +kernel
theorem dX12_buy_136 : decode cX12_buy 136 = .ok (.aload_n 0, 1) := by decide +kernel
theorem dX12_buy_137 : decode cX12_buy 137 = .ok (.getfield 53, 3) := by decide +kernel
theorem dX12_buy_140 : decode cX12_buy 140 = .ok (.aload_n 0, 1) := by decide +kernel
theorem dX12_buy_141 : decode cX12_buy 141 = .ok (.getfield 144, 3) := by decide +kernel
theorem dX12_buy_144 : decode cX12_buy 144 = .ok (.iload_n 2, 1) := by decide +kernel
theorem dX12_buy_145 : decode cX12_buy 145 = .ok (.iastore, 1) := by decide +kernel
theorem dX12_buy_146 : decode cX12_buy 146 = .ok (.aload_n 0, 1) := by decide +kernel
theorem dX12_buy_147 : decode cX12_buy 147 = .ok (.getfield 56, 3) := by decide +kernel
theorem dX12_buy_150 : decode cX12_buy 150 = .ok (.aload_n 0, 1) := by decide +kernel
theorem dX12_buy_151 : decode cX12_buy 151 = .ok (.getfield 144, 3) := by decide +kernel
theorem dX12_buy_154 : decode cX12_buy 154 = .ok (.iload_n 3, 1) := by decide +kernel
theorem dX12_buy_155 : decode cX12_buy 155 = .ok (.iastore, 1) := by decide +kernel
theorem dX12_buy_156 : decode cX12_buy 156 = .ok (.aload_n 0, 1) := by decide +kernel
theorem dX12_buy_157 : decode cX12_buy 157 = .ok (.getfield 59, 3) := by decide +kernel
theorem dX12_buy_160 : decode cX12_buy 160 = .ok (.aload_n 0, 1) := by decide +kernel
theorem dX12_buy_161 : decode cX12_buy 161 = .ok (.getfield 144, 3) := by decide +kernel
theorem dX12_buy_164 : decode cX12_buy 164 = .ok (.aload_n 0, 1) := by decide +kernel
theorem dX12_buy_165 : decode cX12_buy 165 = .ok (.invokevirtual 147, 3) := by decide +kernel
theorem dX12_buy_168 : decode cX12_buy 168 = .ok (.iload 4, 2) := by decide +kernel
theorem dX12_buy_170 : decode cX12_buy 170 = .ok (.iadd, 1) := by decide +kernel
theorem dX12_buy_171 : decode cX12_buy 171 = .ok (.iastore, 1) := by decide +kernel
theorem dX12_buy_172 : decode cX12_buy 172 = .ok (.aload_n 0, 1) := by decide +kernel
theorem dX12_buy_173 : decode cX12_buy 173 = .ok (.getfield 62, 3) := by decide +kernel
theorem dX12_buy_176 : decode cX12_buy 176 = .ok (.aload_n 0, 1) := by decide +kernel
theorem dX12_buy_177 : decode cX12_buy 177 = .ok (.getfield 144, 3) := by decide +kernel
theorem dX12_buy_180 : decode cX12_buy 180 = .ok (.iload 5, 2) := by decide +kernel
theorem dX12_buy_182 : decode cX12_buy 182 = .ok (.iastore, 1) := by decide +kernel
theorem dX12_buy_183 : decode cX12_buy 183 = .ok (.aload_n 0, 1) := by decide +kernel
theorem dX12_buy_184 : decode cX12_buy 184 = .ok (.dup, 1) := by decide +kernel
theorem dX12_buy_185 : decode cX12_buy 185 = .ok (.getfield 144, 3) := by decide +kernel
theorem dX12_buy_188 : decode cX12_buy 188 = .ok (.iconst 1, 1) := by decide +kernel
theorem dX12_buy_189 : decode cX12_buy 189 = .ok (.iadd, 1) := by decide +kernel
theorem dX12_buy_190 : decode cX12_buy 190 = .ok (.putfield 144, 3) := by decide +kernel
theorem dX12_buy_193 : decode cX12_buy 193 = .ok (.aload_n 0, 1) := by decide +kernel
theorem dX12_buy_194 : decode cX12_buy 194 = .ok (.getfield 144, 3) := by decide +kernel
theorem dX12_buy_197 : decode cX12_buy 197 = .ok (.iconst 1, 1) := by decide +kernel
theorem dX12_buy_198 : decode cX12_buy 198 = .ok (.isub, 1) := by decide +kernel
theorem dX12_buy_199 : decode cX12_buy 199 = .ok (.ireturn, 1) := by decide +kernel
theorem dX12_free_0 : decode cX12_free 0 = .ok (.aload_n 0, 1) := by decide +kernel
theorem dX12_free_1 : decode cX12_free 1 = .ok (.iload_n 1, 1) := by decide +kernel
theorem dX12_free_2 : decode cX12_free 2 = .ok (.invokestatic 138, 3) := by decide +kernel
theorem dX12_free_5 : decode cX12_free 5 = .ok (.ifCond .eq 7, 3) := by decide +kernel
theorem dX12_free_8 : decode cX12_free 8 = .ok (.iconst 0, 1) := by decide +kernel
theorem dX12_free_9 : decode cX12_free 9 = .ok (.goto 4, 3) := by decide +kernel
theorem dX12_free_12 : decode cX12_free 12 = .ok (.iconst 1, 1) := by decide +kernel
theorem dX12_free_13 : decode cX12_free 13 = .ok (.invokevirtual 127, 3) := by decide +kernel
theorem dX12_free_16 : decode cX12_free 16 = .ok (.ifCond .eq 12, 3) := by decide +kernel
theorem dX12_free_19 : decode cX12_free 19 = .ok (.aload_n 0, 1) := by decide +kernel
theorem dX12_free_20 : decode cX12_free 20 = .ok (.getfield 44, 3) := by decide +kernel
theorem dX12_free_23 : decode cX12_free 23 = .ok (.iload_n 1, 1) := by decide +kernel
theorem dX12_free_24 : decode cX12_free 24 = .ok (.iaload, 1) := by decide +kernel
theorem dX12_free_25 : decode cX12_free 25 = .ok (.goto 4, 3) := by decide +kernel
theorem dX12_free_28 : decode cX12_free 28 = .ok (.iconst 0, 1) := by decide +kernel
theorem dX12_free_29 : decode cX12_free 29 = .ok (.ireturn, 1) := by decide +kernel
theorem dX12_moneyIn_0 : decode cX12_moneyIn 0 = .ok (.aload_n 0, 1) := by decide +kernel
theorem dX12_moneyIn_1 : decode cX12_moneyIn 1 = .ok (.getfield 98, 3) := by decide +kernel
theorem dX12_moneyIn_4 : decode cX12_moneyIn 4 = .ok (.iload_n 1, 1) := by decide +kernel
theorem dX12_moneyIn_5 : decode cX12_moneyIn 5 = .ok (.iaload, 1) := by decide +kernel
theorem dX12_moneyIn_6 : decode cX12_moneyIn 6 = .ok (.iconst (-1), 1) := by decide +kernel
theorem dX12_moneyIn_7 : decode cX12_moneyIn 7 = .ok (.if_icmp .ne 19, 3) := by decide +kernel
theorem dX12_moneyIn_10 : decode cX12_moneyIn 10 = .ok (.aload_n 0, 1) := by decide +kernel
theorem dX12_moneyIn_11 : decode cX12_moneyIn 11 = .ok (.getfield 101, 3) := by decide +kernel
theorem dX12_moneyIn_14 : decode cX12_moneyIn 14 = .ok (.iload_n 1, 1) := by decide +kernel
theorem dX12_moneyIn_15 : decode cX12_moneyIn 15 = .ok (.iaload, 1) := by decide +kernel
theorem dX12_moneyIn_16 : decode cX12_moneyIn 16 = .ok (.aload_n 0, 1) := by decide +kernel
theorem dX12_moneyIn_17 : decode cX12_moneyIn 17 = .ok (.getfield 104, 3) := by decide +kernel
theorem dX12_moneyIn_20 : decode cX12_moneyIn 20 = .ok (.iload_n 1, 1) := by decide +kernel
theorem dX12_moneyIn_21 : decode cX12_moneyIn 21 = .ok (.iaload, 1) := by decide +kernel
theorem dX12_moneyIn_22 : decode cX12_moneyIn 22 = .ok (.imul, 1) := by decide +kernel
theorem dX12_moneyIn_23 : decode cX12_moneyIn 23 = .ok (.goto 4, 3) := by decide +kernel
theorem dX12_moneyIn_26 : decode cX12_moneyIn 26 = .ok (.iconst 0, 1) := by decide +kernel
theorem dX12_moneyIn_27 : decode cX12_moneyIn 27 = .ok (.ireturn, 1) := by decide +kernel
theorem dX12_aside_0 : decode cX12_aside 0 = .ok (.iconst 0, 1) := by decide +kernel
theorem dX12_aside_1 : decode cX12_aside 1 = .ok (.istore_n 2, 1) := by decide +kernel
theorem dX12_aside_2 : decode cX12_aside 2 = .ok (.iconst 0, 1) := by decide +kernel
theorem dX12_aside_3 : decode cX12_aside 3 = .ok (.istore_n 3, 1) := by decide +kernel
theorem dX12_aside_4 : decode cX12_aside 4 = .ok (.iload_n 3, 1) := by decide +kernel
theorem dX12_aside_5 : decode cX12_aside 5 = .ok (.aload_n 0, 1) := by decide +kernel
theorem dX12_aside_6 : decode cX12_aside 6 = .ok (.getfield 117, 3) := by decide +kernel
theorem dX12_aside_9 : decode cX12_aside 9 = .ok (.if_icmp .ge 31, 3) := by decide +kernel
theorem dX12_aside_12 : decode cX12_aside 12 = .ok (.iload_n 2, 1) := by decide +kernel
theorem dX12_aside_13 : decode cX12_aside 13 = .ok (.aload_n 0, 1) := by decide +kernel
theorem dX12_aside_14 : decode cX12_aside 14 = .ok (.getfield 74, 3) := by decide +kernel
theorem dX12_aside_17 : decode cX12_aside 17 = .ok (.iload_n 3, 1) := by decide +kernel
theorem dX12_aside_18 : decode cX12_aside 18 = .ok (.iaload, 1) := by decide +kernel
theorem dX12_aside_19 : decode cX12_aside 19 = .ok (.iload_n 1, 1) := by decide +kernel
theorem dX12_aside_20 : decode cX12_aside 20 = .ok (.if_icmp .ne 11, 3) := by decide +kernel
theorem dX12_aside_23 : decode cX12_aside 23 = .ok (.aload_n 0, 1) := by decide +kernel
theorem dX12_aside_24 : decode cX12_aside 24 = .ok (.iload_n 3, 1) := by decide +kernel
theorem dX12_aside_25 : decode cX12_aside 25 = .ok (.invokevirtual 151, 3) := by decide +kernel
theorem dX12_aside_28 : decode cX12_aside 28 = .ok (.goto 4, 3) := by decide +kernel
theorem dX12_aside_31 : decode cX12_aside 31 = .ok (.iconst 0, 1) := by decide +kernel
theorem dX12_aside_32 : decode cX12_aside 32 = .ok (.iadd, 1) := by decide +kernel
theorem dX12_aside_33 : decode cX12_aside 33 = .ok (.istore_n 2, 1) := by decide +kernel
theorem dX12_aside_34 : decode cX12_aside 34 = .ok (.iinc 3 1, 3) := by decide +kernel
theorem dX12_aside_37 : decode cX12_aside 37 = .ok (.goto (-33), 3) := by decide +kernel
theorem dX12_aside_40 : decode cX12_aside 40 = .ok (.aload_n 0, 1) := by decide +kernel
theorem dX12_aside_41 : decode cX12_aside 41 = .ok (.iload_n 1, 1) := by decide +kernel
theorem dX12_aside_42 : decode cX12_aside 42 = .ok (.invokestatic 138, 3) := by decide +kernel
theorem dX12_aside_45 : decode cX12_aside 45 = .ok (.ifCond .eq 7, 3) := by decide +kernel
theorem dX12_aside_48 : decode cX12_aside 48 = .ok (.iconst 0, 1) := by decide +kernel
theorem dX12_aside_49 : decode cX12_aside 49 = .ok (.goto 4, 3) := by decide +kernel
theorem dX12_aside_52 : decode cX12_aside 52 = .ok (.iconst 1, 1) := by decide +kernel
theorem dX12_aside_53 : decode cX12_aside 53 = .ok (.invokevirtual 127, 3) := by decide +kernel
theorem dX12_aside_56 : decode cX12_aside 56 = .ok (.ifCond .eq 7, 3) := by decide +kernel
theorem dX12_aside_59 : decode cX12_aside 59 = .ok (.iload_n 2, 1) := by decide +kernel
theorem dX12_aside_60 : decode cX12_aside 60 = .ok (.goto 4, 3) := by decide +kernel
theorem dX12_aside_63 : decode cX12_aside 63 = .ok (.iconst 0, 1) := by decide +kernel
theorem dX12_aside_64 : decode cX12_aside 64 = .ok (.ireturn, 1) := by decide +kernel
theorem dX12_spent_0 : decode cX12_spent 0 = .ok (.aload_n 0, 1) := by decide +kernel
theorem dX12_spent_1 : decode cX12_spent 1 = .ok (.iload_n 1, 1) := by decide +kernel
theorem dX12_spent_2 : decode cX12_spent 2 = .ok (.invokestatic 138, 3) := by decide +kernel
theorem dX12_spent_5 : decode cX12_spent 5 = .ok (.ifCond .eq 7, 3) := by decide +kernel
theorem dX12_spent_8 : decode cX12_spent 8 = .ok (.iconst 0, 1) := by decide +kernel
theorem dX12_spent_9 : decode cX12_spent 9 = .ok (.goto 4, 3) := by decide +kernel
theorem dX12_spent_12 : decode cX12_spent 12 = .ok (.iconst 1, 1) := by decide +kernel
theorem dX12_spent_13 : decode cX12_spent 13 = .ok (.invokevirtual 127, 3) := by decide +kernel
theorem dX12_spent_16 : decode cX12_spent 16 = .ok (.ifCond .eq 12, 3) := by decide +kernel
theorem dX12_spent_19 : decode cX12_spent 19 = .ok (.aload_n 0, 1) := by decide +kernel
theorem dX12_spent_20 : decode cX12_spent 20 = .ok (.getfield 47, 3) := by decide +kernel
theorem dX12_spent_23 : decode cX12_spent 23 = .ok (.iload_n 1, 1) := by decide +kernel
theorem dX12_spent_24 : decode cX12_spent 24 = .ok (.iaload, 1) := by decide +kernel
theorem dX12_spent_25 : decode cX12_spent 25 = .ok (.goto 4, 3) := by decide +kernel
theorem dX12_spent_28 : decode cX12_spent 28 = .ok (.iconst 0, 1) := by decide +kernel
theorem dX12_spent_29 : decode cX12_spent 29 = .ok (.ireturn, 1) := by decide +kernel
theorem dX12_isOver_0 : decode cX12_isOver 0 = .ok (.aload_n 0, 1) := by decide +kernel
theorem dX12_isOver_1 : decode cX12_isOver 1 = .ok (.invokevirtual 147, 3) := by decide +kernel
theorem dX12_isOver_4 : decode cX12_isOver 4 = .ok (.aload_n 0, 1) := by decide +kernel
theorem dX12_isOver_5 : decode cX12_isOver 5 = .ok (.getfield 59, 3) := by decide +kernel
theorem dX12_isOver_8 : decode cX12_isOver 8 = .ok (.iload_n 1, 1) := by decide +kernel
theorem dX12_isOver_9 : decode cX12_isOver 9 = .ok (.iaload, 1) := by decide +kernel
theorem dX12_isOver_10 : decode cX12_isOver 10 = .ok (.if_icmp .lt 7, 3) := by decide +kernel
theorem dX12_isOver_13 : decode cX12_isOver 13 = .ok (.iconst 1, 1) := by decide +kernel
theorem dX12_isOver_14 : decode cX12_isOver 14 = .ok (.goto 4, 3) := by decide +kernel
theorem dX12_isOver_17 : decode cX12_isOver 17 = .ok (.iconst 0, 1) := by decide +kernel
theorem dX12_isOver_18 : decode cX12_isOver 18 = .ok (.ireturn, 1) := by decide +kernel
theorem dX12_left_0 : decode cX12_left 0 = .ok (.aload_n 0, 1) := by decide +kernel
theorem dX12_left_1 : decode cX12_left 1 = .ok (.iload_n 1, 1) := by decide +kernel
theorem dX12_left_2 : decode cX12_left 2 = .ok (.iconst 0, 1) := by decide +kernel
theorem dX12_left_3 : decode cX12_left 3 = .ok (.aload_n 0, 1) := by decide +kernel
theorem dX12_left_4 : decode cX12_left 4 = .ok (.getfield 144, 3) := by decide +kernel
theorem dX12_left_7 : decode cX12_left 7 = .ok (.iconst 1, 1) := by decide +kernel
theorem dX12_left_8 : decode cX12_left 8 = .ok (.isub, 1) := by decide +kernel
theorem dX12_left_9 : decode cX12_left 9 = .ok (.invokestatic 110, 3) := by decide +kernel
theorem dX12_left_12 : decode cX12_left 12 = .ok (.ifCond .eq 7, 3) := by decide +kernel
theorem dX12_left_15 : decode cX12_left 15 = .ok (.iconst 0, 1) := by decide +kernel
theorem dX12_left_16 : decode cX12_left 16 = .ok (.goto 4, 3) := by decide +kernel
theorem dX12_left_19 : decode cX12_left 19 = .ok (.iconst 1, 1) := by decide +kernel
theorem dX12_left_20 : decode cX12_left 20 = .ok (.invokevirtual 127, 3) := by decide +kernel
theorem dX12_left_23 : decode cX12_left 23 = .ok (.ifCond .eq 20, 3) := by decide +kernel
theorem dX12_left_26 : decode cX12_left 26 = .ok (.aload_n 0, 1) := by decide +kernel
theorem dX12_left_27 : decode cX12_left 27 = .ok (.iload_n 1, 1) := by decide +kernel
theorem dX12_left_28 : decode cX12_left 28 = .ok (.invokevirtual 154, 3) := by decide +kernel
theorem dX12_left_31 : decode cX12_left 31 = .ok (.ifCond .ne 12, 3) := by decide +kernel
theorem dX12_left_34 : decode cX12_left 34 = .ok (.aload_n 0, 1) := by decide +kernel
theorem dX12_left_35 : decode cX12_left 35 = .ok (.getfield 56, 3) := by decide +kernel
theorem dX12_left_38 : decode cX12_left 38 = .ok (.iload_n 1, 1) := by decide +kernel
theorem dX12_left_39 : decode cX12_left 39 = .ok (.iaload, 1) := by decide +kernel
theorem dX12_left_40 : decode cX12_left 40 = .ok (.goto 4, 3) := by decide +kernel
theorem dX12_left_43 : decode cX12_left 43 = .ok (.iconst 0, 1) := by decide +kernel
theorem dX12_left_44 : decode cX12_left 44 = .ok (.ireturn, 1) := by decide +kernel
theorem dX12_rateNow_0 : decode cX12_rateNow 0 = .ok (.aload_n 0, 1) := by decide +kernel
theorem dX12_rateNow_1 : decode cX12_rateNow 1 = .ok (.getfield 141, 3) := by decide +kernel
theorem dX12_rateNow_4 : decode cX12_rateNow 4 = .ok (.bipush 100, 2) := by decide +kernel
theorem dX12_rateNow_6 : decode cX12_rateNow 6 = .ok (.idiv, 1) := by decide +kernel
theorem dX12_rateNow_7 : decode cX12_rateNow 7 = .ok (.bipush 24, 2) := by decide +kernel
theorem dX12_rateNow_9 : decode cX12_rateNow 9 = .ok (.irem, 1) := by decide +kernel
theorem dX12_rateNow_10 : decode cX12_rateNow 10 = .ok (.bipush 8, 2) := by decide +kernel
theorem dX12_rateNow_12 : decode cX12_rateNow 12 = .ok (.bipush 19, 2) := by decide +kernel
theorem dX12_rateNow_14 : decode cX12_rateNow 14 = .ok (.invokestatic 110, 3) := by decide +kernel
theorem dX12_rateNow_17 : decode cX12_rateNow 17 = .ok (.istore_n 2, 1) := by decide +kernel
theorem dX12_rateNow_18 : decode cX12_rateNow 18 = .ok (.aload_n 0, 1) := by decide +kernel
theorem dX12_rateNow_19 : decode cX12_rateNow 19 = .ok (.getfield 23, 3) := by decide +kernel
theorem dX12_rateNow_22 : decode cX12_rateNow 22 = .ok (.iload_n 2, 1) := by decide +kernel
theorem dX12_rateNow_23 : decode cX12_rateNow 23 = .ok (.ifCond .eq 7, 3) := by decide +kernel
theorem dX12_rateNow_26 : decode cX12_rateNow 26 = .ok (.iconst 3, 1) := by decide +kernel
theorem dX12_rateNow_27 : decode cX12_rateNow 27 = .ok (.goto 4, 3) := by decide +kernel
theorem dX12_rateNow_30 : decode cX12_rateNow 30 = .ok (.iconst 0, 1) := by decide +kernel
theorem dX12_rateNow_31 : decode cX12_rateNow 31 = .ok (.aload_n 0, 1) := by decide +kernel
theorem dX12_rateNow_32 : decode cX12_rateNow 32 = .ok (.getfield 13, 3) := by decide +kernel
theorem dX12_rateNow_35 : decode cX12_rateNow 35 = .ok (.aload_n 0, 1) := by decide +kernel
theorem dX12_rateNow_36 : decode cX12_rateNow 36 = .ok (.getfield 26, 3) := by decide +kernel
theorem dX12_rateNow_39 : decode cX12_rateNow 39 = .ok (.iload_n 1, 1) := by decide +kernel
theorem dX12_rateNow_40 : decode cX12_rateNow 40 = .ok (.iaload, 1) := by decide +kernel
theorem dX12_rateNow_41 : decode cX12_rateNow 41 = .ok (.iaload, 1) := by decide +kernel
theorem dX12_rateNow_42 : decode cX12_rateNow 42 = .ok (.iadd, 1) := by decide +kernel
theorem dX12_rateNow_43 : decode cX12_rateNow 43 = .ok (.iaload, 1) := by decide +kernel
theorem dX12_rateNow_44 : decode cX12_rateNow 44 = .ok (.ireturn, 1) := by decide +kernel
theorem dX12_goesBack_0 : decode cX12_goesBack 0 = .ok (.aload_n 0, 1) := by decide +kernel
theorem dX12_goesBack_1 : decode cX12_goesBack 1 = .ok (.getfield 98, 3) := by decide +kernel
theorem dX12_goesBack_4 : decode cX12_goesBack 4 = .ok (.iload_n 1, 1) := by decide +kernel
theorem dX12_goesBack_5 : decode cX12_goesBack 5 = .ok (.iaload, 1) := by decide +kernel
theorem dX12_goesBack_6 : decode cX12_goesBack 6 = .ok (.istore_n 3, 1) := by decide +kernel
theorem dX12_goesBack_7 : decode cX12_goesBack 7 = .ok (.aload_n 0, 1) := by decide +kernel
theorem dX12_goesBack_8 : decode cX12_goesBack 8 = .ok (.getfield 101, 3) := by decide +kernel
theorem dX12_goesBack_11 : decode cX12_goesBack 11 = .ok (.iload_n 1, 1) := by decide +kernel
theorem dX12_goesBack_12 : decode cX12_goesBack 12 = .ok (.dup2, 1) := by decide +kernel
theorem dX12_goesBack_13 : decode cX12_goesBack 13 = .ok (.iaload, 1) := by decide +kernel
theorem dX12_goesBack_14 : decode cX12_goesBack 14 = .ok (.iload_n 2, 1) := by decide +kernel
theorem dX12_goesBack_15 : decode cX12_goesBack 15 = .ok (.isub, 1) := by decide +kernel
theorem dX12_goesBack_16 : decode cX12_goesBack 16 = .ok (.iastore, 1) := by decide +kernel
theorem dX12_goesBack_17 : decode cX12_goesBack 17 = .ok (.iload_n 3, 1) := by decide +kernel
theorem dX12_goesBack_18 : decode cX12_goesBack 18 = .ok (.iconst (-1), 1) := by decide +kernel
theorem dX12_goesBack_19 : decode cX12_goesBack 19 = .ok (.if_icmp .ne 28, 3) := by decide +kernel
theorem dX12_goesBack_22 : decode cX12_goesBack 22 = .ok (.aload_n 0, 1) := by decide +kernel
theorem dX12_goesBack_23 : decode cX12_goesBack 23 = .ok (.getfield 44, 3) := by decide +kernel
theorem dX12_goesBack_26 : decode cX12_goesBack 26 = .ok (.aload_n 0, 1) := by decide +kernel
theorem dX12_goesBack_27 : decode cX12_goesBack 27 = .ok (.getfield 74, 3) := by decide +kernel
theorem dX12_goesBack_30 : decode cX12_goesBack 30 = .ok (.iload_n 1, 1) := by decide +kernel
theorem dX12_goesBack_31 : decode cX12_goesBack 31 = .ok (.iaload, 1) := by decide +kernel
theorem dX12_goesBack_32 : decode cX12_goesBack 32 = .ok (.dup2, 1) := by decide +kernel
theorem dX12_goesBack_33 : decode cX12_goesBack 33 = .ok (.iaload, 1) := by decide +kernel
theorem dX12_goesBack_34 : decode cX12_goesBack 34 = .ok (.iload_n 2, 1) := by decide +kernel
theorem dX12_goesBack_35 : decode cX12_goesBack 35 = .ok (.aload_n 0, 1) := by decide +kernel
theorem dX12_goesBack_36 : decode cX12_goesBack 36 = .ok (.getfield 104, 3) := by decide +kernel
theorem dX12_goesBack_39 : decode cX12_goesBack 39 = .ok (.iload_n 1, 1) := by decide +kernel
theorem dX12_goesBack_40 : decode cX12_goesBack 40 = .ok (.iaload, 1) := by decide +kernel
theorem dX12_goesBack_41 : decode cX12_goesBack 41 = .ok (.imul, 1) := by decide +kernel
theorem dX12_goesBack_42 : decode cX12_goesBack 42 = .ok (.iadd, 1) := by decide +kernel
theorem dX12_goesBack_43 : decode cX12_goesBack 43 = .ok (.iastore, 1) := by decide +kernel
theorem dX12_goesBack_44 : decode cX12_goesBack 44 = .ok (.goto 17, 3) := by decide +kernel
theorem dX12_goesBack_47 : decode cX12_goesBack 47 = .ok (.iload_n 3, 1) := by decide +kernel
theorem dX12_goesBack_48 : decode cX12_goesBack 48 = .ok (.ifCond .lt 13, 3) := by decide +kernel
theorem dX12_goesBack_51 : decode cX12_goesBack 51 = .ok (.aload_n 0, 1) := by decide +kernel
theorem dX12_goesBack_52 : decode cX12_goesBack 52 = .ok (.getfield 56, 3) := by decide +kernel
theorem dX12_goesBack_55 : decode cX12_goesBack 55 = .ok (.iload_n 3, 1) := by decide +kernel
theorem dX12_goesBack_56 : decode cX12_goesBack 56 = .ok (.dup2, 1) := by decide +kernel
theorem dX12_goesBack_57 : decode cX12_goesBack 57 = .ok (.iaload, 1) := by decide +kernel
theorem dX12_goesBack_58 : decode cX12_goesBack 58 = .ok (.iload_n 2, 1) := by decide +kernel
theorem dX12_goesBack_59 : decode cX12_goesBack 59 = .ok (.iadd, 1) := by decide +kernel
theorem dX12_goesBack_60 : decode cX12_goesBack 60 = .ok (.iastore, 1) := by decide +kernel
theorem dX12_goesBack_61 : decode cX12_goesBack 61 = .ok (.return_, 1) := by decide +kernel
theorem dX12_allGoesBack_0 : decode cX12_allGoesBack 0 = .ok (.aload_n 0, 1) := by decide +kernel
theorem dX12_allGoesBack_1 : decode cX12_allGoesBack 1 = .ok (.iload_n 1, 1) := by decide +kernel
theorem dX12_allGoesBack_2 : decode cX12_allGoesBack 2 = .ok (.aload_n 0, 1) := by decide +kernel
theorem dX12_allGoesBack_3 : decode cX12_allGoesBack 3 = .ok (.getfield 101, 3) := by decide +kernel
theorem dX12_allGoesBack_6 : decode cX12_allGoesBack 6 = .ok (.iload_n 1, 1) := by decide +kernel
theorem dX12_allGoesBack_7 : decode cX12_allGoesBack 7 = .ok (.iaload, 1) := by decide +kernel
theorem dX12_allGoesBack_8 : decode cX12_allGoesBack 8 = .ok (.invokevirtual 157, 3) := by decide +kernel
theorem dX12_allGoesBack_11 : decode cX12_allGoesBack 11 = .ok (.aload_n 0, 1) := by decide +kernel
theorem dX12_allGoesBack_12 : decode cX12_allGoesBack 12 = .ok (.getfield 98, 3) := by decide +kernel
theorem dX12_allGoesBack_15 : decode cX12_allGoesBack 15 = .ok (.iload_n 1, 1) := by decide +kernel
theorem dX12_allGoesBack_16 : decode cX12_allGoesBack 16 = .ok (.bipush (-2), 2) := by decide +kernel
theorem dX12_allGoesBack_18 : decode cX12_allGoesBack 18 = .ok (.iastore, 1) := by decide +kernel
theorem dX12_allGoesBack_19 : decode cX12_allGoesBack 19 = .ok (.return_, 1) := by decide +kernel
theorem dX12_isAhead_0 : decode cX12_isAhead 0 = .ok (.aload_n 0, 1) := by decide +kernel
theorem dX12_isAhead_1 : decode cX12_isAhead 1 = .ok (.getfield 62, 3) := by decide +kernel
theorem dX12_isAhead_4 : decode cX12_isAhead 4 = .ok (.iload_n 1, 1) := by decide +kernel
theorem dX12_isAhead_5 : decode cX12_isAhead 5 = .ok (.iaload, 1) := by decide +kernel
theorem dX12_isAhead_6 : decode cX12_isAhead 6 = .ok (.aload_n 0, 1) := by decide +kernel
theorem dX12_isAhead_7 : decode cX12_isAhead 7 = .ok (.getfield 62, 3) := by decide +kernel
theorem dX12_isAhead_10 : decode cX12_isAhead 10 = .ok (.iload_n 2, 1) := by decide +kernel
theorem dX12_isAhead_11 : decode cX12_isAhead 11 = .ok (.iaload, 1) := by decide +kernel
theorem dX12_isAhead_12 : decode cX12_isAhead 12 = .ok (.if_icmp .eq 24, 3) := by decide +kernel
theorem dX12_isAhead_15 : decode cX12_isAhead 15 = .ok (.aload_n 0, 1) := by decide +kernel
theorem dX12_isAhead_16 : decode cX12_isAhead 16 = .ok (.getfield 62, 3) := by decide +kernel
theorem dX12_isAhead_19 : decode cX12_isAhead 19 = .ok (.iload_n 1, 1) := by decide +kernel
theorem dX12_isAhead_20 : decode cX12_isAhead 20 = .ok (.iaload, 1) := by decide +kernel
theorem dX12_isAhead_21 : decode cX12_isAhead 21 = .ok (.aload_n 0, 1) := by decide +kernel
theorem dX12_isAhead_22 : decode cX12_isAhead 22 = .ok (.getfield 62, 3) := by decide +kernel
theorem dX12_isAhead_25 : decode cX12_isAhead 25 = .ok (.iload_n 2, 1) := by decide +kernel
theorem dX12_isAhead_26 : decode cX12_isAhead 26 = .ok (.iaload, 1) := by decide +kernel
theorem dX12_isAhead_27 : decode cX12_isAhead 27 = .ok (.if_icmp .ge 7, 3) := by decide +kernel
theorem dX12_isAhead_30 : decode cX12_isAhead 30 = .ok (.iconst 1, 1) := by decide +kernel
theorem dX12_isAhead_31 : decode cX12_isAhead 31 = .ok (.goto 4, 3) := by decide +kernel
theorem dX12_isAhead_34 : decode cX12_isAhead 34 = .ok (.iconst 0, 1) := by decide +kernel
theorem dX12_isAhead_35 : decode cX12_isAhead 35 = .ok (.ireturn, 1) := by decide +kernel
theorem dX12_isAhead_36 : decode cX12_isAhead 36 = .ok (.aload_n 0, 1) := by decide +kernel
theorem dX12_isAhead_37 : decode cX12_isAhead 37 = .ok (.getfield 59, 3) := by decide +kernel
theorem dX12_isAhead_40 : decode cX12_isAhead 40 = .ok (.iload_n 1, 1) := by decide +kernel
theorem dX12_isAhead_41 : decode cX12_isAhead 41 = .ok (.iaload, 1) := by decide +kernel
theorem dX12_isAhead_42 : decode cX12_isAhead 42 = .ok (.aload_n 0, 1) := by decide +kernel
theorem dX12_isAhead_43 : decode cX12_isAhead 43 = .ok (.getfield 59, 3) := by decide +kernel
theorem dX12_isAhead_46 : decode cX12_isAhead 46 = .ok (.iload_n 2, 1) := by decide +kernel
theorem dX12_isAhead_47 : decode cX12_isAhead 47 = .ok (.iaload, 1) := by decide +kernel
theorem dX12_isAhead_48 : decode cX12_isAhead 48 = .ok (.if_icmp .ge 7, 3) := by decide +kernel
theorem dX12_isAhead_51 : decode cX12_isAhead 51 = .ok (.iconst 1, 1) := by decide +kernel
theorem dX12_isAhead_52 : decode cX12_isAhead 52 = .ok (.goto 4, 3) := by decide +kernel
theorem dX12_isAhead_55 : decode cX12_isAhead 55 = .ok (.iconst 0, 1) := by decide +kernel
theorem dX12_isAhead_56 : decode cX12_isAhead 56 = .ok (.ireturn, 1) := by decide +kernel
theorem dX12_bundleFor_0 : decode cX12_bundleFor 0 = .ok (.iconst (-1), 1) := by decide +kernel
theorem dX12_bundleFor_1 : decode cX12_bundleFor 1 = .ok (.istore_n 2, 1) := by decide +kernel
theorem dX12_bundleFor_2 : decode cX12_bundleFor 2 = .ok (.aload_n 0, 1) := by decide +kernel
theorem dX12_bundleFor_3 : decode cX12_bundleFor 3 = .ok (.getfield 13, 3) := by decide +kernel
theorem dX12_bundleFor_6 : decode cX12_bundleFor 6 = .ok (.aload_n 0, 1) := by decide +kernel
theorem dX12_bundleFor_7 : decode cX12_bundleFor 7 = .ok (.getfield 26, 3) := by decide +kernel
theorem dX12_bundleFor_10 : decode cX12_bundleFor 10 = .ok (.aload_n 0, 1) := by decide +kernel
theorem dX12_bundleFor_11 : decode cX12_bundleFor 11 = .ok (.getfield 68, 3) := by decide +kernel
theorem dX12_bundleFor_14 : decode cX12_bundleFor 14 = .ok (.iload_n 1, 1) := by decide +kernel
theorem dX12_bundleFor_15 : decode cX12_bundleFor 15 = .ok (.iaload, 1) := by decide +kernel
theorem dX12_bundleFor_16 : decode cX12_bundleFor 16 = .ok (.iaload, 1) := by decide +kernel
theorem dX12_bundleFor_17 : decode cX12_bundleFor 17 = .ok (.iaload, 1) := by decide +kernel
theorem dX12_bundleFor_18 : decode cX12_bundleFor 18 = .ok (.istore_n 3, 1) := by decide +kernel
theorem dX12_bundleFor_19 : decode cX12_bundleFor 19 = .ok (.iconst 0, 1) := by decide +kernel
theorem dX12_bundleFor_20 : decode cX12_bundleFor 20 = .ok (.istore 4, 2) := by decide +kernel
theorem dX12_bundleFor_22 : decode cX12_bundleFor 22 = .ok (.iload 4, 2) := by decide +kernel
theorem dX12_bundleFor_24 : decode cX12_bundleFor 24 = .ok (.aload_n 0, 1) := by decide +kernel
theorem dX12_bundleFor_25 : decode cX12_bundleFor 25 = .ok (.getfield 144, 3) := by decide +kernel
theorem dX12_bundleFor_28 : decode cX12_bundleFor 28 = .ok (.if_icmp .ge 93, 3) := by decide +kernel
theorem dX12_bundleFor_31 : decode cX12_bundleFor 31 = .ok (.aload_n 0, 1) := by decide +kernel
theorem dX12_bundleFor_32 : decode cX12_bundleFor 32 = .ok (.getfield 50, 3) := by decide +kernel
theorem dX12_bundleFor_35 : decode cX12_bundleFor 35 = .ok (.iload 4, 2) := by decide +kernel
theorem dX12_bundleFor_37 : decode cX12_bundleFor 37 = .ok (.iaload, 1) := by decide +kernel
theorem dX12_bundleFor_38 : decode cX12_bundleFor 38 = .ok (.aload_n 0, 1) := by decide +kernel
theorem dX12_bundleFor_39 : decode cX12_bundleFor 39 = .ok (.getfield 74, 3) := by decide +kernel
theorem dX12_bundleFor_42 : decode cX12_bundleFor 42 = .ok (.iload_n 1, 1) := by decide +kernel
theorem dX12_bundleFor_43 : decode cX12_bundleFor 43 = .ok (.iaload, 1) := by decide +kernel
theorem dX12_bundleFor_44 : decode cX12_bundleFor 44 = .ok (.if_icmp .ne 41, 3) := by decide +kernel
theorem dX12_bundleFor_47 : decode cX12_bundleFor 47 = .ok (.aload_n 0, 1) := by decide +kernel
theorem dX12_bundleFor_48 : decode cX12_bundleFor 48 = .ok (.getfield 53, 3) := by decide +kernel
theorem dX12_bundleFor_51 : decode cX12_bundleFor 51 = .ok (.iload 4, 2) := by decide +kernel
theorem dX12_bundleFor_53 : decode cX12_bundleFor 53 = .ok (.iaload, 1) := by decide +kernel
theorem dX12_bundleFor_54 : decode cX12_bundleFor 54 = .ok (.iload_n 3, 1) := by decide +kernel
theorem dX12_bundleFor_55 : decode cX12_bundleFor 55 = .ok (.ishr, 1) := by decide +kernel
theorem dX12_bundleFor_56 : decode cX12_bundleFor 56 = .ok (.iconst 1, 1) := by decide +kernel
theorem dX12_bundleFor_57 : decode cX12_bundleFor 57 = .ok (.iand, 1) := by decide +kernel
theorem dX12_bundleFor_58 : decode cX12_bundleFor 58 = .ok (.iconst 1, 1) := by decide +kernel
theorem dX12_bundleFor_59 : decode cX12_bundleFor 59 = .ok (.if_icmp .ne 26, 3) := by decide +kernel
theorem dX12_bundleFor_62 : decode cX12_bundleFor 62 = .ok (.aload_n 0, 1) := by decide +kernel
theorem dX12_bundleFor_63 : decode cX12_bundleFor 63 = .ok (.iload 4, 2) := by decide +kernel
theorem dX12_bundleFor_65 : decode cX12_bundleFor 65 = .ok (.invokevirtual 154, 3) := by decide +kernel
theorem dX12_bundleFor_68 : decode cX12_bundleFor 68 = .ok (.ifCond .ne 17, 3) := by decide +kernel
theorem dX12_bundleFor_71 : decode cX12_bundleFor 71 = .ok (.aload_n 0, 1) := by decide +kernel
theorem dX12_bundleFor_72 : decode cX12_bundleFor 72 = .ok (.getfield 56, 3) := by decide +kernel
theorem dX12_bundleFor_75 : decode cX12_bundleFor 75 = .ok (.iload 4, 2) := by decide +kernel
theorem dX12_bundleFor_77 : decode cX12_bundleFor 77 = .ok (.iaload, 1) := by decide +kernel
theorem dX12_bundleFor_78 : decode cX12_bundleFor 78 = .ok (.ifCond .le 7, 3) := by decide +kernel
theorem dX12_bundleFor_81 : decode cX12_bundleFor 81 = .ok (.iconst 1, 1) := by decide +kernel
theorem dX12_bundleFor_82 : decode cX12_bundleFor 82 = .ok (.goto 4, 3) := by decide +kernel
theorem dX12_bundleFor_85 : decode cX12_bundleFor 85 = .ok (.iconst 0, 1) := by decide +kernel
theorem dX12_bundleFor_86 : decode cX12_bundleFor 86 = .ok (.istore 5, 2) := by decide +kernel
theorem dX12_bundleFor_88 : decode cX12_bundleFor 88 = .ok (.iload 5, 2) := by decide +kernel
theorem dX12_bundleFor_90 : decode cX12_bundleFor 90 = .ok (.ifCond .eq 23, 3) := by decide +kernel
theorem dX12_bundleFor_93 : decode cX12_bundleFor 93 = .ok (.iload_n 2, 1) := by decide +kernel
theorem dX12_bundleFor_94 : decode cX12_bundleFor 94 = .ok (.iconst (-1), 1) := by decide +kernel
theorem dX12_bundleFor_95 : decode cX12_bundleFor 95 = .ok (.if_icmp .eq 13, 3) := by decide +kernel
theorem dX12_bundleFor_98 : decode cX12_bundleFor 98 = .ok (.aload_n 0, 1) := by decide +kernel
theorem dX12_bundleFor_99 : decode cX12_bundleFor 99 = .ok (.iload 4, 2) := by decide +kernel
theorem dX12_bundleFor_101 : decode cX12_bundleFor 101 = .ok (.iload_n 2, 1) := by decide +kernel
theorem dX12_bundleFor_102 : decode cX12_bundleFor 102 = .ok (.invokevirtual 161, 3) := by decide +kernel
theorem dX12_bundleFor_105 : decode cX12_bundleFor 105 = .ok (.ifCond .eq 8, 3) := by decide +kernel
theorem dX12_bundleFor_108 : decode cX12_bundleFor 108 = .ok (.iload 4, 2) := by decide +kernel
theorem dX12_bundleFor_110 : decode cX12_bundleFor 110 = .ok (.goto 4, 3) := by decide +kernel
theorem dX12_bundleFor_113 : decode cX12_bundleFor 113 = .ok (.iload_n 2, 1) := by decide +kernel
theorem dX12_bundleFor_114 : decode cX12_bundleFor 114 = .ok (.istore_n 2, 1) := by decide +kernel
theorem dX12_bundleFor_115 : decode cX12_bundleFor 115 = .ok (.iinc 4 1, 3) := by decide +kernel
theorem dX12_bundleFor_118 : decode cX12_bundleFor 118 = .ok (.goto (-96), 3) := by decide +kernel
theorem dX12_bundleFor_121 : decode cX12_bundleFor 121 = .ok (.iload_n 2, 1) := by decide +kernel
theorem dX12_bundleFor_122 : decode cX12_bundleFor 122 = .ok (.ireturn, 1) := by decide +kernel
theorem dX12_costToday_0 : decode cX12_costToday 0 = .ok (.aload_n 0, 1) := by decide +kernel
theorem dX12_costToday_1 : decode cX12_costToday 1 = .ok (.getfield 41, 3) := by decide +kernel
theorem dX12_costToday_4 : decode cX12_costToday 4 = .ok (.iload_n 1, 1) := by decide +kernel
theorem dX12_costToday_5 : decode cX12_costToday 5 = .ok (.iaload, 1) := by decide +kernel
theorem dX12_costToday_6 : decode cX12_costToday 6 = .ok (.aload_n 0, 1) := by decide +kernel
theorem dX12_costToday_7 : decode cX12_costToday 7 = .ok (.invokevirtual 147, 3) := by decide +kernel
theorem dX12_costToday_10 : decode cX12_costToday 10 = .ok (.if_icmp .ne 12, 3) := by decide +kernel
theorem dX12_costToday_13 : decode cX12_costToday 13 = .ok (.aload_n 0, 1) := by decide +kernel
theorem dX12_costToday_14 : decode cX12_costToday 14 = .ok (.getfield 38, 3) := by decide +kernel
theorem dX12_costToday_17 : decode cX12_costToday 17 = .ok (.iload_n 1, 1) := by decide +kernel
theorem dX12_costToday_18 : decode cX12_costToday 18 = .ok (.iaload, 1) := by decide +kernel
theorem dX12_costToday_19 : decode cX12_costToday 19 = .ok (.goto 4, 3) := by decide +kernel
theorem dX12_costToday_22 : decode cX12_costToday 22 = .ok (.iconst 0, 1) := by decide +kernel
theorem dX12_costToday_23 : decode cX12_costToday 23 = .ok (.ireturn, 1) := by decide +kernel
theorem dX12_lets_0 : decode cX12_lets 0 = .ok (.aload_n 0, 1) := by decide +kernel
theorem dX12_lets_1 : decode cX12_lets 1 = .ok (.getfield 32, 3) := by decide +kernel
theorem dX12_lets_4 : decode cX12_lets 4 = .ok (.iload_n 1, 1) := by decide +kernel
theorem dX12_lets_5 : decode cX12_lets 5 = .ok (.iaload, 1) := by decide +kernel
theorem dX12_lets_6 : decode cX12_lets 6 = .ok (.iconst (-1), 1) := by decide +kernel
theorem dX12_lets_7 : decode cX12_lets 7 = .ok (.if_icmp .ne 8, 3) := by decide +kernel
theorem dX12_lets_10 : decode cX12_lets 10 = .ok (.aload_n 0, 1) := by decide +kernel
theorem dX12_lets_11 : decode cX12_lets 11 = .ok (.getfield 7, 3) := by decide +kernel
theorem dX12_lets_14 : decode cX12_lets 14 = .ok (.ireturn, 1) := by decide +kernel
theorem dX12_lets_15 : decode cX12_lets 15 = .ok (.aload_n 0, 1) := by decide +kernel
theorem dX12_lets_16 : decode cX12_lets 16 = .ok (.getfield 32, 3) := by decide +kernel
theorem dX12_lets_19 : decode cX12_lets 19 = .ok (.iload_n 1, 1) := by decide +kernel
theorem dX12_lets_20 : decode cX12_lets 20 = .ok (.iaload, 1) := by decide +kernel
theorem dX12_lets_21 : decode cX12_lets 21 = .ok (.aload_n 0, 1) := by decide +kernel
theorem dX12_lets_22 : decode cX12_lets 22 = .ok (.iload_n 1, 1) := by decide +kernel
theorem dX12_lets_23 : decode cX12_lets 23 = .ok (.invokevirtual 165, 3) := by decide +kernel
theorem dX12_lets_26 : decode cX12_lets 26 = .ok (.isub, 1) := by decide +kernel
theorem dX12_lets_27 : decode cX12_lets 27 = .ok (.istore_n 3, 1) := by decide +kernel
theorem dX12_lets_28 : decode cX12_lets 28 = .ok (.iload_n 3, 1) := by decide +kernel
theorem dX12_lets_29 : decode cX12_lets 29 = .ok (.ifCond .ge 7, 3) := by decide +kernel
theorem dX12_lets_32 : decode cX12_lets 32 = .ok (.iconst 0, 1) := by decide +kernel
theorem dX12_lets_33 : decode cX12_lets 33 = .ok (.goto 6, 3) := by decide +kernel
theorem dX12_lets_36 : decode cX12_lets 36 = .ok (.iload_n 3, 1) := by decide +kernel
theorem dX12_lets_37 : decode cX12_lets 37 = .ok (.iload_n 2, 1) := by decide +kernel
theorem dX12_lets_38 : decode cX12_lets 38 = .ok (.idiv, 1) := by decide +kernel
theorem dX12_lets_39 : decode cX12_lets 39 = .ok (.ireturn, 1) := by decide +kernel
theorem dX12_giverTo_0 : decode cX12_giverTo 0 = .ok (.iconst (-1), 1) := by decide +kernel
theorem dX12_giverTo_1 : decode cX12_giverTo 1 = .ok (.istore_n 2, 1) := by decide +kernel
theorem dX12_giverTo_2 : decode cX12_giverTo 2 = .ok (.iconst 0, 1) := by decide +kernel
theorem dX12_giverTo_3 : decode cX12_giverTo 3 = .ok (.istore_n 3, 1) := by decide +kernel
theorem dX12_giverTo_4 : decode cX12_giverTo 4 = .ok (.iload_n 3, 1) := by decide +kernel
theorem dX12_giverTo_5 : decode cX12_giverTo 5 = .ok (.bipush 10, 2) := by decide +kernel
theorem dX12_giverTo_7 : decode cX12_giverTo 7 = .ok (.if_icmp .ge 115, 3) := by decide +kernel
theorem dX12_giverTo_10 : decode cX12_giverTo 10 = .ok (.aload_n 0, 1) := by decide +kernel
theorem dX12_giverTo_11 : decode cX12_giverTo 11 = .ok (.getfield 35, 3) := by decide +kernel
theorem dX12_giverTo_14 : decode cX12_giverTo 14 = .ok (.iload_n 3, 1) := by decide +kernel
theorem dX12_giverTo_15 : decode cX12_giverTo 15 = .ok (.iaload, 1) := by decide +kernel
theorem dX12_giverTo_16 : decode cX12_giverTo 16 = .ok (.istore 4, 2) := by decide +kernel
theorem dX12_giverTo_18 : decode cX12_giverTo 18 = .ok (.iload 4, 2) := by decide +kernel
theorem dX12_giverTo_20 : decode cX12_giverTo 20 = .ok (.iconst (-1), 1) := by decide +kernel
theorem dX12_giverTo_21 : decode cX12_giverTo 21 = .ok (.if_icmp .eq 61, 3) := by decide +kernel
theorem dX12_giverTo_24 : decode cX12_giverTo 24 = .ok (.iload 4, 2) := by decide +kernel
theorem dX12_giverTo_26 : decode cX12_giverTo 26 = .ok (.iload_n 1, 1) := by decide +kernel
theorem dX12_giverTo_27 : decode cX12_giverTo 27 = .ok (.if_icmp .eq 55, 3) := by decide +kernel
theorem dX12_giverTo_30 : decode cX12_giverTo 30 = .ok (.aload_n 0, 1) := by decide +kernel
theorem dX12_giverTo_31 : decode cX12_giverTo 31 = .ok (.getfield 74, 3) := by decide +kernel
theorem dX12_giverTo_34 : decode cX12_giverTo 34 = .ok (.iload 4, 2) := by decide +kernel
theorem dX12_giverTo_36 : decode cX12_giverTo 36 = .ok (.iaload, 1) := by decide +kernel
theorem dX12_giverTo_37 : decode cX12_giverTo 37 = .ok (.aload_n 0, 1) := by decide +kernel
theorem dX12_giverTo_38 : decode cX12_giverTo 38 = .ok (.getfield 74, 3) := by decide +kernel
theorem dX12_giverTo_41 : decode cX12_giverTo 41 = .ok (.iload_n 1, 1) := by decide +kernel
theorem dX12_giverTo_42 : decode cX12_giverTo 42 = .ok (.iaload, 1) := by decide +kernel
theorem dX12_giverTo_43 : decode cX12_giverTo 43 = .ok (.if_icmp .ne 39, 3) := by decide +kernel
theorem dX12_giverTo_46 : decode cX12_giverTo 46 = .ok (.aload_n 0, 1) := by decide +kernel
theorem dX12_giverTo_47 : decode cX12_giverTo 47 = .ok (.getfield 98, 3) := by decide +kernel
theorem dX12_giverTo_50 : decode cX12_giverTo 50 = .ok (.iload 4, 2) := by decide +kernel
theorem dX12_giverTo_52 : decode cX12_giverTo 52 = .ok (.iaload, 1) := by decide +kernel
theorem dX12_giverTo_53 : decode cX12_giverTo 53 = .ok (.iconst (-1), 1) := by decide +kernel
theorem dX12_giverTo_54 : decode cX12_giverTo 54 = .ok (.if_icmp .ne 28, 3) := by decide +kernel
theorem dX12_giverTo_57 : decode cX12_giverTo 57 = .ok (.aload_n 0, 1) := by decide +kernel
theorem dX12_giverTo_58 : decode cX12_giverTo 58 = .ok (.getfield 104, 3) := by decide +kernel
theorem dX12_giverTo_61 : decode cX12_giverTo 61 = .ok (.iload 4, 2) := by decide +kernel
theorem dX12_giverTo_63 : decode cX12_giverTo 63 = .ok (.iaload, 1) := by decide +kernel
theorem dX12_giverTo_64 : decode cX12_giverTo 64 = .ok (.ifCond .le 18, 3) := by decide +kernel
theorem dX12_giverTo_67 : decode cX12_giverTo 67 = .ok (.aload_n 0, 1) := by decide +kernel
theorem dX12_giverTo_68 : decode cX12_giverTo 68 = .ok (.getfield 101, 3) := by decide +kernel
theorem dX12_giverTo_71 : decode cX12_giverTo 71 = .ok (.iload 4, 2) := by decide +kernel
theorem dX12_giverTo_73 : decode cX12_giverTo 73 = .ok (.iaload, 1) := by decide +kernel
theorem dX12_giverTo_74 : decode cX12_giverTo 74 = .ok (.iconst 2, 1) := by decide +kernel
theorem dX12_giverTo_75 : decode cX12_giverTo 75 = .ok (.if_icmp .lt 7, 3) := by decide +kernel
theorem dX12_giverTo_78 : decode cX12_giverTo 78 = .ok (.iconst 1, 1) := by decide +kernel
theorem dX12_giverTo_79 : decode cX12_giverTo 79 = .ok (.goto 4, 3) := by decide +kernel
theorem dX12_giverTo_82 : decode cX12_giverTo 82 = .ok (.iconst 0, 1) := by decide +kernel
theorem dX12_giverTo_83 : decode cX12_giverTo 83 = .ok (.istore 5, 2) := by decide +kernel
theorem dX12_giverTo_85 : decode cX12_giverTo 85 = .ok (.iload 5, 2) := by decide +kernel
theorem dX12_giverTo_87 : decode cX12_giverTo 87 = .ok (.ifCond .eq 27, 3) := by decide +kernel
theorem dX12_giverTo_90 : decode cX12_giverTo 90 = .ok (.iload_n 2, 1) := by decide +kernel
theorem dX12_giverTo_91 : decode cX12_giverTo 91 = .ok (.iconst (-1), 1) := by decide +kernel
theorem dX12_giverTo_92 : decode cX12_giverTo 92 = .ok (.if_icmp .eq 17, 3) := by decide +kernel
theorem dX12_giverTo_95 : decode cX12_giverTo 95 = .ok (.aload_n 0, 1) := by decide +kernel
theorem dX12_giverTo_96 : decode cX12_giverTo 96 = .ok (.iload 4, 2) := by decide +kernel
theorem dX12_giverTo_98 : decode cX12_giverTo 98 = .ok (.invokevirtual 151, 3) := by decide +kernel
theorem dX12_giverTo_101 : decode cX12_giverTo 101 = .ok (.aload_n 0, 1) := by decide +kernel
theorem dX12_giverTo_102 : decode cX12_giverTo 102 = .ok (.iload_n 2, 1) := by decide +kernel
theorem dX12_giverTo_103 : decode cX12_giverTo 103 = .ok (.invokevirtual 151, 3) := by decide +kernel
theorem dX12_giverTo_106 : decode cX12_giverTo 106 = .ok (.if_icmp .le 8, 3) := by decide +kernel
theorem dX12_giverTo_109 : decode cX12_giverTo 109 = .ok (.iload 4, 2) := by decide +kernel
theorem dX12_giverTo_111 : decode cX12_giverTo 111 = .ok (.goto 4, 3) := by decide +kernel
theorem dX12_giverTo_114 : decode cX12_giverTo 114 = .ok (.iload_n 2, 1) := by decide +kernel
theorem dX12_giverTo_115 : decode cX12_giverTo 115 = .ok (.istore_n 2, 1) := by decide +kernel
theorem dX12_giverTo_116 : decode cX12_giverTo 116 = .ok (.iinc 3 1, 3) := by decide +kernel
theorem dX12_giverTo_119 : decode cX12_giverTo 119 = .ok (.goto (-115), 3) := by decide +kernel
theorem dX12_giverTo_122 : decode cX12_giverTo 122 = .ok (.iload_n 2, 1) := by decide +kernel
theorem dX12_giverTo_123 : decode cX12_giverTo 123 = .ok (.ireturn, 1) := by decide +kernel
theorem dX12_moneyFor_0 : decode cX12_moneyFor 0 = .ok (.aload_n 0, 1) := by decide +kernel
theorem dX12_moneyFor_1 : decode cX12_moneyFor 1 = .ok (.aload_n 0, 1) := by decide +kernel
theorem dX12_moneyFor_2 : decode cX12_moneyFor 2 = .ok (.getfield 68, 3) := by decide +kernel
theorem dX12_moneyFor_5 : decode cX12_moneyFor 5 = .ok (.iload_n 1, 1) := by decide +kernel
theorem dX12_moneyFor_6 : decode cX12_moneyFor 6 = .ok (.iaload, 1) := by decide +kernel
theorem dX12_moneyFor_7 : decode cX12_moneyFor 7 = .ok (.invokevirtual 168, 3) := by decide +kernel
theorem dX12_moneyFor_10 : decode cX12_moneyFor 10 = .ok (.istore_n 2, 1) := by decide +kernel
theorem dX12_moneyFor_11 : decode cX12_moneyFor 11 = .ok (.iload_n 2, 1) := by decide +kernel
theorem dX12_moneyFor_12 : decode cX12_moneyFor 12 = .ok (.ifCond .ne 8, 3) := by decide +kernel
theorem dX12_moneyFor_15 : decode cX12_moneyFor 15 = .ok (.aload_n 0, 1) := by decide +kernel
theorem dX12_moneyFor_16 : decode cX12_moneyFor 16 = .ok (.getfield 7, 3) := by decide +kernel
theorem dX12_moneyFor_19 : decode cX12_moneyFor 19 = .ok (.ireturn, 1) := by decide +kernel
theorem dX12_moneyFor_20 : decode cX12_moneyFor 20 = .ok (.aload_n 0, 1) := by decide +kernel
theorem dX12_moneyFor_21 : decode cX12_moneyFor 21 = .ok (.aload_n 0, 1) := by decide +kernel
theorem dX12_moneyFor_22 : decode cX12_moneyFor 22 = .ok (.getfield 68, 3) := by decide +kernel
theorem dX12_moneyFor_25 : decode cX12_moneyFor 25 = .ok (.iload_n 1, 1) := by decide +kernel
theorem dX12_moneyFor_26 : decode cX12_moneyFor 26 = .ok (.iaload, 1) := by decide +kernel
theorem dX12_moneyFor_27 : decode cX12_moneyFor 27 = .ok (.iload_n 2, 1) := by decide +kernel
theorem dX12_moneyFor_28 : decode cX12_moneyFor 28 = .ok (.invokevirtual 171, 3) := by decide +kernel
theorem dX12_moneyFor_31 : decode cX12_moneyFor 31 = .ok (.istore_n 3, 1) := by decide +kernel
theorem dX12_moneyFor_32 : decode cX12_moneyFor 32 = .ok (.iload_n 3, 1) := by decide +kernel
theorem dX12_moneyFor_33 : decode cX12_moneyFor 33 = .ok (.ifCond .le 26, 3) := by decide +kernel
theorem dX12_moneyFor_36 : decode cX12_moneyFor 36 = .ok (.aload_n 0, 1) := by decide +kernel
theorem dX12_moneyFor_37 : decode cX12_moneyFor 37 = .ok (.getfield 44, 3) := by decide +kernel
theorem dX12_moneyFor_40 : decode cX12_moneyFor 40 = .ok (.aload_n 0, 1) := by decide +kernel
theorem dX12_moneyFor_41 : decode cX12_moneyFor 41 = .ok (.getfield 74, 3) := by decide +kernel
theorem dX12_moneyFor_44 : decode cX12_moneyFor 44 = .ok (.iload_n 1, 1) := by decide +kernel
theorem dX12_moneyFor_45 : decode cX12_moneyFor 45 = .ok (.iaload, 1) := by decide +kernel
theorem dX12_moneyFor_46 : decode cX12_moneyFor 46 = .ok (.iaload, 1) := by decide +kernel
theorem dX12_moneyFor_47 : decode cX12_moneyFor 47 = .ok (.iload_n 2, 1) := by decide +kernel
theorem dX12_moneyFor_48 : decode cX12_moneyFor 48 = .ok (.if_icmp .ge 11, 3) := by decide +kernel
theorem dX12_moneyFor_51 : decode cX12_moneyFor 51 = .ok (.aload_n 0, 1) := by decide +kernel
theorem dX12_moneyFor_52 : decode cX12_moneyFor 52 = .ok (.iload_n 1, 1) := by decide +kernel
theorem dX12_moneyFor_53 : decode cX12_moneyFor 53 = .ok (.invokevirtual 175, 3) := by decide +kernel
theorem dX12_moneyFor_56 : decode cX12_moneyFor 56 = .ok (.goto 4, 3) := by decide +kernel
theorem dX12_moneyFor_59 : decode cX12_moneyFor 59 = .ok (.iconst (-1), 1) := by decide +kernel
theorem dX12_moneyFor_60 : decode cX12_moneyFor 60 = .ok (.istore 4, 2) := by decide +kernel
theorem dX12_moneyFor_62 : decode cX12_moneyFor 62 = .ok (.iload 4, 2) := by decide +kernel
theorem dX12_moneyFor_64 : decode cX12_moneyFor 64 = .ok (.iconst (-1), 1) := by decide +kernel
theorem dX12_moneyFor_65 : decode cX12_moneyFor 65 = .ok (.if_icmp .eq 47, 3) := by decide +kernel
theorem dX12_moneyFor_68 : decode cX12_moneyFor 68 = .ok (.aload_n 0, 1) := by decide +kernel
theorem dX12_moneyFor_69 : decode cX12_moneyFor 69 = .ok (.iload 4, 2) := by decide +kernel
theorem dX12_moneyFor_71 : decode cX12_moneyFor 71 = .ok (.aload_n 0, 1) := by decide +kernel
theorem dX12_moneyFor_72 : decode cX12_moneyFor 72 = .ok (.getfield 101, 3) := by decide +kernel
theorem dX12_moneyFor_75 : decode cX12_moneyFor 75 = .ok (.iload 4, 2) := by decide +kernel
theorem dX12_moneyFor_77 : decode cX12_moneyFor 77 = .ok (.iaload, 1) := by decide +kernel
theorem dX12_moneyFor_78 : decode cX12_moneyFor 78 = .ok (.iconst 2, 1) := by decide +kernel
theorem dX12_moneyFor_79 : decode cX12_moneyFor 79 = .ok (.idiv, 1) := by decide +kernel
theorem dX12_moneyFor_80 : decode cX12_moneyFor 80 = .ok (.invokevirtual 157, 3) := by decide +kernel
theorem dX12_moneyFor_83 : decode cX12_moneyFor 83 = .ok (.aload_n 0, 1) := by decide +kernel
theorem dX12_moneyFor_84 : decode cX12_moneyFor 84 = .ok (.getfield 44, 3) := by decide +kernel
theorem dX12_moneyFor_87 : decode cX12_moneyFor 87 = .ok (.aload_n 0, 1) := by decide +kernel
theorem dX12_moneyFor_88 : decode cX12_moneyFor 88 = .ok (.getfield 74, 3) := by decide +kernel
theorem dX12_moneyFor_91 : decode cX12_moneyFor 91 = .ok (.iload_n 1, 1) := by decide +kernel
theorem dX12_moneyFor_92 : decode cX12_moneyFor 92 = .ok (.iaload, 1) := by decide +kernel
theorem dX12_moneyFor_93 : decode cX12_moneyFor 93 = .ok (.iaload, 1) := by decide +kernel
theorem dX12_moneyFor_94 : decode cX12_moneyFor 94 = .ok (.iload_n 2, 1) := by decide +kernel
theorem dX12_moneyFor_95 : decode cX12_moneyFor 95 = .ok (.if_icmp .ge 11, 3) := by decide +kernel
theorem dX12_moneyFor_98 : decode cX12_moneyFor 98 = .ok (.aload_n 0, 1) := by decide +kernel
theorem dX12_moneyFor_99 : decode cX12_moneyFor 99 = .ok (.iload_n 1, 1) := by decide +kernel
theorem dX12_moneyFor_100 : decode cX12_moneyFor 100 = .ok (.invokevirtual 175, 3) := by decide +kernel
theorem dX12_moneyFor_103 : decode cX12_moneyFor 103 = .ok (.goto 4, 3) := by decide +kernel
theorem dX12_moneyFor_106 : decode cX12_moneyFor 106 = .ok (.iconst (-1), 1) := by decide +kernel
theorem dX12_moneyFor_107 : decode cX12_moneyFor 107 = .ok (.istore 4, 2) := by decide +kernel
theorem dX12_moneyFor_109 : decode cX12_moneyFor 109 = .ok (.goto (-47), 3) := by decide +kernel
theorem dX12_moneyFor_112 : decode cX12_moneyFor 112 = .ok (.aload_n 0, 1) := by decide +kernel
theorem dX12_moneyFor_113 : decode cX12_moneyFor 113 = .ok (.getfield 44, 3) := by decide +kernel
theorem dX12_moneyFor_116 : decode cX12_moneyFor 116 = .ok (.aload_n 0, 1) := by decide +kernel
theorem dX12_moneyFor_117 : decode cX12_moneyFor 117 = .ok (.getfield 74, 3) := by decide +kernel
theorem dX12_moneyFor_120 : decode cX12_moneyFor 120 = .ok (.iload_n 1, 1) := by decide +kernel
theorem dX12_moneyFor_121 : decode cX12_moneyFor 121 = .ok (.iaload, 1) := by decide +kernel
theorem dX12_moneyFor_122 : decode cX12_moneyFor 122 = .ok (.iaload, 1) := by decide +kernel
theorem dX12_moneyFor_123 : decode cX12_moneyFor 123 = .ok (.iload_n 2, 1) := by decide +kernel
theorem dX12_moneyFor_124 : decode cX12_moneyFor 124 = .ok (.idiv, 1) := by decide +kernel
theorem dX12_moneyFor_125 : decode cX12_moneyFor 125 = .ok (.istore 5, 2) := by decide +kernel
theorem dX12_moneyFor_127 : decode cX12_moneyFor 127 = .ok (.iload 5, 2) := by decide +kernel
theorem dX12_moneyFor_129 : decode cX12_moneyFor 129 = .ok (.aload_n 0, 1) := by decide +kernel
theorem dX12_moneyFor_130 : decode cX12_moneyFor 130 = .ok (.getfield 7, 3) := by decide +kernel
theorem dX12_moneyFor_133 : decode cX12_moneyFor 133 = .ok (.if_icmp .ge 8, 3) := by decide +kernel
theorem dX12_moneyFor_136 : decode cX12_moneyFor 136 = .ok (.iload 5, 2) := by decide +kernel
theorem dX12_moneyFor_138 : decode cX12_moneyFor 138 = .ok (.goto 7, 3) := by decide +kernel
theorem dX12_moneyFor_141 : decode cX12_moneyFor 141 = .ok (.aload_n 0, 1) := by decide +kernel
theorem dX12_moneyFor_142 : decode cX12_moneyFor 142 = .ok (.getfield 7, 3) := by decide +kernel
theorem dX12_moneyFor_145 : decode cX12_moneyFor 145 = .ok (.istore 6, 2) := by decide +kernel
theorem dX12_moneyFor_147 : decode cX12_moneyFor 147 = .ok (.iload_n 3, 1) := by decide +kernel
theorem dX12_moneyFor_148 : decode cX12_moneyFor 148 = .ok (.iload 6, 2) := by decide +kernel
theorem dX12_moneyFor_150 : decode cX12_moneyFor 150 = .ok (.if_icmp .ge 7, 3) := by decide +kernel
theorem dX12_moneyFor_153 : decode cX12_moneyFor 153 = .ok (.iload_n 3, 1) := by decide +kernel
theorem dX12_moneyFor_154 : decode cX12_moneyFor 154 = .ok (.goto 5, 3) := by decide +kernel
theorem dX12_moneyFor_157 : decode cX12_moneyFor 157 = .ok (.iload 6, 2) := by decide +kernel
theorem dX12_moneyFor_159 : decode cX12_moneyFor 159 = .ok (.istore 6, 2) := by decide +kernel
theorem dX12_moneyFor_161 : decode cX12_moneyFor 161 = .ok (.aload_n 0, 1) := by decide +kernel
theorem dX12_moneyFor_162 : decode cX12_moneyFor 162 = .ok (.getfield 44, 3) := by decide +kernel
theorem dX12_moneyFor_165 : decode cX12_moneyFor 165 = .ok (.aload_n 0, 1) := by decide +kernel
theorem dX12_moneyFor_166 : decode cX12_moneyFor 166 = .ok (.getfield 74, 3) := by decide +kernel
theorem dX12_moneyFor_169 : decode cX12_moneyFor 169 = .ok (.iload_n 1, 1) := by decide +kernel
theorem dX12_moneyFor_170 : decode cX12_moneyFor 170 = .ok (.iaload, 1) := by decide +kernel
theorem dX12_moneyFor_171 : decode cX12_moneyFor 171 = .ok (.dup2, 1) := by decide +kernel
theorem dX12_moneyFor_172 : decode cX12_moneyFor 172 = .ok (.iaload, 1) := by decide +kernel
theorem dX12_moneyFor_173 : decode cX12_moneyFor 173 = .ok (.iload 6, 2) := by decide +kernel
theorem dX12_moneyFor_175 : decode cX12_moneyFor 175 = .ok (.iload_n 2, 1) := by decide +kernel
theorem dX12_moneyFor_176 : decode cX12_moneyFor 176 = .ok (.imul, 1) := by decide +kernel
theorem dX12_moneyFor_177 : decode cX12_moneyFor 177 = .ok (.isub, 1) := by decide +kernel
theorem dX12_moneyFor_178 : decode cX12_moneyFor 178 = .ok (.iastore, 1) := by decide +kernel
theorem dX12_moneyFor_179 : decode cX12_moneyFor 179 = .ok (.iload 6, 2) := by decide +kernel
theorem dX12_moneyFor_181 : decode cX12_moneyFor 181 = .ok (.ireturn, 1) := by decide +kernel
theorem dX12_getsSlice_0 : decode cX12_getsSlice 0 = .ok (.aload_n 0, 1) := by decide +kernel
theorem dX12_getsSlice_1 : decode cX12_getsSlice 1 = .ok (.iload_n 1, 1) := by decide +kernel
theorem dX12_getsSlice_2 : decode cX12_getsSlice 2 = .ok (.invokevirtual 178, 3) := by decide +kernel
theorem dX12_getsSlice_5 : decode cX12_getsSlice 5 = .ok (.istore_n 2, 1) := by decide +kernel
theorem dX12_getsSlice_6 : decode cX12_getsSlice 6 = .ok (.iload_n 2, 1) := by decide +kernel
theorem dX12_getsSlice_7 : decode cX12_getsSlice 7 = .ok (.iconst (-1), 1) := by decide +kernel
theorem dX12_getsSlice_8 : decode cX12_getsSlice 8 = .ok (.if_icmp .eq 55, 3) := by decide +kernel
theorem dX12_getsSlice_11 : decode cX12_getsSlice 11 = .ok (.aload_n 0, 1) := by decide +kernel
theorem dX12_getsSlice_12 : decode cX12_getsSlice 12 = .ok (.getfield 56, 3) := by decide +kernel
theorem dX12_getsSlice_15 : decode cX12_getsSlice 15 = .ok (.iload_n 2, 1) := by decide +kernel
theorem dX12_getsSlice_16 : decode cX12_getsSlice 16 = .ok (.iaload, 1) := by decide +kernel
theorem dX12_getsSlice_17 : decode cX12_getsSlice 17 = .ok (.aload_n 0, 1) := by decide +kernel
theorem dX12_getsSlice_18 : decode cX12_getsSlice 18 = .ok (.getfield 7, 3) := by decide +kernel
theorem dX12_getsSlice_21 : decode cX12_getsSlice 21 = .ok (.if_icmp .ge 12, 3) := by decide +kernel
theorem dX12_getsSlice_24 : decode cX12_getsSlice 24 = .ok (.aload_n 0, 1) := by decide +kernel
theorem dX12_getsSlice_25 : decode cX12_getsSlice 25 = .ok (.getfield 56, 3) := by decide +kernel
theorem dX12_getsSlice_28 : decode cX12_getsSlice 28 = .ok (.iload_n 2, 1) := by decide +kernel
theorem dX12_getsSlice_29 : decode cX12_getsSlice 29 = .ok (.iaload, 1) := by decide +kernel
theorem dX12_getsSlice_30 : decode cX12_getsSlice 30 = .ok (.goto 7, 3) := by decide +kernel
theorem dX12_getsSlice_33 : decode cX12_getsSlice 33 = .ok (.aload_n 0, 1) := by decide +kernel
theorem dX12_getsSlice_34 : decode cX12_getsSlice 34 = .ok (.getfield 7, 3) := by decide +kernel
theorem dX12_getsSlice_37 : decode cX12_getsSlice 37 = .ok (.istore_n 3, 1) := by decide +kernel
theorem dX12_getsSlice_38 : decode cX12_getsSlice 38 = .ok (.aload_n 0, 1) := by decide +kernel
theorem dX12_getsSlice_39 : decode cX12_getsSlice 39 = .ok (.getfield 56, 3) := by decide +kernel
theorem dX12_getsSlice_42 : decode cX12_getsSlice 42 = .ok (.iload_n 2, 1) := by decide +kernel
theorem dX12_getsSlice_43 : decode cX12_getsSlice 43 = .ok (.dup2, 1) := by decide +kernel
theorem dX12_getsSlice_44 : decode cX12_getsSlice 44 = .ok (.iaload, 1) := by decide +kernel
theorem dX12_getsSlice_45 : decode cX12_getsSlice 45 = .ok (.iload_n 3, 1) := by decide +kernel
theorem dX12_getsSlice_46 : decode cX12_getsSlice 46 = .ok (.isub, 1) := by decide +kernel
theorem dX12_getsSlice_47 : decode cX12_getsSlice 47 = .ok (.iastore, 1) := by decide +kernel
theorem dX12_getsSlice_48 : decode cX12_getsSlice 48 = .ok (.aload_n 0, 1) := by decide +kernel
theorem dX12_getsSlice_49 : decode cX12_getsSlice 49 = .ok (.getfield 98, 3) := by decide +kernel
theorem dX12_getsSlice_52 : decode cX12_getsSlice 52 = .ok (.iload_n 1, 1) := by decide +kernel
theorem dX12_getsSlice_53 : decode cX12_getsSlice 53 = .ok (.iload_n 2, 1) := by decide +kernel
theorem dX12_getsSlice_54 : decode cX12_getsSlice 54 = .ok (.iastore, 1) := by decide +kernel
theorem dX12_getsSlice_55 : decode cX12_getsSlice 55 = .ok (.aload_n 0, 1) := by decide +kernel
theorem dX12_getsSlice_56 : decode cX12_getsSlice 56 = .ok (.getfield 101, 3) := by decide +kernel
theorem dX12_getsSlice_59 : decode cX12_getsSlice 59 = .ok (.iload_n 1, 1) := by decide +kernel
theorem dX12_getsSlice_60 : decode cX12_getsSlice 60 = .ok (.iload_n 3, 1) := by decide +kernel
theorem dX12_getsSlice_61 : decode cX12_getsSlice 61 = .ok (.iastore, 1) := by decide +kernel
theorem dX12_getsSlice_62 : decode cX12_getsSlice 62 = .ok (.return_, 1) := by decide +kernel
theorem dX12_getsSlice_63 : decode cX12_getsSlice 63 = .ok (.aload_n 0, 1) := by decide +kernel
theorem dX12_getsSlice_64 : decode cX12_getsSlice 64 = .ok (.iload_n 1, 1) := by decide +kernel
theorem dX12_getsSlice_65 : decode cX12_getsSlice 65 = .ok (.invokevirtual 181, 3) := by decide +kernel
theorem dX12_getsSlice_68 : decode cX12_getsSlice 68 = .ok (.istore_n 3, 1) := by decide +kernel
theorem dX12_getsSlice_69 : decode cX12_getsSlice 69 = .ok (.aload_n 0, 1) := by decide +kernel
theorem dX12_getsSlice_70 : decode cX12_getsSlice 70 = .ok (.getfield 98, 3) := by decide +kernel
theorem dX12_getsSlice_73 : decode cX12_getsSlice 73 = .ok (.iload_n 1, 1) := by decide +kernel
theorem dX12_getsSlice_74 : decode cX12_getsSlice 74 = .ok (.iconst (-1), 1) := by decide +kernel
theorem dX12_getsSlice_75 : decode cX12_getsSlice 75 = .ok (.iastore, 1) := by decide +kernel
theorem dX12_getsSlice_76 : decode cX12_getsSlice 76 = .ok (.aload_n 0, 1) := by decide +kernel
theorem dX12_getsSlice_77 : decode cX12_getsSlice 77 = .ok (.getfield 101, 3) := by decide +kernel
theorem dX12_getsSlice_80 : decode cX12_getsSlice 80 = .ok (.iload_n 1, 1) := by decide +kernel
theorem dX12_getsSlice_81 : decode cX12_getsSlice 81 = .ok (.iload_n 3, 1) := by decide +kernel
theorem dX12_getsSlice_82 : decode cX12_getsSlice 82 = .ok (.iastore, 1) := by decide +kernel
theorem dX12_getsSlice_83 : decode cX12_getsSlice 83 = .ok (.aload_n 0, 1) := by decide +kernel
theorem dX12_getsSlice_84 : decode cX12_getsSlice 84 = .ok (.getfield 104, 3) := by decide +kernel
theorem dX12_getsSlice_87 : decode cX12_getsSlice 87 = .ok (.iload_n 1, 1) := by decide +kernel
theorem dX12_getsSlice_88 : decode cX12_getsSlice 88 = .ok (.aload_n 0, 1) := by decide +kernel
theorem dX12_getsSlice_89 : decode cX12_getsSlice 89 = .ok (.aload_n 0, 1) := by decide +kernel
theorem dX12_getsSlice_90 : decode cX12_getsSlice 90 = .ok (.getfield 68, 3) := by decide +kernel
theorem dX12_getsSlice_93 : decode cX12_getsSlice 93 = .ok (.iload_n 1, 1) := by decide +kernel
theorem dX12_getsSlice_94 : decode cX12_getsSlice 94 = .ok (.iaload, 1) := by decide +kernel
theorem dX12_getsSlice_95 : decode cX12_getsSlice 95 = .ok (.invokevirtual 168, 3) := by decide +kernel
theorem dX12_getsSlice_98 : decode cX12_getsSlice 98 = .ok (.iastore, 1) := by decide +kernel
theorem dX12_getsSlice_99 : decode cX12_getsSlice 99 = .ok (.iload_n 3, 1) := by decide +kernel
theorem dX12_getsSlice_100 : decode cX12_getsSlice 100 = .ok (.ifCond .ne 30, 3) := by decide +kernel
theorem dX12_getsSlice_103 : decode cX12_getsSlice 103 = .ok (.aload_n 0, 1) := by decide +kernel
theorem dX12_getsSlice_104 : decode cX12_getsSlice 104 = .ok (.dup, 1) := by decide +kernel
theorem dX12_getsSlice_105 : decode cX12_getsSlice 105 = .ok (.getfield 184, 3) := by decide +kernel
theorem dX12_getsSlice_108 : decode cX12_getsSlice 108 = .ok (.iconst 1, 1) := by decide +kernel
theorem dX12_getsSlice_109 : decode cX12_getsSlice 109 = .ok (.iadd, 1) := by decide +kernel
theorem dX12_getsSlice_110 : decode cX12_getsSlice 110 = .ok (.putfield 184, 3) := by decide +kernel
theorem dX12_getsSlice_113 : decode cX12_getsSlice 113 = .ok (.aload_n 0, 1) := by decide +kernel
theorem dX12_getsSlice_114 : decode cX12_getsSlice 114 = .ok (.iload_n 1, 1) := by decide +kernel
theorem dX12_getsSlice_115 : decode cX12_getsSlice 115 = .ok (.iconst 2, 1) := by decide +kernel
theorem dX12_getsSlice_116 : decode cX12_getsSlice 116 = .ok (.aload_n 0, 1) := by decide +kernel
theorem dX12_getsSlice_117 : decode cX12_getsSlice 117 = .ok (.getfield 26, 3) := by decide +kernel
theorem dX12_getsSlice_120 : decode cX12_getsSlice 120 = .ok (.aload_n 0, 1) := by decide +kernel
theorem dX12_getsSlice_121 : decode cX12_getsSlice 121 = .ok (.getfield 68, 3) := by decide +kernel
theorem dX12_getsSlice_124 : decode cX12_getsSlice 124 = .ok (.iload_n 1, 1) := by decide +kernel
theorem dX12_getsSlice_125 : decode cX12_getsSlice 125 = .ok (.iaload, 1) := by decide +kernel
theorem dX12_getsSlice_126 : decode cX12_getsSlice 126 = .ok (.iaload, 1) := by decide +kernel
theorem dX12_getsSlice_127 : decode cX12_getsSlice 127 = .ok (.invokevirtual 187, 3) := by decide +kernel
theorem dX12_getsSlice_130 : decode cX12_getsSlice 130 = .ok (.return_, 1) := by decide +kernel
theorem dX12_turned_0 : decode cX12_turned 0 = .ok (.iload_n 0, 1) := by decide +kernel
theorem dX12_turned_1 : decode cX12_turned 1 = .ok (.iconst 5, 1) := by decide +kernel
theorem dX12_turned_2 : decode cX12_turned 2 = .ok (.ishl, 1) := by decide +kernel
theorem dX12_turned_3 : decode cX12_turned 3 = .ok (.iload_n 0, 1) := by decide +kernel
theorem dX12_turned_4 : decode cX12_turned 4 = .ok (.bipush 27, 2) := by decide +kernel
theorem dX12_turned_6 : decode cX12_turned 6 = .ok (.iushr, 1) := by decide +kernel
theorem dX12_turned_7 : decode cX12_turned 7 = .ok (.ior, 1) := by decide +kernel
theorem dX12_turned_8 : decode cX12_turned 8 = .ok (.ireturn, 1) := by decide +kernel
theorem dX12_notes_0 : decode cX12_notes 0 = .ok (.aload_n 0, 1) := by decide +kernel
theorem dX12_notes_1 : decode cX12_notes 1 = .ok (.getfield 92, 3) := by decide +kernel
theorem dX12_notes_4 : decode cX12_notes 4 = .ok (.iload_n 1, 1) := by decide +kernel
theorem dX12_notes_5 : decode cX12_notes 5 = .ok (.aload_n 0, 1) := by decide +kernel
theorem dX12_notes_6 : decode cX12_notes 6 = .ok (.getfield 92, 3) := by decide +kernel
theorem dX12_notes_9 : decode cX12_notes 9 = .ok (.iload_n 1, 1) := by decide +kernel
theorem dX12_notes_10 : decode cX12_notes 10 = .ok (.iaload, 1) := by decide +kernel
theorem dX12_notes_11 : decode cX12_notes 11 = .ok (.invokestatic 191, 3) := by decide +kernel
theorem dX12_notes_14 : decode cX12_notes 14 = .ok (.bipush 31, 2) := by decide +kernel
theorem dX12_notes_16 : decode cX12_notes 16 = .ok (.iload_n 3, 1) := by decide +kernel
theorem dX12_notes_17 : decode cX12_notes 17 = .ok (.imul, 1) := by decide +kernel
theorem dX12_notes_18 : decode cX12_notes 18 = .ok (.iadd, 1) := by decide +kernel
theorem dX12_notes_19 : decode cX12_notes 19 = .ok (.bipush 8, 2) := by decide +kernel
theorem dX12_notes_21 : decode cX12_notes 21 = .ok (.iload_n 2, 1) := by decide +kernel
theorem dX12_notes_22 : decode cX12_notes 22 = .ok (.imul, 1) := by decide +kernel
theorem dX12_notes_23 : decode cX12_notes 23 = .ok (.iload 4, 2) := by decide +kernel
theorem dX12_notes_25 : decode cX12_notes 25 = .ok (.iadd, 1) := by decide +kernel
theorem dX12_notes_26 : decode cX12_notes 26 = .ok (.ixor, 1) := by decide +kernel
theorem dX12_notes_27 : decode cX12_notes 27 = .ok (.iastore, 1) := by decide +kernel
theorem dX12_notes_28 : decode cX12_notes 28 = .ok (.return_, 1) := by decide +kernel
theorem dX12_partiesOf_0 : decode cX12_partiesOf 0 = .ok (.iconst 0, 1) := by decide +kernel
theorem dX12_partiesOf_1 : decode cX12_partiesOf 1 = .ok (.istore_n 2, 1) := by decide +kernel
theorem dX12_partiesOf_2 : decode cX12_partiesOf 2 = .ok (.iconst 0, 1) := by decide +kernel
theorem dX12_partiesOf_3 : decode cX12_partiesOf 3 = .ok (.istore_n 3, 1) := by decide +kernel
theorem dX12_partiesOf_4 : decode cX12_partiesOf 4 = .ok (.iload_n 3, 1) := by decide +kernel
theorem dX12_partiesOf_5 : decode cX12_partiesOf 5 = .ok (.bipush 10, 2) := by decide +kernel
theorem dX12_partiesOf_7 : decode cX12_partiesOf 7 = .ok (.if_icmp .ge 42, 3) := by decide +kernel
theorem dX12_partiesOf_10 : decode cX12_partiesOf 10 = .ok (.iload_n 2, 1) := by decide +kernel
theorem dX12_partiesOf_11 : decode cX12_partiesOf 11 = .ok (.aload_n 0, 1) := by decide +kernel
theorem dX12_partiesOf_12 : decode cX12_partiesOf 12 = .ok (.getfield 35, 3) := by decide +kernel
theorem dX12_partiesOf_15 : decode cX12_partiesOf 15 = .ok (.iload_n 3, 1) := by decide +kernel
theorem dX12_partiesOf_16 : decode cX12_partiesOf 16 = .ok (.iaload, 1) := by decide +kernel
theorem dX12_partiesOf_17 : decode cX12_partiesOf 17 = .ok (.iconst (-1), 1) := by decide +kernel
theorem dX12_partiesOf_18 : decode cX12_partiesOf 18 = .ok (.if_icmp .eq 22, 3) := by decide +kernel
theorem dX12_partiesOf_21 : decode cX12_partiesOf 21 = .ok (.aload_n 0, 1) := by decide +kernel
theorem dX12_partiesOf_22 : decode cX12_partiesOf 22 = .ok (.getfield 71, 3) := by decide +kernel
theorem dX12_partiesOf_25 : decode cX12_partiesOf 25 = .ok (.aload_n 0, 1) := by decide +kernel
theorem dX12_partiesOf_26 : decode cX12_partiesOf 26 = .ok (.getfield 35, 3) := by decide +kernel
theorem dX12_partiesOf_29 : decode cX12_partiesOf 29 = .ok (.iload_n 3, 1) := by decide +kernel
theorem dX12_partiesOf_30 : decode cX12_partiesOf 30 = .ok (.iaload, 1) := by decide +kernel
theorem dX12_partiesOf_31 : decode cX12_partiesOf 31 = .ok (.iaload, 1) := by decide +kernel
theorem dX12_partiesOf_32 : decode cX12_partiesOf 32 = .ok (.iload_n 1, 1) := by decide +kernel
theorem dX12_partiesOf_33 : decode cX12_partiesOf 33 = .ok (.if_icmp .ne 7, 3) := by decide +kernel
theorem dX12_partiesOf_36 : decode cX12_partiesOf 36 = .ok (.iconst 1, 1) := by decide +kernel
theorem dX12_partiesOf_37 : decode cX12_partiesOf 37 = .ok (.goto 4, 3) := by decide +kernel
theorem dX12_partiesOf_40 : decode cX12_partiesOf 40 = .ok (.iconst 0, 1) := by decide +kernel
theorem dX12_partiesOf_41 : decode cX12_partiesOf 41 = .ok (.iadd, 1) := by decide +kernel
theorem dX12_partiesOf_42 : decode cX12_partiesOf 42 = .ok (.istore_n 2, 1) := by decide +kernel
theorem dX12_partiesOf_43 : decode cX12_partiesOf 43 = .ok (.iinc 3 1, 3) := by decide +kernel
theorem dX12_partiesOf_46 : decode cX12_partiesOf 46 = .ok (.goto (-42), 3) := by decide +kernel
theorem dX12_partiesOf_49 : decode cX12_partiesOf 49 = .ok (.iload_n 2, 1) := by decide +kernel
theorem dX12_partiesOf_50 : decode cX12_partiesOf 50 = .ok (.ireturn, 1) := by decide +kernel
theorem dX12_closes_0 : decode cX12_closes 0 = .ok (.aload_n 0, 1) := by decide +kernel
theorem dX12_closes_1 : decode cX12_closes 1 = .ok (.iload_n 1, 1) := by decide +kernel
theorem dX12_closes_2 : decode cX12_closes 2 = .ok (.iload_n 2, 1) := by decide +kernel
theorem dX12_closes_3 : decode cX12_closes 3 = .ok (.iload_n 3, 1) := by decide +kernel
theorem dX12_closes_4 : decode cX12_closes 4 = .ok (.invokevirtual 194, 3) := by decide +kernel
theorem dX12_closes_7 : decode cX12_closes 7 = .ok (.aload_n 0, 1) := by decide +kernel
theorem dX12_closes_8 : decode cX12_closes 8 = .ok (.aload_n 0, 1) := by decide +kernel
theorem dX12_closes_9 : decode cX12_closes 9 = .ok (.getfield 71, 3) := by decide +kernel
theorem dX12_closes_12 : decode cX12_closes 12 = .ok (.iload_n 1, 1) := by decide +kernel
theorem dX12_closes_13 : decode cX12_closes 13 = .ok (.iaload, 1) := by decide +kernel
theorem dX12_closes_14 : decode cX12_closes 14 = .ok (.invokevirtual 197, 3) := by decide +kernel
theorem dX12_closes_17 : decode cX12_closes 17 = .ok (.iconst 1, 1) := by decide +kernel
theorem dX12_closes_18 : decode cX12_closes 18 = .ok (.if_icmp .ne 70, 3) := by decide +kernel
theorem dX12_closes_21 : decode cX12_closes 21 = .ok (.iconst 0, 1) := by decide +kernel
theorem dX12_closes_22 : decode cX12_closes 22 = .ok (.istore 4, 2) := by decide +kernel
theorem dX12_closes_24 : decode cX12_closes 24 = .ok (.iload 4, 2) := by decide +kernel
theorem dX12_closes_26 : decode cX12_closes 26 = .ok (.bipush 10, 2) := by decide +kernel
theorem dX12_closes_28 : decode cX12_closes 28 = .ok (.if_icmp .ge 60, 3) := by decide +kernel
theorem dX12_closes_31 : decode cX12_closes 31 = .ok (.aload_n 0, 1) := by decide +kernel
theorem dX12_closes_32 : decode cX12_closes 32 = .ok (.getfield 35, 3) := by decide +kernel
theorem dX12_closes_35 : decode cX12_closes 35 = .ok (.iload 4, 2) := by decide +kernel
theorem dX12_closes_37 : decode cX12_closes 37 = .ok (.iaload, 1) := by decide +kernel
theorem dX12_closes_38 : decode cX12_closes 38 = .ok (.iconst (-1), 1) := by decide +kernel
theorem dX12_closes_39 : decode cX12_closes 39 = .ok (.if_icmp .eq 43, 3) := by decide +kernel
theorem dX12_closes_42 : decode cX12_closes 42 = .ok (.aload_n 0, 1) := by decide +kernel
theorem dX12_closes_43 : decode cX12_closes 43 = .ok (.getfield 71, 3) := by decide +kernel
theorem dX12_closes_46 : decode cX12_closes 46 = .ok (.aload_n 0, 1) := by decide +kernel
theorem dX12_closes_47 : decode cX12_closes 47 = .ok (.getfield 35, 3) := by decide +kernel
theorem dX12_closes_50 : decode cX12_closes 50 = .ok (.iload 4, 2) := by decide +kernel
theorem dX12_closes_52 : decode cX12_closes 52 = .ok (.iaload, 1) := by decide +kernel
theorem dX12_closes_53 : decode cX12_closes 53 = .ok (.iaload, 1) := by decide +kernel
theorem dX12_closes_54 : decode cX12_closes 54 = .ok (.aload_n 0, 1) := by decide +kernel
theorem dX12_closes_55 : decode cX12_closes 55 = .ok (.getfield 71, 3) := by decide +kernel
theorem dX12_closes_58 : decode cX12_closes 58 = .ok (.iload_n 1, 1) := by decide +kernel
theorem dX12_closes_59 : decode cX12_closes 59 = .ok (.iaload, 1) := by decide +kernel
theorem dX12_closes_60 : decode cX12_closes 60 = .ok (.if_icmp .ne 22, 3) := by decide +kernel
theorem dX12_closes_63 : decode cX12_closes 63 = .ok (.aload_n 0, 1) := by decide +kernel
theorem dX12_closes_64 : decode cX12_closes 64 = .ok (.aload_n 0, 1) := by decide +kernel
theorem dX12_closes_65 : decode cX12_closes 65 = .ok (.getfield 35, 3) := by decide +kernel
theorem dX12_closes_68 : decode cX12_closes 68 = .ok (.iload 4, 2) := by decide +kernel
theorem dX12_closes_70 : decode cX12_closes 70 = .ok (.iaload, 1) := by decide +kernel
theorem dX12_closes_71 : decode cX12_closes 71 = .ok (.iconst 1, 1) := by decide +kernel
theorem dX12_closes_72 : decode cX12_closes 72 = .ok (.aload_n 0, 1) := by decide +kernel
theorem dX12_closes_73 : decode cX12_closes 73 = .ok (.getfield 26, 3) := by decide +kernel
theorem dX12_closes_76 : decode cX12_closes 76 = .ok (.iload 4, 2) := by decide +kernel
theorem dX12_closes_78 : decode cX12_closes 78 = .ok (.iaload, 1) := by decide +kernel
theorem dX12_closes_79 : decode cX12_closes 79 = .ok (.invokevirtual 194, 3) := by decide +kernel
theorem dX12_closes_82 : decode cX12_closes 82 = .ok (.iinc 4 1, 3) := by decide +kernel
theorem dX12_closes_85 : decode cX12_closes 85 = .ok (.goto (-61), 3) := by decide +kernel
theorem dX12_closes_88 : decode cX12_closes 88 = .ok (.return_, 1) := by decide +kernel
theorem dX12_stops_0 : decode cX12_stops 0 = .ok (.aload_n 0, 1) := by decide +kernel
theorem dX12_stops_1 : decode cX12_stops 1 = .ok (.iload_n 1, 1) := by decide +kernel
theorem dX12_stops_2 : decode cX12_stops 2 = .ok (.invokevirtual 200, 3) := by decide +kernel
theorem dX12_stops_5 : decode cX12_stops 5 = .ok (.aload_n 0, 1) := by decide +kernel
theorem dX12_stops_6 : decode cX12_stops 6 = .ok (.getfield 77, 3) := by decide +kernel
theorem dX12_stops_9 : decode cX12_stops 9 = .ok (.iload_n 1, 1) := by decide +kernel
theorem dX12_stops_10 : decode cX12_stops 10 = .ok (.iload_n 2, 1) := by decide +kernel
theorem dX12_stops_11 : decode cX12_stops 11 = .ok (.iastore, 1) := by decide +kernel
theorem dX12_stops_12 : decode cX12_stops 12 = .ok (.aload_n 0, 1) := by decide +kernel
theorem dX12_stops_13 : decode cX12_stops 13 = .ok (.getfield 35, 3) := by decide +kernel
theorem dX12_stops_16 : decode cX12_stops 16 = .ok (.aload_n 0, 1) := by decide +kernel
theorem dX12_stops_17 : decode cX12_stops 17 = .ok (.getfield 68, 3) := by decide +kernel
theorem dX12_stops_20 : decode cX12_stops 20 = .ok (.iload_n 1, 1) := by decide +kernel
theorem dX12_stops_21 : decode cX12_stops 21 = .ok (.iaload, 1) := by decide +kernel
theorem dX12_stops_22 : decode cX12_stops 22 = .ok (.iconst (-1), 1) := by decide +kernel
theorem dX12_stops_23 : decode cX12_stops 23 = .ok (.iastore, 1) := by decide +kernel
theorem dX12_stops_24 : decode cX12_stops 24 = .ok (.aload_n 0, 1) := by decide +kernel
theorem dX12_stops_25 : decode cX12_stops 25 = .ok (.iload_n 1, 1) := by decide +kernel
theorem dX12_stops_26 : decode cX12_stops 26 = .ok (.iconst 2, 1) := by decide +kernel
theorem dX12_stops_27 : decode cX12_stops 27 = .ok (.aload_n 0, 1) := by decide +kernel
theorem dX12_stops_28 : decode cX12_stops 28 = .ok (.getfield 95, 3) := by decide +kernel
theorem dX12_stops_31 : decode cX12_stops 31 = .ok (.iload_n 1, 1) := by decide +kernel
theorem dX12_stops_32 : decode cX12_stops 32 = .ok (.iaload, 1) := by decide +kernel
theorem dX12_stops_33 : decode cX12_stops 33 = .ok (.aload_n 0, 1) := by decide +kernel
theorem dX12_stops_34 : decode cX12_stops 34 = .ok (.getfield 141, 3) := by decide +kernel
theorem dX12_stops_37 : decode cX12_stops 37 = .ok (.if_icmp .le 12, 3) := by decide +kernel
theorem dX12_stops_40 : decode cX12_stops 40 = .ok (.aload_n 0, 1) := by decide +kernel
theorem dX12_stops_41 : decode cX12_stops 41 = .ok (.getfield 95, 3) := by decide +kernel
theorem dX12_stops_44 : decode cX12_stops 44 = .ok (.iload_n 1, 1) := by decide +kernel
theorem dX12_stops_45 : decode cX12_stops 45 = .ok (.iaload, 1) := by decide +kernel
theorem dX12_stops_46 : decode cX12_stops 46 = .ok (.goto 7, 3) := by decide +kernel
theorem dX12_stops_49 : decode cX12_stops 49 = .ok (.aload_n 0, 1) := by decide +kernel
theorem dX12_stops_50 : decode cX12_stops 50 = .ok (.getfield 141, 3) := by decide +kernel
theorem dX12_stops_53 : decode cX12_stops 53 = .ok (.iload_n 3, 1) := by decide +kernel
theorem dX12_stops_54 : decode cX12_stops 54 = .ok (.invokevirtual 204, 3) := by decide +kernel
theorem dX12_stops_57 : decode cX12_stops 57 = .ok (.return_, 1) := by decide +kernel
theorem dX12_begins_0 : decode cX12_begins 0 = .ok (.aload_n 0, 1) := by decide +kernel
theorem dX12_begins_1 : decode cX12_begins 1 = .ok (.getfield 117, 3) := by decide +kernel
theorem dX12_begins_4 : decode cX12_begins 4 = .ok (.istore 4, 2) := by decide +kernel
theorem dX12_begins_6 : decode cX12_begins 6 = .ok (.aload_n 0, 1) := by decide +kernel
theorem dX12_begins_7 : decode cX12_begins 7 = .ok (.dup, 1) := by decide +kernel
theorem dX12_begins_8 : decode cX12_begins 8 = .ok (.getfield 117, 3) := by decide +kernel
theorem dX12_begins_11 : decode cX12_begins 11 = .ok (.iconst 1, 1) := by decide +kernel
theorem dX12_begins_12 : decode cX12_begins 12 = .ok (.iadd, 1) := by decide +kernel
theorem dX12_begins_13 : decode cX12_begins 13 = .ok (.putfield 117, 3) := by decide +kernel
theorem dX12_begins_16 : decode cX12_begins 16 = .ok (.aload_n 0, 1) := by decide +kernel
theorem dX12_begins_17 : decode cX12_begins 17 = .ok (.getfield 68, 3) := by decide +kernel
theorem dX12_begins_20 : decode cX12_begins 20 = .ok (.iload 4, 2) := by decide +kernel
theorem dX12_begins_22 : decode cX12_begins 22 = .ok (.iload_n 1, 1) := by decide +kernel
theorem dX12_begins_23 : decode cX12_begins 23 = .ok (.iastore, 1) := by decide +kernel
theorem dX12_begins_24 : decode cX12_begins 24 = .ok (.aload_n 0, 1) := by decide +kernel
theorem dX12_begins_25 : decode cX12_begins 25 = .ok (.getfield 71, 3) := by decide +kernel
theorem dX12_begins_28 : decode cX12_begins 28 = .ok (.iload 4, 2) := by decide +kernel
theorem dX12_begins_30 : decode cX12_begins 30 = .ok (.iload_n 2, 1) := by decide +kernel
theorem dX12_begins_31 : decode cX12_begins 31 = .ok (.iastore, 1) := by decide +kernel
theorem dX12_begins_32 : decode cX12_begins 32 = .ok (.aload_n 0, 1) := by decide +kernel
theorem dX12_begins_33 : decode cX12_begins 33 = .ok (.getfield 74, 3) := by decide +kernel
theorem dX12_begins_36 : decode cX12_begins 36 = .ok (.iload 4, 2) := by decide +kernel
theorem dX12_begins_38 : decode cX12_begins 38 = .ok (.iload_n 3, 1) := by decide +kernel
theorem dX12_begins_39 : decode cX12_begins 39 = .ok (.iastore, 1) := by decide +kernel
theorem dX12_begins_40 : decode cX12_begins 40 = .ok (.aload_n 0, 1) := by decide +kernel
theorem dX12_begins_41 : decode cX12_begins 41 = .ok (.getfield 89, 3) := by decide +kernel
theorem dX12_begins_44 : decode cX12_begins 44 = .ok (.iload 4, 2) := by decide +kernel
theorem dX12_begins_46 : decode cX12_begins 46 = .ok (.iload_n 1, 1) := by decide +kernel
theorem dX12_begins_47 : decode cX12_begins 47 = .ok (.iastore, 1) := by decide +kernel
theorem dX12_begins_48 : decode cX12_begins 48 = .ok (.aload_n 0, 1) := by decide +kernel
theorem dX12_begins_49 : decode cX12_begins 49 = .ok (.getfield 92, 3) := by decide +kernel
theorem dX12_begins_52 : decode cX12_begins 52 = .ok (.iload 4, 2) := by decide +kernel
theorem dX12_begins_54 : decode cX12_begins 54 = .ok (.iload_n 1, 1) := by decide +kernel
theorem dX12_begins_55 : decode cX12_begins 55 = .ok (.iastore, 1) := by decide +kernel
theorem dX12_begins_56 : decode cX12_begins 56 = .ok (.aload_n 0, 1) := by decide +kernel
theorem dX12_begins_57 : decode cX12_begins 57 = .ok (.getfield 98, 3) := by decide +kernel
theorem dX12_begins_60 : decode cX12_begins 60 = .ok (.iload 4, 2) := by decide +kernel
theorem dX12_begins_62 : decode cX12_begins 62 = .ok (.bipush (-2), 2) := by decide +kernel
theorem dX12_begins_64 : decode cX12_begins 64 = .ok (.iastore, 1) := by decide +kernel
theorem dX12_begins_65 : decode cX12_begins 65 = .ok (.aload_n 0, 1) := by decide +kernel
theorem dX12_begins_66 : decode cX12_begins 66 = .ok (.getfield 95, 3) := by decide +kernel
theorem dX12_begins_69 : decode cX12_begins 69 = .ok (.iload 4, 2) := by decide +kernel
theorem dX12_begins_71 : decode cX12_begins 71 = .ok (.aload_n 0, 1) := by decide +kernel
theorem dX12_begins_72 : decode cX12_begins 72 = .ok (.getfield 141, 3) := by decide +kernel
theorem dX12_begins_75 : decode cX12_begins 75 = .ok (.iastore, 1) := by decide +kernel
theorem dX12_begins_76 : decode cX12_begins 76 = .ok (.aload_n 0, 1) := by decide +kernel
theorem dX12_begins_77 : decode cX12_begins 77 = .ok (.getfield 35, 3) := by decide +kernel
theorem dX12_begins_80 : decode cX12_begins 80 = .ok (.iload_n 1, 1) := by decide +kernel
theorem dX12_begins_81 : decode cX12_begins 81 = .ok (.iload 4, 2) := by decide +kernel
theorem dX12_begins_83 : decode cX12_begins 83 = .ok (.iastore, 1) := by decide +kernel
theorem dX12_begins_84 : decode cX12_begins 84 = .ok (.aload_n 0, 1) := by decide +kernel
theorem dX12_begins_85 : decode cX12_begins 85 = .ok (.iload 4, 2) := by decide +kernel
theorem dX12_begins_87 : decode cX12_begins 87 = .ok (.iconst 0, 1) := by decide +kernel
theorem dX12_begins_88 : decode cX12_begins 88 = .ok (.aload_n 0, 1) := by decide +kernel
theorem dX12_begins_89 : decode cX12_begins 89 = .ok (.getfield 141, 3) := by decide +kernel
theorem dX12_begins_92 : decode cX12_begins 92 = .ok (.aload_n 0, 1) := by decide +kernel
theorem dX12_begins_93 : decode cX12_begins 93 = .ok (.getfield 26, 3) := by decide +kernel
theorem dX12_begins_96 : decode cX12_begins 96 = .ok (.iload_n 1, 1) := by decide +kernel
theorem dX12_begins_97 : decode cX12_begins 97 = .ok (.iaload, 1) := by decide +kernel
theorem dX12_begins_98 : decode cX12_begins 98 = .ok (.invokevirtual 204, 3) := by decide +kernel
theorem dX12_begins_101 : decode cX12_begins 101 = .ok (.iload 4, 2) := by decide +kernel
theorem dX12_begins_103 : decode cX12_begins 103 = .ok (.ireturn, 1) := by decide +kernel
theorem dX12_hasChannels_0 : decode cX12_hasChannels 0 = .ok (.aload_n 0, 1) := by decide +kernel
theorem dX12_hasChannels_1 : decode cX12_hasChannels 1 = .ok (.iload_n 1, 1) := by decide +kernel
theorem dX12_hasChannels_2 : decode cX12_hasChannels 2 = .ok (.invokevirtual 130, 3) := by decide +kernel
theorem dX12_hasChannels_5 : decode cX12_hasChannels 5 = .ok (.iload_n 2, 1) := by decide +kernel
theorem dX12_hasChannels_6 : decode cX12_hasChannels 6 = .ok (.iadd, 1) := by decide +kernel
theorem dX12_hasChannels_7 : decode cX12_hasChannels 7 = .ok (.aload_n 0, 1) := by decide +kernel
theorem dX12_hasChannels_8 : decode cX12_hasChannels 8 = .ok (.getfield 17, 3) := by decide +kernel
theorem dX12_hasChannels_11 : decode cX12_hasChannels 11 = .ok (.iload_n 1, 1) := by decide +kernel
theorem dX12_hasChannels_12 : decode cX12_hasChannels 12 = .ok (.iaload, 1) := by decide +kernel
theorem dX12_hasChannels_13 : decode cX12_hasChannels 13 = .ok (.aload_n 0, 1) := by decide +kernel
theorem dX12_hasChannels_14 : decode cX12_hasChannels 14 = .ok (.getfield 20, 3) := by decide +kernel
theorem dX12_hasChannels_17 : decode cX12_hasChannels 17 = .ok (.iload_n 1, 1) := by decide +kernel
theorem dX12_hasChannels_18 : decode cX12_hasChannels 18 = .ok (.iaload, 1) := by decide +kernel
theorem dX12_hasChannels_19 : decode cX12_hasChannels 19 = .ok (.isub, 1) := by decide +kernel
theorem dX12_hasChannels_20 : decode cX12_hasChannels 20 = .ok (.if_icmp .gt 7, 3) := by decide +kernel
theorem dX12_hasChannels_23 : decode cX12_hasChannels 23 = .ok (.iconst 1, 1) := by decide +kernel
theorem dX12_hasChannels_24 : decode cX12_hasChannels 24 = .ok (.goto 4, 3) := by decide +kernel
theorem dX12_hasChannels_27 : decode cX12_hasChannels 27 = .ok (.iconst 0, 1) := by decide +kernel
theorem dX12_hasChannels_28 : decode cX12_hasChannels 28 = .ok (.ireturn, 1) := by decide +kernel
theorem dX12_begin_0 : decode cX12_begin 0 = .ok (.iload_n 1, 1) := by decide +kernel
theorem dX12_begin_1 : decode cX12_begin 1 = .ok (.invokestatic 134, 3) := by decide +kernel
theorem dX12_begin_4 : decode cX12_begin 4 = .ok (.ifCond .eq 14, 3) := by decide +kernel
theorem dX12_begin_7 : decode cX12_begin 7 = .ok (.iload_n 2, 1) := by decide +kernel
theorem dX12_begin_8 : decode cX12_begin 8 = .ok (.invokestatic 134, 3) := by decide +kernel
theorem dX12_begin_11 : decode cX12_begin 11 = .ok (.ifCond .eq 7, 3) := by decide +kernel
theorem dX12_begin_14 : decode cX12_begin 14 = .ok (.iconst 1, 1) := by decide +kernel
theorem dX12_begin_15 : decode cX12_begin 15 = .ok (.goto 4, 3) := by decide +kernel
theorem dX12_begin_18 : decode cX12_begin 18 = .ok (.iconst 0, 1) := by decide +kernel
theorem dX12_begin_19 : decode cX12_begin 19 = .ok (.istore 4, 2) := by decide +kernel
theorem dX12_begin_21 : decode cX12_begin 21 = .ok (.iload 4, 2) := by decide +kernel
theorem dX12_begin_23 : decode cX12_begin 23 = .ok (.ifCond .eq 43, 3) := by decide +kernel
theorem dX12_begin_26 : decode cX12_begin 26 = .ok (.aload_n 0, 1) := by decide +kernel
theorem dX12_begin_27 : decode cX12_begin 27 = .ok (.getfield 35, 3) := by decide +kernel
theorem dX12_begin_30 : decode cX12_begin 30 = .ok (.iload_n 1, 1) := by decide +kernel
theorem dX12_begin_31 : decode cX12_begin 31 = .ok (.iaload, 1) := by decide +kernel
theorem dX12_begin_32 : decode cX12_begin 32 = .ok (.iconst (-1), 1) := by decide +kernel
theorem dX12_begin_33 : decode cX12_begin 33 = .ok (.if_icmp .ne 33, 3) := by decide +kernel
theorem dX12_begin_36 : decode cX12_begin 36 = .ok (.aload_n 0, 1) := by decide +kernel
theorem dX12_begin_37 : decode cX12_begin 37 = .ok (.getfield 35, 3) := by decide +kernel
theorem dX12_begin_40 : decode cX12_begin 40 = .ok (.iload_n 2, 1) := by decide +kernel
theorem dX12_begin_41 : decode cX12_begin 41 = .ok (.iaload, 1) := by decide +kernel
theorem dX12_begin_42 : decode cX12_begin 42 = .ok (.iconst (-1), 1) := by decide +kernel
theorem dX12_begin_43 : decode cX12_begin 43 = .ok (.if_icmp .ne 23, 3) := by decide +kernel
theorem dX12_begin_46 : decode cX12_begin 46 = .ok (.aload_n 0, 1) := by decide +kernel
theorem dX12_begin_47 : decode cX12_begin 47 = .ok (.getfield 114, 3) := by decide +kernel
theorem dX12_begin_50 : decode cX12_begin 50 = .ok (.bipush 40, 2) := by decide +kernel
theorem dX12_begin_52 : decode cX12_begin 52 = .ok (.if_icmp .eq 14, 3) := by decide +kernel
theorem dX12_begin_55 : decode cX12_begin 55 = .ok (.aload_n 0, 1) := by decide +kernel
theorem dX12_begin_56 : decode cX12_begin 56 = .ok (.getfield 117, 3) := by decide +kernel
theorem dX12_begin_59 : decode cX12_begin 59 = .ok (.iconst 2, 1) := by decide +kernel
theorem dX12_begin_60 : decode cX12_begin 60 = .ok (.iadd, 1) := by decide +kernel
theorem dX12_begin_61 : decode cX12_begin 61 = .ok (.bipush 80, 2) := by decide +kernel
theorem dX12_begin_63 : decode cX12_begin 63 = .ok (.if_icmp .le 7, 3) := by decide +kernel
theorem dX12_begin_66 : decode cX12_begin 66 = .ok (.iconst 1, 1) := by decide +kernel
theorem dX12_begin_67 : decode cX12_begin 67 = .ok (.goto 4, 3) := by decide +kernel
theorem dX12_begin_70 : decode cX12_begin 70 = .ok (.iconst 0, 1) := by decide +kernel
theorem dX12_begin_71 : decode cX12_begin 71 = .ok (.istore 5, 2) := by decide +kernel
theorem dX12_begin_73 : decode cX12_begin 73 = .ok (.iload 4, 2) := by decide +kernel
theorem dX12_begin_75 : decode cX12_begin 75 = .ok (.ifCond .eq 22, 3) := by decide +kernel
theorem dX12_begin_78 : decode cX12_begin 78 = .ok (.aload_n 0, 1) := by decide +kernel
theorem dX12_begin_79 : decode cX12_begin 79 = .ok (.getfield 26, 3) := by decide +kernel
theorem dX12_begin_82 : decode cX12_begin 82 = .ok (.iload_n 1, 1) := by decide +kernel
theorem dX12_begin_83 : decode cX12_begin 83 = .ok (.iaload, 1) := by decide +kernel
theorem dX12_begin_84 : decode cX12_begin 84 = .ok (.aload_n 0, 1) := by decide +kernel
theorem dX12_begin_85 : decode cX12_begin 85 = .ok (.getfield 26, 3) := by decide +kernel
theorem dX12_begin_88 : decode cX12_begin 88 = .ok (.iload_n 2, 1) := by decide +kernel
theorem dX12_begin_89 : decode cX12_begin 89 = .ok (.iaload, 1) := by decide +kernel
theorem dX12_begin_90 : decode cX12_begin 90 = .ok (.if_icmp .ne 7, 3) := by decide +kernel
theorem dX12_begin_93 : decode cX12_begin 93 = .ok (.iconst 1, 1) := by decide +kernel
theorem dX12_begin_94 : decode cX12_begin 94 = .ok (.goto 4, 3) := by decide +kernel
theorem dX12_begin_97 : decode cX12_begin 97 = .ok (.iconst 0, 1) := by decide +kernel
theorem dX12_begin_98 : decode cX12_begin 98 = .ok (.istore 6, 2) := by decide +kernel
theorem dX12_begin_100 : decode cX12_begin 100 = .ok (.iload 5, 2) := by decide +kernel
theorem dX12_begin_102 : decode cX12_begin 102 = .ok (.ifCond .ne 40, 3) := by decide +kernel
theorem dX12_begin_105 : decode cX12_begin 105 = .ok (.aload_n 0, 1) := by decide +kernel
theorem dX12_begin_106 : decode cX12_begin 106 = .ok (.aload_n 0, 1) := by decide +kernel
theorem dX12_begin_107 : decode cX12_begin 107 = .ok (.getfield 26, 3) := by decide +kernel
theorem dX12_begin_110 : decode cX12_begin 110 = .ok (.iload_n 1, 1) := by decide +kernel
theorem dX12_begin_111 : decode cX12_begin 111 = .ok (.iaload, 1) := by decide +kernel
theorem dX12_begin_112 : decode cX12_begin 112 = .ok (.iload 6, 2) := by decide +kernel
theorem dX12_begin_114 : decode cX12_begin 114 = .ok (.ifCond .eq 7, 3) := by decide +kernel
theorem dX12_begin_117 : decode cX12_begin 117 = .ok (.iconst 2, 1) := by decide +kernel
theorem dX12_begin_118 : decode cX12_begin 118 = .ok (.goto 4, 3) := by decide +kernel
theorem dX12_begin_121 : decode cX12_begin 121 = .ok (.iconst 1, 1) := by decide +kernel
theorem dX12_begin_122 : decode cX12_begin 122 = .ok (.invokevirtual 208, 3) := by decide +kernel
theorem dX12_begin_125 : decode cX12_begin 125 = .ok (.ifCond .eq 17, 3) := by decide +kernel
theorem dX12_begin_128 : decode cX12_begin 128 = .ok (.aload_n 0, 1) := by decide +kernel
theorem dX12_begin_129 : decode cX12_begin 129 = .ok (.aload_n 0, 1) := by decide +kernel
theorem dX12_begin_130 : decode cX12_begin 130 = .ok (.getfield 26, 3) := by decide +kernel
theorem dX12_begin_133 : decode cX12_begin 133 = .ok (.iload_n 2, 1) := by decide +kernel
theorem dX12_begin_134 : decode cX12_begin 134 = .ok (.iaload, 1) := by decide +kernel
theorem dX12_begin_135 : decode cX12_begin 135 = .ok (.iconst 1, 1) := by decide +kernel
theorem dX12_begin_136 : decode cX12_begin 136 = .ok (.invokevirtual 208, 3) := by decide +kernel
theorem dX12_begin_139 : decode cX12_begin 139 = .ok (.ifCond .ne 7, 3) := by decide +kernel
theorem dX12_begin_142 : decode cX12_begin 142 = .ok (.iconst 1, 1) := by decide +kernel
theorem dX12_begin_143 : decode cX12_begin 143 = .ok (.goto 4, 3) := by decide +kernel
theorem dX12_begin_146 : decode cX12_begin 146 = .ok (.iconst 0, 1) := by decide +kernel
theorem dX12_begin_147 : decode cX12_begin 147 = .ok (.istore 5, 2) := by decide +kernel
theorem dX12_begin_149 : decode cX12_begin 149 = .ok (.aload_n 0, 1) := by decide +kernel
theorem dX12_begin_150 : decode cX12_begin 150 = .ok (.iload 4, 2) := by decide +kernel
theorem dX12_begin_152 : decode cX12_begin 152 = .ok (.ifCond .ne 7, 3) := by decide +kernel
theorem dX12_begin_155 : decode cX12_begin 155 = .ok (.iconst 1, 1) := by decide +kernel
theorem dX12_begin_156 : decode cX12_begin 156 = .ok (.goto 22, 3) := by decide +kernel
theorem dX12_begin_159 : decode cX12_begin 159 = .ok (.iload_n 1, 1) := by decide +kernel
theorem dX12_begin_160 : decode cX12_begin 160 = .ok (.iload_n 2, 1) := by decide +kernel
theorem dX12_begin_161 : decode cX12_begin 161 = .ok (.if_icmp .ne 7, 3) := by decide +kernel
theorem dX12_begin_164 : decode cX12_begin 164 = .ok (.iconst 2, 1) := by decide +kernel
theorem dX12_begin_165 : decode cX12_begin 165 = .ok (.goto 13, 3) := by decide +kernel
theorem dX12_begin_168 : decode cX12_begin 168 = .ok (.iload 5, 2) := by decide +kernel
theorem dX12_begin_170 : decode cX12_begin 170 = .ok (.ifCond .eq 7, 3) := by decide +kernel
theorem dX12_begin_173 : decode cX12_begin 173 = .ok (.iconst 3, 1) := by decide +kernel
theorem dX12_begin_174 : decode cX12_begin 174 = .ok (.goto 4, 3) := by decide +kernel
theorem dX12_begin_177 : decode cX12_begin 177 = .ok (.iconst 0, 1) := by decide +kernel
theorem dX12_begin_178 : decode cX12_begin 178 = .ok (.invokevirtual 127, 3) := by decide +kernel
theorem dX12_begin_181 : decode cX12_begin 181 = .ok (.ifCond .ne 5, 3) := by decide +kernel
theorem dX12_begin_184 : decode cX12_begin 184 = .ok (.iconst 0, 1) := by decide +kernel
theorem dX12_begin_185 : decode cX12_begin 185 = .ok (.ireturn, 1) := by decide +kernel
theorem dX12_begin_186 : decode cX12_begin 186 = .ok (.aload_n 0, 1) := by decide +kernel
theorem dX12_begin_187 : decode cX12_begin 187 = .ok (.getfield 114, 3) := by decide +kernel
theorem dX12_begin_190 : decode cX12_begin 190 = .ok (.istore 7, 2) := by decide +kernel
theorem dX12_begin_192 : decode cX12_begin 192 = .ok (.aload_n 0, 1) := by decide +kernel
theorem dX12_begin_193 : decode cX12_begin 193 = .ok (.dup, 1) := by decide +kernel
theorem dX12_begin_194 : decode cX12_begin 194 = .ok (.getfield 114, 3) := by decide +kernel
theorem dX12_begin_197 : decode cX12_begin 197 = .ok (.iconst 1, 1) := by decide +kernel
theorem dX12_begin_198 : decode cX12_begin 198 = .ok (.iadd, 1) := by decide +kernel
theorem dX12_begin_199 : decode cX12_begin 199 = .ok (.putfield 114, 3) := by decide +kernel
theorem dX12_begin_202 : decode cX12_begin 202 = .ok (.aload_n 0, 1) := by decide +kernel
theorem dX12_begin_203 : decode cX12_begin 203 = .ok (.getfield 65, 3) := by decide +kernel
theorem dX12_begin_206 : decode cX12_begin 206 = .ok (.iload 7, 2) := by decide +kernel
theorem dX12_begin_208 : decode cX12_begin 208 = .ok (.iload_n 1, 1) := by decide +kernel
theorem dX12_begin_209 : decode cX12_begin 209 = .ok (.iastore, 1) := by decide +kernel
theorem dX12_begin_210 : decode cX12_begin 210 = .ok (.aload_n 0, 1) := by decide +kernel
theorem dX12_begin_211 : decode cX12_begin 211 = .ok (.iload_n 1, 1) := by decide +kernel
theorem dX12_begin_212 : decode cX12_begin 212 = .ok (.iload 7, 2) := by decide +kernel
theorem dX12_begin_214 : decode cX12_begin 214 = .ok (.aload_n 0, 1) := by decide +kernel
theorem dX12_begin_215 : decode cX12_begin 215 = .ok (.getfield 29, 3) := by decide +kernel
theorem dX12_begin_218 : decode cX12_begin 218 = .ok (.iload_n 1, 1) := by decide +kernel
theorem dX12_begin_219 : decode cX12_begin 219 = .ok (.iaload, 1) := by decide +kernel
theorem dX12_begin_220 : decode cX12_begin 220 = .ok (.invokevirtual 211, 3) := by decide +kernel
theorem dX12_begin_223 : decode cX12_begin 223 = .ok (.istore 8, 2) := by decide +kernel
theorem dX12_begin_225 : decode cX12_begin 225 = .ok (.aload_n 0, 1) := by decide +kernel
theorem dX12_begin_226 : decode cX12_begin 226 = .ok (.iload_n 2, 1) := by decide +kernel
theorem dX12_begin_227 : decode cX12_begin 227 = .ok (.iload 7, 2) := by decide +kernel
theorem dX12_begin_229 : decode cX12_begin 229 = .ok (.aload_n 0, 1) := by decide +kernel
theorem dX12_begin_230 : decode cX12_begin 230 = .ok (.getfield 29, 3) := by decide +kernel
theorem dX12_begin_233 : decode cX12_begin 233 = .ok (.iload_n 3, 1) := by decide +kernel
theorem dX12_begin_234 : decode cX12_begin 234 = .ok (.ifCond .eq 7, 3) := by decide +kernel
theorem dX12_begin_237 : decode cX12_begin 237 = .ok (.iload_n 1, 1) := by decide +kernel
theorem dX12_begin_238 : decode cX12_begin 238 = .ok (.goto 4, 3) := by decide +kernel
theorem dX12_begin_241 : decode cX12_begin 241 = .ok (.iload_n 2, 1) := by decide +kernel
theorem dX12_begin_242 : decode cX12_begin 242 = .ok (.iaload, 1) := by decide +kernel
theorem dX12_begin_243 : decode cX12_begin 243 = .ok (.invokevirtual 211, 3) := by decide +kernel
theorem dX12_begin_246 : decode cX12_begin 246 = .ok (.istore 9, 2) := by decide +kernel
theorem dX12_begin_248 : decode cX12_begin 248 = .ok (.aload_n 0, 1) := by decide +kernel
theorem dX12_begin_249 : decode cX12_begin 249 = .ok (.iload 8, 2) := by decide +kernel
theorem dX12_begin_251 : decode cX12_begin 251 = .ok (.invokevirtual 215, 3) := by decide +kernel
theorem dX12_begin_254 : decode cX12_begin 254 = .ok (.aload_n 0, 1) := by decide +kernel
theorem dX12_begin_255 : decode cX12_begin 255 = .ok (.getfield 77, 3) := by decide +kernel
theorem dX12_begin_258 : decode cX12_begin 258 = .ok (.iload 9, 2) := by decide +kernel
theorem dX12_begin_260 : decode cX12_begin 260 = .ok (.iaload, 1) := by decide +kernel
theorem dX12_begin_261 : decode cX12_begin 261 = .ok (.ifCond .ne 9, 3) := by decide +kernel
theorem dX12_begin_264 : decode cX12_begin 264 = .ok (.aload_n 0, 1) := by decide +kernel
theorem dX12_begin_265 : decode cX12_begin 265 = .ok (.iload 9, 2) := by decide +kernel
theorem dX12_begin_267 : decode cX12_begin 267 = .ok (.invokevirtual 215, 3) := by decide +kernel
theorem dX12_begin_270 : decode cX12_begin 270 = .ok (.iload 7, 2) := by decide +kernel
theorem dX12_begin_272 : decode cX12_begin 272 = .ok (.ireturn, 1) := by decide +kernel
theorem dX12_join_0 : decode cX12_join 0 = .ok (.iload_n 1, 1) := by decide +kernel
theorem dX12_join_1 : decode cX12_join 1 = .ok (.invokestatic 134, 3) := by decide +kernel
theorem dX12_join_4 : decode cX12_join 4 = .ok (.ifCond .eq 15, 3) := by decide +kernel
theorem dX12_join_7 : decode cX12_join 7 = .ok (.aload_n 0, 1) := by decide +kernel
theorem dX12_join_8 : decode cX12_join 8 = .ok (.iload_n 2, 1) := by decide +kernel
theorem dX12_join_9 : decode cX12_join 9 = .ok (.invokevirtual 218, 3) := by decide +kernel
theorem dX12_join_12 : decode cX12_join 12 = .ok (.ifCond .eq 7, 3) := by decide +kernel
theorem dX12_join_15 : decode cX12_join 15 = .ok (.iconst 1, 1) := by decide +kernel
theorem dX12_join_16 : decode cX12_join 16 = .ok (.goto 4, 3) := by decide +kernel
theorem dX12_join_19 : decode cX12_join 19 = .ok (.iconst 0, 1) := by decide +kernel
theorem dX12_join_20 : decode cX12_join 20 = .ok (.istore 4, 2) := by decide +kernel
theorem dX12_join_22 : decode cX12_join 22 = .ok (.iload 4, 2) := by decide +kernel
theorem dX12_join_24 : decode cX12_join 24 = .ok (.ifCond .eq 57, 3) := by decide +kernel
theorem dX12_join_27 : decode cX12_join 27 = .ok (.aload_n 0, 1) := by decide +kernel
theorem dX12_join_28 : decode cX12_join 28 = .ok (.getfield 35, 3) := by decide +kernel
theorem dX12_join_31 : decode cX12_join 31 = .ok (.iload_n 1, 1) := by decide +kernel
theorem dX12_join_32 : decode cX12_join 32 = .ok (.iaload, 1) := by decide +kernel
theorem dX12_join_33 : decode cX12_join 33 = .ok (.iconst (-1), 1) := by decide +kernel
theorem dX12_join_34 : decode cX12_join 34 = .ok (.if_icmp .ne 43, 3) := by decide +kernel
theorem dX12_join_37 : decode cX12_join 37 = .ok (.aload_n 0, 1) := by decide +kernel
theorem dX12_join_38 : decode cX12_join 38 = .ok (.iload_n 2, 1) := by decide +kernel
theorem dX12_join_39 : decode cX12_join 39 = .ok (.invokevirtual 197, 3) := by decide +kernel
theorem dX12_join_42 : decode cX12_join 42 = .ok (.ifCond .eq 35, 3) := by decide +kernel
theorem dX12_join_45 : decode cX12_join 45 = .ok (.aload_n 0, 1) := by decide +kernel
theorem dX12_join_46 : decode cX12_join 46 = .ok (.iload_n 2, 1) := by decide +kernel
theorem dX12_join_47 : decode cX12_join 47 = .ok (.invokevirtual 197, 3) := by decide +kernel
theorem dX12_join_50 : decode cX12_join 50 = .ok (.iconst 4, 1) := by decide +kernel
theorem dX12_join_51 : decode cX12_join 51 = .ok (.if_icmp .eq 26, 3) := by decide +kernel
theorem dX12_join_54 : decode cX12_join 54 = .ok (.aload_n 0, 1) := by decide +kernel
theorem dX12_join_55 : decode cX12_join 55 = .ok (.aload_n 0, 1) := by decide +kernel
theorem dX12_join_56 : decode cX12_join 56 = .ok (.getfield 26, 3) := by decide +kernel
theorem dX12_join_59 : decode cX12_join 59 = .ok (.iload_n 1, 1) := by decide +kernel
theorem dX12_join_60 : decode cX12_join 60 = .ok (.iaload, 1) := by decide +kernel
theorem dX12_join_61 : decode cX12_join 61 = .ok (.iconst 1, 1) := by decide +kernel
theorem dX12_join_62 : decode cX12_join 62 = .ok (.invokevirtual 208, 3) := by decide +kernel
theorem dX12_join_65 : decode cX12_join 65 = .ok (.ifCond .eq 12, 3) := by decide +kernel
theorem dX12_join_68 : decode cX12_join 68 = .ok (.aload_n 0, 1) := by decide +kernel
theorem dX12_join_69 : decode cX12_join 69 = .ok (.getfield 117, 3) := by decide +kernel
theorem dX12_join_72 : decode cX12_join 72 = .ok (.bipush 80, 2) := by decide +kernel
theorem dX12_join_74 : decode cX12_join 74 = .ok (.if_icmp .ne 7, 3) := by decide +kernel
theorem dX12_join_77 : decode cX12_join 77 = .ok (.iconst 1, 1) := by decide +kernel
theorem dX12_join_78 : decode cX12_join 78 = .ok (.goto 4, 3) := by decide +kernel
theorem dX12_join_81 : decode cX12_join 81 = .ok (.iconst 0, 1) := by decide +kernel
theorem dX12_join_82 : decode cX12_join 82 = .ok (.istore 5, 2) := by decide +kernel
theorem dX12_join_84 : decode cX12_join 84 = .ok (.aload_n 0, 1) := by decide +kernel
theorem dX12_join_85 : decode cX12_join 85 = .ok (.iload 4, 2) := by decide +kernel
theorem dX12_join_87 : decode cX12_join 87 = .ok (.ifCond .ne 7, 3) := by decide +kernel
theorem dX12_join_90 : decode cX12_join 90 = .ok (.iconst 1, 1) := by decide +kernel
theorem dX12_join_91 : decode cX12_join 91 = .ok (.goto 13, 3) := by decide +kernel
theorem dX12_join_94 : decode cX12_join 94 = .ok (.iload 5, 2) := by decide +kernel
theorem dX12_join_96 : decode cX12_join 96 = .ok (.ifCond .eq 7, 3) := by decide +kernel
theorem dX12_join_99 : decode cX12_join 99 = .ok (.iconst 2, 1) := by decide +kernel
theorem dX12_join_100 : decode cX12_join 100 = .ok (.goto 4, 3) := by decide +kernel
theorem dX12_join_103 : decode cX12_join 103 = .ok (.iconst 0, 1) := by decide +kernel
theorem dX12_join_104 : decode cX12_join 104 = .ok (.invokevirtual 127, 3) := by decide +kernel
theorem dX12_join_107 : decode cX12_join 107 = .ok (.ifCond .ne 5, 3) := by decide +kernel
theorem dX12_join_110 : decode cX12_join 110 = .ok (.iconst 0, 1) := by decide +kernel
theorem dX12_join_111 : decode cX12_join 111 = .ok (.ireturn, 1) := by decide +kernel
theorem dX12_join_112 : decode cX12_join 112 = .ok (.aload_n 0, 1) := by decide +kernel
theorem dX12_join_113 : decode cX12_join 113 = .ok (.iload_n 1, 1) := by decide +kernel
theorem dX12_join_114 : decode cX12_join 114 = .ok (.iload_n 2, 1) := by decide +kernel
theorem dX12_join_115 : decode cX12_join 115 = .ok (.aload_n 0, 1) := by decide +kernel
theorem dX12_join_116 : decode cX12_join 116 = .ok (.getfield 29, 3) := by decide +kernel
theorem dX12_join_119 : decode cX12_join 119 = .ok (.iload_n 3, 1) := by decide +kernel
theorem dX12_join_120 : decode cX12_join 120 = .ok (.ifCond .eq 12, 3) := by decide +kernel
theorem dX12_join_123 : decode cX12_join 123 = .ok (.aload_n 0, 1) := by decide +kernel
theorem dX12_join_124 : decode cX12_join 124 = .ok (.getfield 65, 3) := by decide +kernel
theorem dX12_join_127 : decode cX12_join 127 = .ok (.iload_n 2, 1) := by decide +kernel
theorem dX12_join_128 : decode cX12_join 128 = .ok (.iaload, 1) := by decide +kernel
theorem dX12_join_129 : decode cX12_join 129 = .ok (.goto 4, 3) := by decide +kernel
theorem dX12_join_132 : decode cX12_join 132 = .ok (.iload_n 1, 1) := by decide +kernel
theorem dX12_join_133 : decode cX12_join 133 = .ok (.iaload, 1) := by decide +kernel
theorem dX12_join_134 : decode cX12_join 134 = .ok (.invokevirtual 211, 3) := by decide +kernel
theorem dX12_join_137 : decode cX12_join 137 = .ok (.istore 6, 2) := by decide +kernel
theorem dX12_join_139 : decode cX12_join 139 = .ok (.aload_n 0, 1) := by decide +kernel
theorem dX12_join_140 : decode cX12_join 140 = .ok (.iload 6, 2) := by decide +kernel
theorem dX12_join_142 : decode cX12_join 142 = .ok (.invokevirtual 215, 3) := by decide +kernel
theorem dX12_join_145 : decode cX12_join 145 = .ok (.iload 6, 2) := by decide +kernel
theorem dX12_join_147 : decode cX12_join 147 = .ok (.ireturn, 1) := by decide +kernel
theorem dX12_leave_0 : decode cX12_leave 0 = .ok (.iload_n 1, 1) := by decide +kernel
theorem dX12_leave_1 : decode cX12_leave 1 = .ok (.invokestatic 134, 3) := by decide +kernel
theorem dX12_leave_4 : decode cX12_leave 4 = .ok (.istore_n 2, 1) := by decide +kernel
theorem dX12_leave_5 : decode cX12_leave 5 = .ok (.aload_n 0, 1) := by decide +kernel
theorem dX12_leave_6 : decode cX12_leave 6 = .ok (.iload_n 2, 1) := by decide +kernel
theorem dX12_leave_7 : decode cX12_leave 7 = .ok (.ifCond .ne 7, 3) := by decide +kernel
theorem dX12_leave_10 : decode cX12_leave 10 = .ok (.iconst 1, 1) := by decide +kernel
theorem dX12_leave_11 : decode cX12_leave 11 = .ok (.goto 18, 3) := by decide +kernel
theorem dX12_leave_14 : decode cX12_leave 14 = .ok (.aload_n 0, 1) := by decide +kernel
theorem dX12_leave_15 : decode cX12_leave 15 = .ok (.getfield 35, 3) := by decide +kernel
theorem dX12_leave_18 : decode cX12_leave 18 = .ok (.iload_n 1, 1) := by decide +kernel
theorem dX12_leave_19 : decode cX12_leave 19 = .ok (.iaload, 1) := by decide +kernel
theorem dX12_leave_20 : decode cX12_leave 20 = .ok (.iconst (-1), 1) := by decide +kernel
theorem dX12_leave_21 : decode cX12_leave 21 = .ok (.if_icmp .ne 7, 3) := by decide +kernel
theorem dX12_leave_24 : decode cX12_leave 24 = .ok (.iconst 2, 1) := by decide +kernel
theorem dX12_leave_25 : decode cX12_leave 25 = .ok (.goto 4, 3) := by decide +kernel
theorem dX12_leave_28 : decode cX12_leave 28 = .ok (.iconst 0, 1) := by decide +kernel
theorem dX12_leave_29 : decode cX12_leave 29 = .ok (.invokevirtual 127, 3) := by decide +kernel
theorem dX12_leave_32 : decode cX12_leave 32 = .ok (.ifCond .ne 5, 3) := by decide +kernel
theorem dX12_leave_35 : decode cX12_leave 35 = .ok (.iconst 0, 1) := by decide +kernel
theorem dX12_leave_36 : decode cX12_leave 36 = .ok (.ireturn, 1) := by decide +kernel
theorem dX12_leave_37 : decode cX12_leave 37 = .ok (.aload_n 0, 1) := by decide +kernel
theorem dX12_leave_38 : decode cX12_leave 38 = .ok (.getfield 35, 3) := by decide +kernel
theorem dX12_leave_41 : decode cX12_leave 41 = .ok (.iload_n 1, 1) := by decide +kernel
theorem dX12_leave_42 : decode cX12_leave 42 = .ok (.iaload, 1) := by decide +kernel
theorem dX12_leave_43 : decode cX12_leave 43 = .ok (.istore_n 3, 1) := by decide +kernel
theorem dX12_leave_44 : decode cX12_leave 44 = .ok (.aload_n 0, 1) := by decide +kernel
theorem dX12_leave_45 : decode cX12_leave 45 = .ok (.iload_n 3, 1) := by decide +kernel
theorem dX12_leave_46 : decode cX12_leave 46 = .ok (.iconst 1, 1) := by decide +kernel
theorem dX12_leave_47 : decode cX12_leave 47 = .ok (.aload_n 0, 1) := by decide +kernel
theorem dX12_leave_48 : decode cX12_leave 48 = .ok (.getfield 26, 3) := by decide +kernel
theorem dX12_leave_51 : decode cX12_leave 51 = .ok (.iload_n 1, 1) := by decide +kernel
theorem dX12_leave_52 : decode cX12_leave 52 = .ok (.iaload, 1) := by decide +kernel
theorem dX12_leave_53 : decode cX12_leave 53 = .ok (.invokevirtual 187, 3) := by decide +kernel
theorem dX12_leave_56 : decode cX12_leave 56 = .ok (.aload_n 0, 1) := by decide +kernel
theorem dX12_leave_57 : decode cX12_leave 57 = .ok (.aload_n 0, 1) := by decide +kernel
theorem dX12_leave_58 : decode cX12_leave 58 = .ok (.getfield 71, 3) := by decide +kernel
theorem dX12_leave_61 : decode cX12_leave 61 = .ok (.iload_n 3, 1) := by decide +kernel
theorem dX12_leave_62 : decode cX12_leave 62 = .ok (.iaload, 1) := by decide +kernel
theorem dX12_leave_63 : decode cX12_leave 63 = .ok (.invokevirtual 197, 3) := by decide +kernel
theorem dX12_leave_66 : decode cX12_leave 66 = .ok (.ireturn, 1) := by decide +kernel
theorem dX12_areNeighbours_0 : decode cX12_areNeighbours 0 = .ok (.iload_n 0, 1) := by decide +kernel
theorem dX12_areNeighbours_1 : decode cX12_areNeighbours 1 = .ok (.iconst 1, 1) := by decide +kernel
theorem dX12_areNeighbours_2 : decode cX12_areNeighbours 2 = .ok (.iadd, 1) := by decide +kernel
theorem dX12_areNeighbours_3 : decode cX12_areNeighbours 3 = .ok (.bipush 8, 2) := by decide +kernel
theorem dX12_areNeighbours_5 : decode cX12_areNeighbours 5 = .ok (.irem, 1) := by decide +kernel
theorem dX12_areNeighbours_6 : decode cX12_areNeighbours 6 = .ok (.iload_n 1, 1) := by decide +kernel
theorem dX12_areNeighbours_7 : decode cX12_areNeighbours 7 = .ok (.if_icmp .eq 13, 3) := by decide +kernel
theorem dX12_areNeighbours_10 : decode cX12_areNeighbours 10 = .ok (.iload_n 1, 1) := by decide +kernel
theorem dX12_areNeighbours_11 : decode cX12_areNeighbours 11 = .ok (.iconst 1, 1) := by decide +kernel
theorem dX12_areNeighbours_12 : decode cX12_areNeighbours 12 = .ok (.iadd, 1) := by decide +kernel
theorem dX12_areNeighbours_13 : decode cX12_areNeighbours 13 = .ok (.bipush 8, 2) := by decide +kernel
theorem dX12_areNeighbours_15 : decode cX12_areNeighbours 15 = .ok (.irem, 1) := by decide +kernel
theorem dX12_areNeighbours_16 : decode cX12_areNeighbours 16 = .ok (.iload_n 0, 1) := by decide +kernel
theorem dX12_areNeighbours_17 : decode cX12_areNeighbours 17 = .ok (.if_icmp .ne 7, 3) := by decide +kernel
theorem dX12_areNeighbours_20 : decode cX12_areNeighbours 20 = .ok (.iconst 1, 1) := by decide +kernel
theorem dX12_areNeighbours_21 : decode cX12_areNeighbours 21 = .ok (.goto 4, 3) := by decide +kernel
theorem dX12_areNeighbours_24 : decode cX12_areNeighbours 24 = .ok (.iconst 0, 1) := by decide +kernel
theorem dX12_areNeighbours_25 : decode cX12_areNeighbours 25 = .ok (.ireturn, 1) := by decide +kernel
theorem dX12_move_0 : decode cX12_move 0 = .ok (.aload_n 0, 1) := by decide +kernel
theorem dX12_move_1 : decode cX12_move 1 = .ok (.iload_n 1, 1) := by decide +kernel
theorem dX12_move_2 : decode cX12_move 2 = .ok (.invokestatic 134, 3) := by decide +kernel
theorem dX12_move_5 : decode cX12_move 5 = .ok (.ifCond .eq 14, 3) := by decide +kernel
theorem dX12_move_8 : decode cX12_move 8 = .ok (.iload_n 2, 1) := by decide +kernel
theorem dX12_move_9 : decode cX12_move 9 = .ok (.invokestatic 120, 3) := by decide +kernel
theorem dX12_move_12 : decode cX12_move 12 = .ok (.ifCond .eq 7, 3) := by decide +kernel
theorem dX12_move_15 : decode cX12_move 15 = .ok (.iconst 0, 1) := by decide +kernel
theorem dX12_move_16 : decode cX12_move 16 = .ok (.goto 4, 3) := by decide +kernel
theorem dX12_move_19 : decode cX12_move 19 = .ok (.iconst 1, 1) := by decide +kernel
theorem dX12_move_20 : decode cX12_move 20 = .ok (.invokevirtual 127, 3) := by decide +kernel
theorem dX12_move_23 : decode cX12_move 23 = .ok (.ifCond .ne 5, 3) := by decide +kernel
theorem dX12_move_26 : decode cX12_move 26 = .ok (.iconst 0, 1) := by decide +kernel
theorem dX12_move_27 : decode cX12_move 27 = .ok (.ireturn, 1) := by decide +kernel
theorem dX12_move_28 : decode cX12_move 28 = .ok (.aload_n 0, 1) := by decide +kernel
theorem dX12_move_29 : decode cX12_move 29 = .ok (.getfield 26, 3) := by decide +kernel
theorem dX12_move_32 : decode cX12_move 32 = .ok (.iload_n 1, 1) := by decide +kernel
theorem dX12_move_33 : decode cX12_move 33 = .ok (.iaload, 1) := by decide +kernel
theorem dX12_move_34 : decode cX12_move 34 = .ok (.istore_n 3, 1) := by decide +kernel
theorem dX12_move_35 : decode cX12_move 35 = .ok (.aload_n 0, 1) := by decide +kernel
theorem dX12_move_36 : decode cX12_move 36 = .ok (.getfield 35, 3) := by decide +kernel
theorem dX12_move_39 : decode cX12_move 39 = .ok (.iload_n 1, 1) := by decide +kernel
theorem dX12_move_40 : decode cX12_move 40 = .ok (.iaload, 1) := by decide +kernel
theorem dX12_move_41 : decode cX12_move 41 = .ok (.istore 4, 2) := by decide +kernel
theorem dX12_move_43 : decode cX12_move 43 = .ok (.iload_n 3, 1) := by decide +kernel
theorem dX12_move_44 : decode cX12_move 44 = .ok (.iload_n 2, 1) := by decide +kernel
theorem dX12_move_45 : decode cX12_move 45 = .ok (.if_icmp .ne 15, 3) := by decide +kernel
theorem dX12_move_48 : decode cX12_move 48 = .ok (.iload 4, 2) := by decide +kernel
theorem dX12_move_50 : decode cX12_move 50 = .ok (.iconst (-1), 1) := by decide +kernel
theorem dX12_move_51 : decode cX12_move 51 = .ok (.if_icmp .eq 7, 3) := by decide +kernel
theorem dX12_move_54 : decode cX12_move 54 = .ok (.iconst 1, 1) := by decide +kernel
theorem dX12_move_55 : decode cX12_move 55 = .ok (.goto 4, 3) := by decide +kernel
theorem dX12_move_58 : decode cX12_move 58 = .ok (.iconst 0, 1) := by decide +kernel
theorem dX12_move_59 : decode cX12_move 59 = .ok (.ireturn, 1) := by decide +kernel
theorem dX12_move_60 : decode cX12_move 60 = .ok (.iload_n 3, 1) := by decide +kernel
theorem dX12_move_61 : decode cX12_move 61 = .ok (.iload_n 2, 1) := by decide +kernel
theorem dX12_move_62 : decode cX12_move 62 = .ok (.invokestatic 221, 3) := by decide +kernel
theorem dX12_move_65 : decode cX12_move 65 = .ok (.ifCond .eq 21, 3) := by decide +kernel
theorem dX12_move_68 : decode cX12_move 68 = .ok (.aload_n 0, 1) := by decide +kernel
theorem dX12_move_69 : decode cX12_move 69 = .ok (.iload_n 2, 1) := by decide +kernel
theorem dX12_move_70 : decode cX12_move 70 = .ok (.invokevirtual 130, 3) := by decide +kernel
theorem dX12_move_73 : decode cX12_move 73 = .ok (.aload_n 0, 1) := by decide +kernel
theorem dX12_move_74 : decode cX12_move 74 = .ok (.getfield 17, 3) := by decide +kernel
theorem dX12_move_77 : decode cX12_move 77 = .ok (.iload_n 2, 1) := by decide +kernel
theorem dX12_move_78 : decode cX12_move 78 = .ok (.iaload, 1) := by decide +kernel
theorem dX12_move_79 : decode cX12_move 79 = .ok (.if_icmp .ge 7, 3) := by decide +kernel
theorem dX12_move_82 : decode cX12_move 82 = .ok (.iconst 1, 1) := by decide +kernel
theorem dX12_move_83 : decode cX12_move 83 = .ok (.goto 4, 3) := by decide +kernel
theorem dX12_move_86 : decode cX12_move 86 = .ok (.iconst 0, 1) := by decide +kernel
theorem dX12_move_87 : decode cX12_move 87 = .ok (.istore 5, 2) := by decide +kernel
theorem dX12_move_89 : decode cX12_move 89 = .ok (.aload_n 0, 1) := by decide +kernel
theorem dX12_move_90 : decode cX12_move 90 = .ok (.getfield 26, 3) := by decide +kernel
theorem dX12_move_93 : decode cX12_move 93 = .ok (.iload_n 1, 1) := by decide +kernel
theorem dX12_move_94 : decode cX12_move 94 = .ok (.iload_n 2, 1) := by decide +kernel
theorem dX12_move_95 : decode cX12_move 95 = .ok (.iastore, 1) := by decide +kernel
theorem dX12_move_96 : decode cX12_move 96 = .ok (.iload 4, 2) := by decide +kernel
theorem dX12_move_98 : decode cX12_move 98 = .ok (.iconst (-1), 1) := by decide +kernel
theorem dX12_move_99 : decode cX12_move 99 = .ok (.if_icmp .ne 5, 3) := by decide +kernel
theorem dX12_move_102 : decode cX12_move 102 = .ok (.iconst 0, 1) := by decide +kernel
theorem dX12_move_103 : decode cX12_move 103 = .ok (.ireturn, 1) := by decide +kernel
theorem dX12_move_104 : decode cX12_move 104 = .ok (.iload 5, 2) := by decide +kernel
theorem dX12_move_106 : decode cX12_move 106 = .ok (.ifCond .eq 18, 3) := by decide +kernel
theorem dX12_move_109 : decode cX12_move 109 = .ok (.aload_n 0, 1) := by decide +kernel
theorem dX12_move_110 : decode cX12_move 110 = .ok (.iload 4, 2) := by decide +kernel
theorem dX12_move_112 : decode cX12_move 112 = .ok (.iconst 1, 1) := by decide +kernel
theorem dX12_move_113 : decode cX12_move 113 = .ok (.aload_n 0, 1) := by decide +kernel
theorem dX12_move_114 : decode cX12_move 114 = .ok (.getfield 141, 3) := by decide +kernel
theorem dX12_move_117 : decode cX12_move 117 = .ok (.iload_n 2, 1) := by decide +kernel
theorem dX12_move_118 : decode cX12_move 118 = .ok (.invokevirtual 204, 3) := by decide +kernel
theorem dX12_move_121 : decode cX12_move 121 = .ok (.goto 11, 3) := by decide +kernel
theorem dX12_move_124 : decode cX12_move 124 = .ok (.aload_n 0, 1) := by decide +kernel
theorem dX12_move_125 : decode cX12_move 125 = .ok (.iload 4, 2) := by decide +kernel
theorem dX12_move_127 : decode cX12_move 127 = .ok (.iconst 3, 1) := by decide +kernel
theorem dX12_move_128 : decode cX12_move 128 = .ok (.iload_n 3, 1) := by decide +kernel
theorem dX12_move_129 : decode cX12_move 129 = .ok (.invokevirtual 187, 3) := by decide +kernel
theorem dX12_move_132 : decode cX12_move 132 = .ok (.iload 5, 2) := by decide +kernel
theorem dX12_move_134 : decode cX12_move 134 = .ok (.ireturn, 1) := by decide +kernel
theorem dX12_rates_0 : decode cX12_rates 0 = .ok (.aload_n 0, 1) := by decide +kernel
theorem dX12_rates_1 : decode cX12_rates 1 = .ok (.getfield 68, 3) := by decide +kernel
theorem dX12_rates_4 : decode cX12_rates 4 = .ok (.iload_n 1, 1) := by decide +kernel
theorem dX12_rates_5 : decode cX12_rates 5 = .ok (.iaload, 1) := by decide +kernel
theorem dX12_rates_6 : decode cX12_rates 6 = .ok (.istore_n 2, 1) := by decide +kernel
theorem dX12_rates_7 : decode cX12_rates 7 = .ok (.aload_n 0, 1) := by decide +kernel
theorem dX12_rates_8 : decode cX12_rates 8 = .ok (.iload_n 2, 1) := by decide +kernel
theorem dX12_rates_9 : decode cX12_rates 9 = .ok (.invokevirtual 168, 3) := by decide +kernel
theorem dX12_rates_12 : decode cX12_rates 12 = .ok (.istore_n 3, 1) := by decide +kernel
theorem dX12_rates_13 : decode cX12_rates 13 = .ok (.aload_n 0, 1) := by decide +kernel
theorem dX12_rates_14 : decode cX12_rates 14 = .ok (.getfield 101, 3) := by decide +kernel
theorem dX12_rates_17 : decode cX12_rates 17 = .ok (.iload_n 1, 1) := by decide +kernel
theorem dX12_rates_18 : decode cX12_rates 18 = .ok (.dup2, 1) := by decide +kernel
theorem dX12_rates_19 : decode cX12_rates 19 = .ok (.iaload, 1) := by decide +kernel
theorem dX12_rates_20 : decode cX12_rates 20 = .ok (.iconst 1, 1) := by decide +kernel
theorem dX12_rates_21 : decode cX12_rates 21 = .ok (.isub, 1) := by decide +kernel
theorem dX12_rates_22 : decode cX12_rates 22 = .ok (.iastore, 1) := by decide +kernel
theorem dX12_rates_23 : decode cX12_rates 23 = .ok (.aload_n 0, 1) := by decide +kernel
theorem dX12_rates_24 : decode cX12_rates 24 = .ok (.getfield 80, 3) := by decide +kernel
theorem dX12_rates_27 : decode cX12_rates 27 = .ok (.iload_n 1, 1) := by decide +kernel
theorem dX12_rates_28 : decode cX12_rates 28 = .ok (.dup2, 1) := by decide +kernel
theorem dX12_rates_29 : decode cX12_rates 29 = .ok (.iaload, 1) := by decide +kernel
theorem dX12_rates_30 : decode cX12_rates 30 = .ok (.iconst 1, 1) := by decide +kernel
theorem dX12_rates_31 : decode cX12_rates 31 = .ok (.iadd, 1) := by decide +kernel
theorem dX12_rates_32 : decode cX12_rates 32 = .ok (.iastore, 1) := by decide +kernel
theorem dX12_rates_33 : decode cX12_rates 33 = .ok (.aload_n 0, 1) := by decide +kernel
theorem dX12_rates_34 : decode cX12_rates 34 = .ok (.getfield 95, 3) := by decide +kernel
theorem dX12_rates_37 : decode cX12_rates 37 = .ok (.iload_n 1, 1) := by decide +kernel
theorem dX12_rates_38 : decode cX12_rates 38 = .ok (.aload_n 0, 1) := by decide +kernel
theorem dX12_rates_39 : decode cX12_rates 39 = .ok (.getfield 141, 3) := by decide +kernel
theorem dX12_rates_42 : decode cX12_rates 42 = .ok (.iconst 1, 1) := by decide +kernel
theorem dX12_rates_43 : decode cX12_rates 43 = .ok (.iadd, 1) := by decide +kernel
theorem dX12_rates_44 : decode cX12_rates 44 = .ok (.iastore, 1) := by decide +kernel
theorem dX12_rates_45 : decode cX12_rates 45 = .ok (.aload_n 0, 1) := by decide +kernel
theorem dX12_rates_46 : decode cX12_rates 46 = .ok (.getfield 89, 3) := by decide +kernel
theorem dX12_rates_49 : decode cX12_rates 49 = .ok (.iload_n 1, 1) := by decide +kernel
theorem dX12_rates_50 : decode cX12_rates 50 = .ok (.iconst 3, 1) := by decide +kernel
theorem dX12_rates_51 : decode cX12_rates 51 = .ok (.aload_n 0, 1) := by decide +kernel
theorem dX12_rates_52 : decode cX12_rates 52 = .ok (.getfield 89, 3) := by decide +kernel
theorem dX12_rates_55 : decode cX12_rates 55 = .ok (.iload_n 1, 1) := by decide +kernel
theorem dX12_rates_56 : decode cX12_rates 56 = .ok (.iaload, 1) := by decide +kernel
theorem dX12_rates_57 : decode cX12_rates 57 = .ok (.imul, 1) := by decide +kernel
theorem dX12_rates_58 : decode cX12_rates 58 = .ok (.iload_n 3, 1) := by decide +kernel
theorem dX12_rates_59 : decode cX12_rates 59 = .ok (.iadd, 1) := by decide +kernel
theorem dX12_rates_60 : decode cX12_rates 60 = .ok (.i2b, 1) := by decide +kernel
theorem dX12_rates_61 : decode cX12_rates 61 = .ok (.iastore, 1) := by decide +kernel
theorem dX12_rates_62 : decode cX12_rates 62 = .ok (.aload_n 0, 1) := by decide +kernel
theorem dX12_rates_63 : decode cX12_rates 63 = .ok (.getfield 98, 3) := by decide +kernel
theorem dX12_rates_66 : decode cX12_rates 66 = .ok (.iload_n 1, 1) := by decide +kernel
theorem dX12_rates_67 : decode cX12_rates 67 = .ok (.iaload, 1) := by decide +kernel
theorem dX12_rates_68 : decode cX12_rates 68 = .ok (.iconst (-1), 1) := by decide +kernel
theorem dX12_rates_69 : decode cX12_rates 69 = .ok (.if_icmp .ne 54, 3) := by decide +kernel
theorem dX12_rates_72 : decode cX12_rates 72 = .ok (.aload_n 0, 1) := by decide +kernel
theorem dX12_rates_73 : decode cX12_rates 73 = .ok (.getfield 83, 3) := by decide +kernel
theorem dX12_rates_76 : decode cX12_rates 76 = .ok (.iload_n 1, 1) := by decide +kernel
theorem dX12_rates_77 : decode cX12_rates 77 = .ok (.dup2, 1) := by decide +kernel
theorem dX12_rates_78 : decode cX12_rates 78 = .ok (.iaload, 1) := by decide +kernel
theorem dX12_rates_79 : decode cX12_rates 79 = .ok (.iload_n 3, 1) := by decide +kernel
theorem dX12_rates_80 : decode cX12_rates 80 = .ok (.iadd, 1) := by decide +kernel
theorem dX12_rates_81 : decode cX12_rates 81 = .ok (.iastore, 1) := by decide +kernel
theorem dX12_rates_82 : decode cX12_rates 82 = .ok (.aload_n 0, 1) := by decide +kernel
theorem dX12_rates_83 : decode cX12_rates 83 = .ok (.getfield 47, 3) := by decide +kernel
theorem dX12_rates_86 : decode cX12_rates 86 = .ok (.aload_n 0, 1) := by decide +kernel
theorem dX12_rates_87 : decode cX12_rates 87 = .ok (.getfield 74, 3) := by decide +kernel
theorem dX12_rates_90 : decode cX12_rates 90 = .ok (.iload_n 1, 1) := by decide +kernel
theorem dX12_rates_91 : decode cX12_rates 91 = .ok (.iaload, 1) := by decide +kernel
theorem dX12_rates_92 : decode cX12_rates 92 = .ok (.dup2, 1) := by decide +kernel
theorem dX12_rates_93 : decode cX12_rates 93 = .ok (.iaload, 1) := by decide +kernel
theorem dX12_rates_94 : decode cX12_rates 94 = .ok (.iload_n 3, 1) := by decide +kernel
theorem dX12_rates_95 : decode cX12_rates 95 = .ok (.iadd, 1) := by decide +kernel
theorem dX12_rates_96 : decode cX12_rates 96 = .ok (.iastore, 1) := by decide +kernel
theorem dX12_rates_97 : decode cX12_rates 97 = .ok (.aload_n 0, 1) := by decide +kernel
theorem dX12_rates_98 : decode cX12_rates 98 = .ok (.getfield 38, 3) := by decide +kernel
theorem dX12_rates_101 : decode cX12_rates 101 = .ok (.iload_n 2, 1) := by decide +kernel
theorem dX12_rates_102 : decode cX12_rates 102 = .ok (.aload_n 0, 1) := by decide +kernel
theorem dX12_rates_103 : decode cX12_rates 103 = .ok (.iload_n 2, 1) := by decide +kernel
theorem dX12_rates_104 : decode cX12_rates 104 = .ok (.invokevirtual 165, 3) := by decide +kernel
theorem dX12_rates_107 : decode cX12_rates 107 = .ok (.iload_n 3, 1) := by decide +kernel
theorem dX12_rates_108 : decode cX12_rates 108 = .ok (.iadd, 1) := by decide +kernel
theorem dX12_rates_109 : decode cX12_rates 109 = .ok (.iastore, 1) := by decide +kernel
theorem dX12_rates_110 : decode cX12_rates 110 = .ok (.aload_n 0, 1) := by decide +kernel
theorem dX12_rates_111 : decode cX12_rates 111 = .ok (.getfield 41, 3) := by decide +kernel
theorem dX12_rates_114 : decode cX12_rates 114 = .ok (.iload_n 2, 1) := by decide +kernel
theorem dX12_rates_115 : decode cX12_rates 115 = .ok (.aload_n 0, 1) := by decide +kernel
theorem dX12_rates_116 : decode cX12_rates 116 = .ok (.invokevirtual 147, 3) := by decide +kernel
theorem dX12_rates_119 : decode cX12_rates 119 = .ok (.iastore, 1) := by decide +kernel
theorem dX12_rates_120 : decode cX12_rates 120 = .ok (.goto 13, 3) := by decide +kernel
theorem dX12_rates_123 : decode cX12_rates 123 = .ok (.aload_n 0, 1) := by decide +kernel
theorem dX12_rates_124 : decode cX12_rates 124 = .ok (.getfield 86, 3) := by decide +kernel
theorem dX12_rates_127 : decode cX12_rates 127 = .ok (.iload_n 1, 1) := by decide +kernel
theorem dX12_rates_128 : decode cX12_rates 128 = .ok (.dup2, 1) := by decide +kernel
theorem dX12_rates_129 : decode cX12_rates 129 = .ok (.iaload, 1) := by decide +kernel
theorem dX12_rates_130 : decode cX12_rates 130 = .ok (.iload_n 3, 1) := by decide +kernel
theorem dX12_rates_131 : decode cX12_rates 131 = .ok (.iadd, 1) := by decide +kernel
theorem dX12_rates_132 : decode cX12_rates 132 = .ok (.iastore, 1) := by decide +kernel
theorem dX12_rates_133 : decode cX12_rates 133 = .ok (.return_, 1) := by decide +kernel
theorem dX12_lives_0 : decode cX12_lives 0 = .ok (.aload_n 0, 1) := by decide +kernel
theorem dX12_lives_1 : decode cX12_lives 1 = .ok (.getfield 68, 3) := by decide +kernel
theorem dX12_lives_4 : decode cX12_lives 4 = .ok (.iload_n 1, 1) := by decide +kernel
theorem dX12_lives_5 : decode cX12_lives 5 = .ok (.iaload, 1) := by decide +kernel
theorem dX12_lives_6 : decode cX12_lives 6 = .ok (.istore_n 2, 1) := by decide +kernel
theorem dX12_lives_7 : decode cX12_lives 7 = .ok (.aload_n 0, 1) := by decide +kernel
theorem dX12_lives_8 : decode cX12_lives 8 = .ok (.getfield 98, 3) := by decide +kernel
theorem dX12_lives_11 : decode cX12_lives 11 = .ok (.iload_n 1, 1) := by decide +kernel
theorem dX12_lives_12 : decode cX12_lives 12 = .ok (.iaload, 1) := by decide +kernel
theorem dX12_lives_13 : decode cX12_lives 13 = .ok (.istore_n 3, 1) := by decide +kernel
theorem dX12_lives_14 : decode cX12_lives 14 = .ok (.iload_n 3, 1) := by decide +kernel
theorem dX12_lives_15 : decode cX12_lives 15 = .ok (.iconst (-1), 1) := by decide +kernel
theorem dX12_lives_16 : decode cX12_lives 16 = .ok (.if_icmp .ne 25, 3) := by decide +kernel
theorem dX12_lives_19 : decode cX12_lives 19 = .ok (.aload_n 0, 1) := by decide +kernel
theorem dX12_lives_20 : decode cX12_lives 20 = .ok (.getfield 104, 3) := by decide +kernel
theorem dX12_lives_23 : decode cX12_lives 23 = .ok (.iload_n 1, 1) := by decide +kernel
theorem dX12_lives_24 : decode cX12_lives 24 = .ok (.iaload, 1) := by decide +kernel
theorem dX12_lives_25 : decode cX12_lives 25 = .ok (.aload_n 0, 1) := by decide +kernel
theorem dX12_lives_26 : decode cX12_lives 26 = .ok (.iload_n 2, 1) := by decide +kernel
theorem dX12_lives_27 : decode cX12_lives 27 = .ok (.invokevirtual 168, 3) := by decide +kernel
theorem dX12_lives_30 : decode cX12_lives 30 = .ok (.if_icmp .eq 7, 3) := by decide +kernel
theorem dX12_lives_33 : decode cX12_lives 33 = .ok (.iconst 1, 1) := by decide +kernel
theorem dX12_lives_34 : decode cX12_lives 34 = .ok (.goto 47, 3) := by decide +kernel
theorem dX12_lives_37 : decode cX12_lives 37 = .ok (.iconst 0, 1) := by decide +kernel
theorem dX12_lives_38 : decode cX12_lives 38 = .ok (.goto 43, 3) := by decide +kernel
theorem dX12_lives_41 : decode cX12_lives 41 = .ok (.iload_n 3, 1) := by decide +kernel
theorem dX12_lives_42 : decode cX12_lives 42 = .ok (.ifCond .lt 38, 3) := by decide +kernel
theorem dX12_lives_45 : decode cX12_lives 45 = .ok (.aload_n 0, 1) := by decide +kernel
theorem dX12_lives_46 : decode cX12_lives 46 = .ok (.iload_n 3, 1) := by decide +kernel
theorem dX12_lives_47 : decode cX12_lives 47 = .ok (.invokevirtual 154, 3) := by decide +kernel
theorem dX12_lives_50 : decode cX12_lives 50 = .ok (.ifCond .ne 26, 3) := by decide +kernel
theorem dX12_lives_53 : decode cX12_lives 53 = .ok (.aload_n 0, 1) := by decide +kernel
theorem dX12_lives_54 : decode cX12_lives 54 = .ok (.getfield 53, 3) := by decide +kernel
theorem dX12_lives_57 : decode cX12_lives 57 = .ok (.iload_n 3, 1) := by decide +kernel
theorem dX12_lives_58 : decode cX12_lives 58 = .ok (.iaload, 1) := by decide +kernel
theorem dX12_lives_59 : decode cX12_lives 59 = .ok (.aload_n 0, 1) := by decide +kernel
theorem dX12_lives_60 : decode cX12_lives 60 = .ok (.getfield 13, 3) := by decide +kernel
theorem dX12_lives_63 : decode cX12_lives 63 = .ok (.aload_n 0, 1) := by decide +kernel
theorem dX12_lives_64 : decode cX12_lives 64 = .ok (.getfield 26, 3) := by decide +kernel
theorem dX12_lives_67 : decode cX12_lives 67 = .ok (.iload_n 2, 1) := by decide +kernel
theorem dX12_lives_68 : decode cX12_lives 68 = .ok (.iaload, 1) := by decide +kernel
theorem dX12_lives_69 : decode cX12_lives 69 = .ok (.iaload, 1) := by decide +kernel
theorem dX12_lives_70 : decode cX12_lives 70 = .ok (.ishr, 1) := by decide +kernel
theorem dX12_lives_71 : decode cX12_lives 71 = .ok (.iconst 1, 1) := by decide +kernel
theorem dX12_lives_72 : decode cX12_lives 72 = .ok (.iand, 1) := by decide +kernel
theorem dX12_lives_73 : decode cX12_lives 73 = .ok (.ifCond .ne 7, 3) := by decide +kernel
theorem dX12_lives_76 : decode cX12_lives 76 = .ok (.iconst 1, 1) := by decide +kernel
theorem dX12_lives_77 : decode cX12_lives 77 = .ok (.goto 4, 3) := by decide +kernel
theorem dX12_lives_80 : decode cX12_lives 80 = .ok (.iconst 0, 1) := by decide +kernel
theorem dX12_lives_81 : decode cX12_lives 81 = .ok (.istore 4, 2) := by decide +kernel
theorem dX12_lives_83 : decode cX12_lives 83 = .ok (.iload 4, 2) := by decide +kernel
theorem dX12_lives_85 : decode cX12_lives 85 = .ok (.ifCond .eq 8, 3) := by decide +kernel
theorem dX12_lives_88 : decode cX12_lives 88 = .ok (.aload_n 0, 1) := by decide +kernel
theorem dX12_lives_89 : decode cX12_lives 89 = .ok (.iload_n 1, 1) := by decide +kernel
theorem dX12_lives_90 : decode cX12_lives 90 = .ok (.invokevirtual 200, 3) := by decide +kernel
theorem dX12_lives_93 : decode cX12_lives 93 = .ok (.aload_n 0, 1) := by decide +kernel
theorem dX12_lives_94 : decode cX12_lives 94 = .ok (.getfield 101, 3) := by decide +kernel
theorem dX12_lives_97 : decode cX12_lives 97 = .ok (.iload_n 1, 1) := by decide +kernel
theorem dX12_lives_98 : decode cX12_lives 98 = .ok (.iaload, 1) := by decide +kernel
theorem dX12_lives_99 : decode cX12_lives 99 = .ok (.ifCond .ne 8, 3) := by decide +kernel
theorem dX12_lives_102 : decode cX12_lives 102 = .ok (.aload_n 0, 1) := by decide +kernel
theorem dX12_lives_103 : decode cX12_lives 103 = .ok (.iload_n 1, 1) := by decide +kernel
theorem dX12_lives_104 : decode cX12_lives 104 = .ok (.invokevirtual 215, 3) := by decide +kernel
theorem dX12_lives_107 : decode cX12_lives 107 = .ok (.aload_n 0, 1) := by decide +kernel
theorem dX12_lives_108 : decode cX12_lives 108 = .ok (.getfield 77, 3) := by decide +kernel
theorem dX12_lives_111 : decode cX12_lives 111 = .ok (.iload_n 1, 1) := by decide +kernel
theorem dX12_lives_112 : decode cX12_lives 112 = .ok (.iaload, 1) := by decide +kernel
theorem dX12_lives_113 : decode cX12_lives 113 = .ok (.ifCond .ne 8, 3) := by decide +kernel
theorem dX12_lives_116 : decode cX12_lives 116 = .ok (.aload_n 0, 1) := by decide +kernel
theorem dX12_lives_117 : decode cX12_lives 117 = .ok (.iload_n 1, 1) := by decide +kernel
theorem dX12_lives_118 : decode cX12_lives 118 = .ok (.invokevirtual 224, 3) := by decide +kernel
theorem dX12_lives_121 : decode cX12_lives 121 = .ok (.return_, 1) := by decide +kernel
theorem dX12_pass_0 : decode cX12_pass 0 = .ok (.aload_n 0, 1) := by decide +kernel
theorem dX12_pass_1 : decode cX12_pass 1 = .ok (.iload_n 1, 1) := by decide +kernel
theorem dX12_pass_2 : decode cX12_pass 2 = .ok (.iconst 1, 1) := by decide +kernel
theorem dX12_pass_3 : decode cX12_pass 3 = .ok (.sipush 500, 3) := by decide +kernel
theorem dX12_pass_6 : decode cX12_pass 6 = .ok (.invokestatic 110, 3) := by decide +kernel
theorem dX12_pass_9 : decode cX12_pass 9 = .ok (.ifCond .ne 7, 3) := by decide +kernel
theorem dX12_pass_12 : decode cX12_pass 12 = .ok (.iconst 1, 1) := by decide +kernel
theorem dX12_pass_13 : decode cX12_pass 13 = .ok (.goto 19, 3) := by decide +kernel
theorem dX12_pass_16 : decode cX12_pass 16 = .ok (.aload_n 0, 1) := by decide +kernel
theorem dX12_pass_17 : decode cX12_pass 17 = .ok (.getfield 141, 3) := by decide +kernel
theorem dX12_pass_20 : decode cX12_pass 20 = .ok (.iload_n 1, 1) := by decide +kernel
theorem dX12_pass_21 : decode cX12_pass 21 = .ok (.iadd, 1) := by decide +kernel
theorem dX12_pass_22 : decode cX12_pass 22 = .ok (.ldc 226, 2) := by decide +kernel
theorem dX12_pass_24 : decode cX12_pass 24 = .ok (.if_icmp .le 7, 3) := by decide +kernel
theorem dX12_pass_27 : decode cX12_pass 27 = .ok (.iconst 2, 1) := by decide +kernel
theorem dX12_pass_28 : decode cX12_pass 28 = .ok (.goto 4, 3) := by decide +kernel
theorem dX12_pass_31 : decode cX12_pass 31 = .ok (.iconst 0, 1) := by decide +kernel
theorem dX12_pass_32 : decode cX12_pass 32 = .ok (.invokevirtual 127, 3) := by decide +kernel
theorem dX12_pass_35 : decode cX12_pass 35 = .ok (.ifCond .ne 5, 3) := by decide +kernel
theorem dX12_pass_38 : decode cX12_pass 38 = .ok (.iconst 0, 1) := by decide +kernel
theorem dX12_pass_39 : decode cX12_pass 39 = .ok (.ireturn, 1) := by decide +kernel
theorem dX12_pass_40 : decode cX12_pass 40 = .ok (.aload_n 0, 1) := by decide +kernel
theorem dX12_pass_41 : decode cX12_pass 41 = .ok (.iconst 0, 1) := by decide +kernel
theorem dX12_pass_42 : decode cX12_pass 42 = .ok (.putfield 184, 3) := by decide +kernel
theorem dX12_pass_45 : decode cX12_pass 45 = .ok (.iconst 0, 1) := by decide +kernel
theorem dX12_pass_46 : decode cX12_pass 46 = .ok (.istore_n 2, 1) := by decide +kernel
theorem dX12_pass_47 : decode cX12_pass 47 = .ok (.iload_n 2, 1) := by decide +kernel
theorem dX12_pass_48 : decode cX12_pass 48 = .ok (.iload_n 1, 1) := by decide +kernel
theorem dX12_pass_49 : decode cX12_pass 49 = .ok (.if_icmp .ge 53, 3) := by decide +kernel
theorem dX12_pass_52 : decode cX12_pass 52 = .ok (.iconst 0, 1) := by decide +kernel
theorem dX12_pass_53 : decode cX12_pass 53 = .ok (.istore_n 3, 1) := by decide +kernel
theorem dX12_pass_54 : decode cX12_pass 54 = .ok (.iload_n 3, 1) := by decide +kernel
theorem dX12_pass_55 : decode cX12_pass 55 = .ok (.bipush 10, 2) := by decide +kernel
theorem dX12_pass_57 : decode cX12_pass 57 = .ok (.if_icmp .ge 29, 3) := by decide +kernel
theorem dX12_pass_60 : decode cX12_pass 60 = .ok (.aload_n 0, 1) := by decide +kernel
theorem dX12_pass_61 : decode cX12_pass 61 = .ok (.getfield 35, 3) := by decide +kernel
theorem dX12_pass_64 : decode cX12_pass 64 = .ok (.iload_n 3, 1) := by decide +kernel
theorem dX12_pass_65 : decode cX12_pass 65 = .ok (.iaload, 1) := by decide +kernel
theorem dX12_pass_66 : decode cX12_pass 66 = .ok (.iconst (-1), 1) := by decide +kernel
theorem dX12_pass_67 : decode cX12_pass 67 = .ok (.if_icmp .eq 13, 3) := by decide +kernel
theorem dX12_pass_70 : decode cX12_pass 70 = .ok (.aload_n 0, 1) := by decide +kernel
theorem dX12_pass_71 : decode cX12_pass 71 = .ok (.aload_n 0, 1) := by decide +kernel
theorem dX12_pass_72 : decode cX12_pass 72 = .ok (.getfield 35, 3) := by decide +kernel
theorem dX12_pass_75 : decode cX12_pass 75 = .ok (.iload_n 3, 1) := by decide +kernel
theorem dX12_pass_76 : decode cX12_pass 76 = .ok (.iaload, 1) := by decide +kernel
theorem dX12_pass_77 : decode cX12_pass 77 = .ok (.invokevirtual 227, 3) := by decide +kernel
theorem dX12_pass_80 : decode cX12_pass 80 = .ok (.iinc 3 1, 3) := by decide +kernel
theorem dX12_pass_83 : decode cX12_pass 83 = .ok (.goto (-29), 3) := by decide +kernel
theorem dX12_pass_86 : decode cX12_pass 86 = .ok (.aload_n 0, 1) := by decide +kernel
theorem dX12_pass_87 : decode cX12_pass 87 = .ok (.dup, 1) := by decide +kernel
theorem dX12_pass_88 : decode cX12_pass 88 = .ok (.getfield 141, 3) := by decide +kernel
theorem dX12_pass_91 : decode cX12_pass 91 = .ok (.iconst 1, 1) := by decide +kernel
theorem dX12_pass_92 : decode cX12_pass 92 = .ok (.iadd, 1) := by decide +kernel
theorem dX12_pass_93 : decode cX12_pass 93 = .ok (.putfield 141, 3) := by decide +kernel
theorem dX12_pass_96 : decode cX12_pass 96 = .ok (.iinc 2 1, 3) := by decide +kernel
theorem dX12_pass_99 : decode cX12_pass 99 = .ok (.goto (-52), 3) := by decide +kernel
theorem dX12_pass_102 : decode cX12_pass 102 = .ok (.aload_n 0, 1) := by decide +kernel
theorem dX12_pass_103 : decode cX12_pass 103 = .ok (.getfield 184, 3) := by decide +kernel
theorem dX12_pass_106 : decode cX12_pass 106 = .ok (.ireturn, 1) := by decide +kernel
theorem dX12_now_0 : decode cX12_now 0 = .ok (.aload_n 0, 1) := by decide +kernel
theorem dX12_now_1 : decode cX12_now 1 = .ok (.iconst 0, 1) := by decide +kernel
theorem dX12_now_2 : decode cX12_now 2 = .ok (.putfield 107, 3) := by decide +kernel
theorem dX12_now_5 : decode cX12_now 5 = .ok (.aload_n 0, 1) := by decide +kernel
theorem dX12_now_6 : decode cX12_now 6 = .ok (.getfield 141, 3) := by decide +kernel
theorem dX12_now_9 : decode cX12_now 9 = .ok (.ireturn, 1) := by decide +kernel
theorem dX12_isAsked_0 : decode cX12_isAsked 0 = .ok (.aload_n 0, 1) := by decide +kernel
theorem dX12_isAsked_1 : decode cX12_isAsked 1 = .ok (.iload_n 1, 1) := by decide +kernel
theorem dX12_isAsked_2 : decode cX12_isAsked 2 = .ok (.invokestatic 134, 3) := by decide +kernel
theorem dX12_isAsked_5 : decode cX12_isAsked 5 = .ok (.ifCond .eq 7, 3) := by decide +kernel
theorem dX12_isAsked_8 : decode cX12_isAsked 8 = .ok (.iconst 0, 1) := by decide +kernel
theorem dX12_isAsked_9 : decode cX12_isAsked 9 = .ok (.goto 4, 3) := by decide +kernel
theorem dX12_isAsked_12 : decode cX12_isAsked 12 = .ok (.iconst 1, 1) := by decide +kernel
theorem dX12_isAsked_13 : decode cX12_isAsked 13 = .ok (.invokevirtual 127, 3) := by decide +kernel
theorem dX12_isAsked_16 : decode cX12_isAsked 16 = .ok (.ireturn, 1) := by decide +kernel
theorem dX12_cellOf_0 : decode cX12_cellOf 0 = .ok (.aload_n 0, 1) := by decide +kernel
theorem dX12_cellOf_1 : decode cX12_cellOf 1 = .ok (.iload_n 1, 1) := by decide +kernel
theorem dX12_cellOf_2 : decode cX12_cellOf 2 = .ok (.invokevirtual 230, 3) := by decide +kernel
theorem dX12_cellOf_5 : decode cX12_cellOf 5 = .ok (.ifCond .eq 12, 3) := by decide +kernel
theorem dX12_cellOf_8 : decode cX12_cellOf 8 = .ok (.aload_n 0, 1) := by decide +kernel
theorem dX12_cellOf_9 : decode cX12_cellOf 9 = .ok (.getfield 26, 3) := by decide +kernel
theorem dX12_cellOf_12 : decode cX12_cellOf 12 = .ok (.iload_n 1, 1) := by decide +kernel
theorem dX12_cellOf_13 : decode cX12_cellOf 13 = .ok (.iaload, 1) := by decide +kernel
theorem dX12_cellOf_14 : decode cX12_cellOf 14 = .ok (.goto 4, 3) := by decide +kernel
theorem dX12_cellOf_17 : decode cX12_cellOf 17 = .ok (.iconst 0, 1) := by decide +kernel
theorem dX12_cellOf_18 : decode cX12_cellOf 18 = .ok (.ireturn, 1) := by decide +kernel
theorem dX12_rateOf_0 : decode cX12_rateOf 0 = .ok (.aload_n 0, 1) := by decide +kernel
theorem dX12_rateOf_1 : decode cX12_rateOf 1 = .ok (.iload_n 1, 1) := by decide +kernel
theorem dX12_rateOf_2 : decode cX12_rateOf 2 = .ok (.invokevirtual 230, 3) := by decide +kernel
theorem dX12_rateOf_5 : decode cX12_rateOf 5 = .ok (.ifCond .eq 11, 3) := by decide +kernel
theorem dX12_rateOf_8 : decode cX12_rateOf 8 = .ok (.aload_n 0, 1) := by decide +kernel
theorem dX12_rateOf_9 : decode cX12_rateOf 9 = .ok (.iload_n 1, 1) := by decide +kernel
theorem dX12_rateOf_10 : decode cX12_rateOf 10 = .ok (.invokevirtual 168, 3) := by decide +kernel
theorem dX12_rateOf_13 : decode cX12_rateOf 13 = .ok (.goto 4, 3) := by decide +kernel
theorem dX12_rateOf_16 : decode cX12_rateOf 16 = .ok (.iconst 0, 1) := by decide +kernel
theorem dX12_rateOf_17 : decode cX12_rateOf 17 = .ok (.ireturn, 1) := by decide +kernel
theorem dX12_legOf_0 : decode cX12_legOf 0 = .ok (.aload_n 0, 1) := by decide +kernel
theorem dX12_legOf_1 : decode cX12_legOf 1 = .ok (.iload_n 1, 1) := by decide +kernel
theorem dX12_legOf_2 : decode cX12_legOf 2 = .ok (.invokevirtual 230, 3) := by decide +kernel
theorem dX12_legOf_5 : decode cX12_legOf 5 = .ok (.ifCond .eq 12, 3) := by decide +kernel
theorem dX12_legOf_8 : decode cX12_legOf 8 = .ok (.aload_n 0, 1) := by decide +kernel
theorem dX12_legOf_9 : decode cX12_legOf 9 = .ok (.getfield 35, 3) := by decide +kernel
theorem dX12_legOf_12 : decode cX12_legOf 12 = .ok (.iload_n 1, 1) := by decide +kernel
theorem dX12_legOf_13 : decode cX12_legOf 13 = .ok (.iaload, 1) := by decide +kernel
theorem dX12_legOf_14 : decode cX12_legOf 14 = .ok (.goto 4, 3) := by decide +kernel
theorem dX12_legOf_17 : decode cX12_legOf 17 = .ok (.iconst 0, 1) := by decide +kernel
theorem dX12_legOf_18 : decode cX12_legOf 18 = .ok (.ireturn, 1) := by decide +kernel
theorem dX12_sliceOf_0 : decode cX12_sliceOf 0 = .ok (.aload_n 0, 1) := by decide +kernel
theorem dX12_sliceOf_1 : decode cX12_sliceOf 1 = .ok (.iload_n 1, 1) := by decide +kernel
theorem dX12_sliceOf_2 : decode cX12_sliceOf 2 = .ok (.invokevirtual 230, 3) := by decide +kernel
theorem dX12_sliceOf_5 : decode cX12_sliceOf 5 = .ok (.ifCond .eq 27, 3) := by decide +kernel
theorem dX12_sliceOf_8 : decode cX12_sliceOf 8 = .ok (.aload_n 0, 1) := by decide +kernel
theorem dX12_sliceOf_9 : decode cX12_sliceOf 9 = .ok (.getfield 35, 3) := by decide +kernel
theorem dX12_sliceOf_12 : decode cX12_sliceOf 12 = .ok (.iload_n 1, 1) := by decide +kernel
theorem dX12_sliceOf_13 : decode cX12_sliceOf 13 = .ok (.iaload, 1) := by decide +kernel
theorem dX12_sliceOf_14 : decode cX12_sliceOf 14 = .ok (.iconst (-1), 1) := by decide +kernel
theorem dX12_sliceOf_15 : decode cX12_sliceOf 15 = .ok (.if_icmp .eq 17, 3) := by decide +kernel
theorem dX12_sliceOf_18 : decode cX12_sliceOf 18 = .ok (.aload_n 0, 1) := by decide +kernel
theorem dX12_sliceOf_19 : decode cX12_sliceOf 19 = .ok (.getfield 101, 3) := by decide +kernel
theorem dX12_sliceOf_22 : decode cX12_sliceOf 22 = .ok (.aload_n 0, 1) := by decide +kernel
theorem dX12_sliceOf_23 : decode cX12_sliceOf 23 = .ok (.getfield 35, 3) := by decide +kernel
theorem dX12_sliceOf_26 : decode cX12_sliceOf 26 = .ok (.iload_n 1, 1) := by decide +kernel
theorem dX12_sliceOf_27 : decode cX12_sliceOf 27 = .ok (.iaload, 1) := by decide +kernel
theorem dX12_sliceOf_28 : decode cX12_sliceOf 28 = .ok (.iaload, 1) := by decide +kernel
theorem dX12_sliceOf_29 : decode cX12_sliceOf 29 = .ok (.goto 4, 3) := by decide +kernel
theorem dX12_sliceOf_32 : decode cX12_sliceOf 32 = .ok (.iconst 0, 1) := by decide +kernel
theorem dX12_sliceOf_33 : decode cX12_sliceOf 33 = .ok (.ireturn, 1) := by decide +kernel
theorem dX12_parties_0 : decode cX12_parties 0 = .ok (.aload_n 0, 1) := by decide +kernel
theorem dX12_parties_1 : decode cX12_parties 1 = .ok (.aload_n 0, 1) := by decide +kernel
theorem dX12_parties_2 : decode cX12_parties 2 = .ok (.iload_n 1, 1) := by decide +kernel
theorem dX12_parties_3 : decode cX12_parties 3 = .ok (.invokevirtual 218, 3) := by decide +kernel
theorem dX12_parties_6 : decode cX12_parties 6 = .ok (.ifCond .eq 7, 3) := by decide +kernel
theorem dX12_parties_9 : decode cX12_parties 9 = .ok (.iconst 0, 1) := by decide +kernel
theorem dX12_parties_10 : decode cX12_parties 10 = .ok (.goto 4, 3) := by decide +kernel
theorem dX12_parties_13 : decode cX12_parties 13 = .ok (.iconst 1, 1) := by decide +kernel
theorem dX12_parties_14 : decode cX12_parties 14 = .ok (.invokevirtual 127, 3) := by decide +kernel
theorem dX12_parties_17 : decode cX12_parties 17 = .ok (.ifCond .eq 11, 3) := by decide +kernel
theorem dX12_parties_20 : decode cX12_parties 20 = .ok (.aload_n 0, 1) := by decide +kernel
theorem dX12_parties_21 : decode cX12_parties 21 = .ok (.iload_n 1, 1) := by decide +kernel
theorem dX12_parties_22 : decode cX12_parties 22 = .ok (.invokevirtual 197, 3) := by decide +kernel
theorem dX12_parties_25 : decode cX12_parties 25 = .ok (.goto 4, 3) := by decide +kernel
theorem dX12_parties_28 : decode cX12_parties 28 = .ok (.iconst 0, 1) := by decide +kernel
theorem dX12_parties_29 : decode cX12_parties 29 = .ok (.ireturn, 1) := by decide +kernel
theorem dX12_legs_0 : decode cX12_legs 0 = .ok (.aload_n 0, 1) := by decide +kernel
theorem dX12_legs_1 : decode cX12_legs 1 = .ok (.iconst 0, 1) := by decide +kernel
theorem dX12_legs_2 : decode cX12_legs 2 = .ok (.putfield 107, 3) := by decide +kernel
theorem dX12_legs_5 : decode cX12_legs 5 = .ok (.aload_n 0, 1) := by decide +kernel
theorem dX12_legs_6 : decode cX12_legs 6 = .ok (.getfield 117, 3) := by decide +kernel
theorem dX12_legs_9 : decode cX12_legs 9 = .ok (.ireturn, 1) := by decide +kernel
theorem dX12_isAskedOf_0 : decode cX12_isAskedOf 0 = .ok (.aload_n 0, 1) := by decide +kernel
theorem dX12_isAskedOf_1 : decode cX12_isAskedOf 1 = .ok (.aload_n 0, 1) := by decide +kernel
theorem dX12_isAskedOf_2 : decode cX12_isAskedOf 2 = .ok (.iload_n 1, 1) := by decide +kernel
theorem dX12_isAskedOf_3 : decode cX12_isAskedOf 3 = .ok (.invokevirtual 233, 3) := by decide +kernel
theorem dX12_isAskedOf_6 : decode cX12_isAskedOf 6 = .ok (.ifCond .eq 7, 3) := by decide +kernel
theorem dX12_isAskedOf_9 : decode cX12_isAskedOf 9 = .ok (.iconst 0, 1) := by decide +kernel
theorem dX12_isAskedOf_10 : decode cX12_isAskedOf 10 = .ok (.goto 4, 3) := by decide +kernel
theorem dX12_isAskedOf_13 : decode cX12_isAskedOf 13 = .ok (.iconst 1, 1) := by decide +kernel
theorem dX12_isAskedOf_14 : decode cX12_isAskedOf 14 = .ok (.invokevirtual 127, 3) := by decide +kernel
theorem dX12_isAskedOf_17 : decode cX12_isAskedOf 17 = .ok (.ireturn, 1) := by decide +kernel
theorem dX12_stateOf_0 : decode cX12_stateOf 0 = .ok (.aload_n 0, 1) := by decide +kernel
theorem dX12_stateOf_1 : decode cX12_stateOf 1 = .ok (.iload_n 1, 1) := by decide +kernel
theorem dX12_stateOf_2 : decode cX12_stateOf 2 = .ok (.invokevirtual 236, 3) := by decide +kernel
theorem dX12_stateOf_5 : decode cX12_stateOf 5 = .ok (.ifCond .eq 12, 3) := by decide +kernel
theorem dX12_stateOf_8 : decode cX12_stateOf 8 = .ok (.aload_n 0, 1) := by decide +kernel
theorem dX12_stateOf_9 : decode cX12_stateOf 9 = .ok (.getfield 77, 3) := by decide +kernel
theorem dX12_stateOf_12 : decode cX12_stateOf 12 = .ok (.iload_n 1, 1) := by decide +kernel
theorem dX12_stateOf_13 : decode cX12_stateOf 13 = .ok (.iaload, 1) := by decide +kernel
theorem dX12_stateOf_14 : decode cX12_stateOf 14 = .ok (.goto 4, 3) := by decide +kernel
theorem dX12_stateOf_17 : decode cX12_stateOf 17 = .ok (.iconst 0, 1) := by decide +kernel
theorem dX12_stateOf_18 : decode cX12_stateOf 18 = .ok (.ireturn, 1) := by decide +kernel
theorem dX12_seconds_0 : decode cX12_seconds 0 = .ok (.aload_n 0, 1) := by decide +kernel
theorem dX12_seconds_1 : decode cX12_seconds 1 = .ok (.iload_n 1, 1) := by decide +kernel
theorem dX12_seconds_2 : decode cX12_seconds 2 = .ok (.invokevirtual 236, 3) := by decide +kernel
theorem dX12_seconds_5 : decode cX12_seconds 5 = .ok (.ifCond .eq 12, 3) := by decide +kernel
theorem dX12_seconds_8 : decode cX12_seconds 8 = .ok (.aload_n 0, 1) := by decide +kernel
theorem dX12_seconds_9 : decode cX12_seconds 9 = .ok (.getfield 80, 3) := by decide +kernel
theorem dX12_seconds_12 : decode cX12_seconds 12 = .ok (.iload_n 1, 1) := by decide +kernel
theorem dX12_seconds_13 : decode cX12_seconds 13 = .ok (.iaload, 1) := by decide +kernel
theorem dX12_seconds_14 : decode cX12_seconds 14 = .ok (.goto 4, 3) := by decide +kernel
theorem dX12_seconds_17 : decode cX12_seconds 17 = .ok (.iconst 0, 1) := by decide +kernel
theorem dX12_seconds_18 : decode cX12_seconds 18 = .ok (.ireturn, 1) := by decide +kernel
theorem dX12_charged_0 : decode cX12_charged 0 = .ok (.aload_n 0, 1) := by decide +kernel
theorem dX12_charged_1 : decode cX12_charged 1 = .ok (.iload_n 1, 1) := by decide +kernel
theorem dX12_charged_2 : decode cX12_charged 2 = .ok (.invokevirtual 236, 3) := by decide +kernel
theorem dX12_charged_5 : decode cX12_charged 5 = .ok (.ifCond .eq 12, 3) := by decide +kernel
theorem dX12_charged_8 : decode cX12_charged 8 = .ok (.aload_n 0, 1) := by decide +kernel
theorem dX12_charged_9 : decode cX12_charged 9 = .ok (.getfield 83, 3) := by decide +kernel
theorem dX12_charged_12 : decode cX12_charged 12 = .ok (.iload_n 1, 1) := by decide +kernel
theorem dX12_charged_13 : decode cX12_charged 13 = .ok (.iaload, 1) := by decide +kernel
theorem dX12_charged_14 : decode cX12_charged 14 = .ok (.goto 4, 3) := by decide +kernel
theorem dX12_charged_17 : decode cX12_charged 17 = .ok (.iconst 0, 1) := by decide +kernel
theorem dX12_charged_18 : decode cX12_charged 18 = .ok (.ireturn, 1) := by decide +kernel
theorem dX12_covered_0 : decode cX12_covered 0 = .ok (.aload_n 0, 1) := by decide +kernel
theorem dX12_covered_1 : decode cX12_covered 1 = .ok (.iload_n 1, 1) := by decide +kernel
theorem dX12_covered_2 : decode cX12_covered 2 = .ok (.invokevirtual 236, 3) := by decide +kernel
theorem dX12_covered_5 : decode cX12_covered 5 = .ok (.ifCond .eq 12, 3) := by decide +kernel
theorem dX12_covered_8 : decode cX12_covered 8 = .ok (.aload_n 0, 1) := by decide +kernel
theorem dX12_covered_9 : decode cX12_covered 9 = .ok (.getfield 86, 3) := by decide +kernel
theorem dX12_covered_12 : decode cX12_covered 12 = .ok (.iload_n 1, 1) := by decide +kernel
theorem dX12_covered_13 : decode cX12_covered 13 = .ok (.iaload, 1) := by decide +kernel
theorem dX12_covered_14 : decode cX12_covered 14 = .ok (.goto 4, 3) := by decide +kernel
theorem dX12_covered_17 : decode cX12_covered 17 = .ok (.iconst 0, 1) := by decide +kernel
theorem dX12_covered_18 : decode cX12_covered 18 = .ok (.ireturn, 1) := by decide +kernel
theorem dX12_ratedByEvents_0 : decode cX12_ratedByEvents 0 = .ok (.aload_n 0, 1) := by decide +kernel
theorem dX12_ratedByEvents_1 : decode cX12_ratedByEvents 1 = .ok (.iload_n 1, 1) := by decide +kernel
theorem dX12_ratedByEvents_2 : decode cX12_ratedByEvents 2 = .ok (.invokevirtual 236, 3) := by decide +kernel
theorem dX12_ratedByEvents_5 : decode cX12_ratedByEvents 5 = .ok (.ifCond .eq 19, 3) := by decide +kernel
theorem dX12_ratedByEvents_8 : decode cX12_ratedByEvents 8 = .ok (.aload_n 0, 1) := by decide +kernel
theorem dX12_ratedByEvents_9 : decode cX12_ratedByEvents 9 = .ok (.getfield 83, 3) := by decide +kernel
theorem dX12_ratedByEvents_12 : decode cX12_ratedByEvents 12 = .ok (.iload_n 1, 1) := by decide +kernel
theorem dX12_ratedByEvents_13 : decode cX12_ratedByEvents 13 = .ok (.iaload, 1) := by decide +kernel
theorem dX12_ratedByEvents_14 : decode cX12_ratedByEvents 14 = .ok (.aload_n 0, 1) := by decide +kernel
theorem dX12_ratedByEvents_15 : decode cX12_ratedByEvents 15 = .ok (.getfield 86, 3) := by decide +kernel
theorem dX12_ratedByEvents_18 : decode cX12_ratedByEvents 18 = .ok (.iload_n 1, 1) := by decide +kernel
theorem dX12_ratedByEvents_19 : decode cX12_ratedByEvents 19 = .ok (.iaload, 1) := by decide +kernel
theorem dX12_ratedByEvents_20 : decode cX12_ratedByEvents 20 = .ok (.iadd, 1) := by decide +kernel
theorem dX12_ratedByEvents_21 : decode cX12_ratedByEvents 21 = .ok (.goto 4, 3) := by decide +kernel
theorem dX12_ratedByEvents_24 : decode cX12_ratedByEvents 24 = .ok (.iconst 0, 1) := by decide +kernel
theorem dX12_ratedByEvents_25 : decode cX12_ratedByEvents 25 = .ok (.ireturn, 1) := by decide +kernel
theorem dX12_tag_0 : decode cX12_tag 0 = .ok (.aload_n 0, 1) := by decide +kernel
theorem dX12_tag_1 : decode cX12_tag 1 = .ok (.iload_n 1, 1) := by decide +kernel
theorem dX12_tag_2 : decode cX12_tag 2 = .ok (.invokevirtual 236, 3) := by decide +kernel
theorem dX12_tag_5 : decode cX12_tag 5 = .ok (.ifCond .eq 12, 3) := by decide +kernel
theorem dX12_tag_8 : decode cX12_tag 8 = .ok (.aload_n 0, 1) := by decide +kernel
theorem dX12_tag_9 : decode cX12_tag 9 = .ok (.getfield 89, 3) := by decide +kernel
theorem dX12_tag_12 : decode cX12_tag 12 = .ok (.iload_n 1, 1) := by decide +kernel
theorem dX12_tag_13 : decode cX12_tag 13 = .ok (.iaload, 1) := by decide +kernel
theorem dX12_tag_14 : decode cX12_tag 14 = .ok (.goto 4, 3) := by decide +kernel
theorem dX12_tag_17 : decode cX12_tag 17 = .ok (.iconst 0, 1) := by decide +kernel
theorem dX12_tag_18 : decode cX12_tag 18 = .ok (.ireturn, 1) := by decide +kernel
theorem dX12_sealOf_0 : decode cX12_sealOf 0 = .ok (.aload_n 0, 1) := by decide +kernel
theorem dX12_sealOf_1 : decode cX12_sealOf 1 = .ok (.getfield 92, 3) := by decide +kernel
theorem dX12_sealOf_4 : decode cX12_sealOf 4 = .ok (.iload_n 1, 1) := by decide +kernel
theorem dX12_sealOf_5 : decode cX12_sealOf 5 = .ok (.iaload, 1) := by decide +kernel
theorem dX12_sealOf_6 : decode cX12_sealOf 6 = .ok (.aload_n 0, 1) := by decide +kernel
theorem dX12_sealOf_7 : decode cX12_sealOf 7 = .ok (.getfield 92, 3) := by decide +kernel
theorem dX12_sealOf_10 : decode cX12_sealOf 10 = .ok (.iload_n 1, 1) := by decide +kernel
theorem dX12_sealOf_11 : decode cX12_sealOf 11 = .ok (.iaload, 1) := by decide +kernel
theorem dX12_sealOf_12 : decode cX12_sealOf 12 = .ok (.bipush 16, 2) := by decide +kernel
theorem dX12_sealOf_14 : decode cX12_sealOf 14 = .ok (.iushr, 1) := by decide +kernel
theorem dX12_sealOf_15 : decode cX12_sealOf 15 = .ok (.ixor, 1) := by decide +kernel
theorem dX12_sealOf_16 : decode cX12_sealOf 16 = .ok (.ireturn, 1) := by decide +kernel
theorem dX12_seal_0 : decode cX12_seal 0 = .ok (.aload_n 0, 1) := by decide +kernel
theorem dX12_seal_1 : decode cX12_seal 1 = .ok (.iload_n 1, 1) := by decide +kernel
theorem dX12_seal_2 : decode cX12_seal 2 = .ok (.invokevirtual 236, 3) := by decide +kernel
theorem dX12_seal_5 : decode cX12_seal 5 = .ok (.ifCond .eq 11, 3) := by decide +kernel
theorem dX12_seal_8 : decode cX12_seal 8 = .ok (.aload_n 0, 1) := by decide +kernel
theorem dX12_seal_9 : decode cX12_seal 9 = .ok (.iload_n 1, 1) := by decide +kernel
theorem dX12_seal_10 : decode cX12_seal 10 = .ok (.invokevirtual 239, 3) := by decide +kernel
theorem dX12_seal_13 : decode cX12_seal 13 = .ok (.goto 4, 3) := by decide +kernel
theorem dX12_seal_16 : decode cX12_seal 16 = .ok (.iconst 0, 1) := by decide +kernel
theorem dX12_seal_17 : decode cX12_seal 17 = .ok (.ireturn, 1) := by decide +kernel
theorem dX12_stamp_0 : decode cX12_stamp 0 = .ok (.aload_n 0, 1) := by decide +kernel
theorem dX12_stamp_1 : decode cX12_stamp 1 = .ok (.aload_n 0, 1) := by decide +kernel
theorem dX12_stamp_2 : decode cX12_stamp 2 = .ok (.iload_n 1, 1) := by decide +kernel
theorem dX12_stamp_3 : decode cX12_stamp 3 = .ok (.invokevirtual 218, 3) := by decide +kernel
theorem dX12_stamp_6 : decode cX12_stamp 6 = .ok (.ifCond .eq 7, 3) := by decide +kernel
theorem dX12_stamp_9 : decode cX12_stamp 9 = .ok (.iconst 0, 1) := by decide +kernel
theorem dX12_stamp_10 : decode cX12_stamp 10 = .ok (.goto 4, 3) := by decide +kernel
theorem dX12_stamp_13 : decode cX12_stamp 13 = .ok (.iconst 1, 1) := by decide +kernel
theorem dX12_stamp_14 : decode cX12_stamp 14 = .ok (.invokevirtual 127, 3) := by decide +kernel
theorem dX12_stamp_17 : decode cX12_stamp 17 = .ok (.ifCond .ne 5, 3) := by decide +kernel
theorem dX12_stamp_20 : decode cX12_stamp 20 = .ok (.iconst 0, 1) := by decide +kernel
theorem dX12_stamp_21 : decode cX12_stamp 21 = .ok (.ireturn, 1) := by decide +kernel
theorem dX12_stamp_22 : decode cX12_stamp 22 = .ok (.iload_n 1, 1) := by decide +kernel
theorem dX12_stamp_23 : decode cX12_stamp 23 = .ok (.i2l, 1) := by decide +kernel
theorem dX12_stamp_24 : decode cX12_stamp 24 = .ok (.lconst 1, 1) := by decide +kernel
theorem dX12_stamp_25 : decode cX12_stamp 25 = .ok (.ladd, 1) := by decide +kernel
theorem dX12_stamp_26 : decode cX12_stamp 26 = .ok (.lstore_n 2, 1) := by decide +kernel
theorem dX12_stamp_27 : decode cX12_stamp 27 = .ok (.iconst 0, 1) := by decide +kernel
theorem dX12_stamp_28 : decode cX12_stamp 28 = .ok (.istore 4, 2) := by decide +kernel
theorem dX12_stamp_30 : decode cX12_stamp 30 = .ok (.iload 4, 2) := by decide +kernel
theorem dX12_stamp_32 : decode cX12_stamp 32 = .ok (.aload_n 0, 1) := by decide +kernel
theorem dX12_stamp_33 : decode cX12_stamp 33 = .ok (.getfield 117, 3) := by decide +kernel
theorem dX12_stamp_36 : decode cX12_stamp 36 = .ok (.if_icmp .ge 42, 3) := by decide +kernel
theorem dX12_stamp_39 : decode cX12_stamp 39 = .ok (.aload_n 0, 1) := by decide +kernel
theorem dX12_stamp_40 : decode cX12_stamp 40 = .ok (.getfield 71, 3) := by decide +kernel
theorem dX12_stamp_43 : decode cX12_stamp 43 = .ok (.iload 4, 2) := by decide +kernel
theorem dX12_stamp_45 : decode cX12_stamp 45 = .ok (.iaload, 1) := by decide +kernel
theorem dX12_stamp_46 : decode cX12_stamp 46 = .ok (.iload_n 1, 1) := by decide +kernel
theorem dX12_stamp_47 : decode cX12_stamp 47 = .ok (.if_icmp .ne 23, 3) := by decide +kernel
theorem dX12_stamp_50 : decode cX12_stamp 50 = .ok (.lload_n 2, 1) := by decide +kernel
theorem dX12_stamp_51 : decode cX12_stamp 51 = .ok (.bipush 7, 2) := by decide +kernel
theorem dX12_stamp_53 : decode cX12_stamp 53 = .ok (.lshl, 1) := by decide +kernel
theorem dX12_stamp_54 : decode cX12_stamp 54 = .ok (.lload_n 2, 1) := by decide +kernel
theorem dX12_stamp_55 : decode cX12_stamp 55 = .ok (.bipush 57, 2) := by decide +kernel
theorem dX12_stamp_57 : decode cX12_stamp 57 = .ok (.lushr, 1) := by decide +kernel
theorem dX12_stamp_58 : decode cX12_stamp 58 = .ok (.lor, 1) := by decide +kernel
theorem dX12_stamp_59 : decode cX12_stamp 59 = .ok (.aload_n 0, 1) := by decide +kernel
theorem dX12_stamp_60 : decode cX12_stamp 60 = .ok (.iload 4, 2) := by decide +kernel
theorem dX12_stamp_62 : decode cX12_stamp 62 = .ok (.invokevirtual 239, 3) := by decide +kernel
theorem dX12_stamp_65 : decode cX12_stamp 65 = .ok (.i2l, 1) := by decide +kernel
theorem dX12_stamp_66 : decode cX12_stamp 66 = .ok (.ladd, 1) := by decide +kernel
theorem dX12_stamp_67 : decode cX12_stamp 67 = .ok (.goto 4, 3) := by decide +kernel
theorem dX12_stamp_70 : decode cX12_stamp 70 = .ok (.lload_n 2, 1) := by decide +kernel
theorem dX12_stamp_71 : decode cX12_stamp 71 = .ok (.lstore_n 2, 1) := by decide +kernel
theorem dX12_stamp_72 : decode cX12_stamp 72 = .ok (.iinc 4 1, 3) := by decide +kernel
theorem dX12_stamp_75 : decode cX12_stamp 75 = .ok (.goto (-45), 3) := by decide +kernel
theorem dX12_stamp_78 : decode cX12_stamp 78 = .ok (.lload_n 2, 1) := by decide +kernel
theorem dX12_stamp_79 : decode cX12_stamp 79 = .ok (.bipush 32, 2) := by decide +kernel
theorem dX12_stamp_81 : decode cX12_stamp 81 = .ok (.lshr, 1) := by decide +kernel
theorem dX12_stamp_82 : decode cX12_stamp 82 = .ok (.l2i, 1) := by decide +kernel
theorem dX12_stamp_83 : decode cX12_stamp 83 = .ok (.lload_n 2, 1) := by decide +kernel
theorem dX12_stamp_84 : decode cX12_stamp 84 = .ok (.l2i, 1) := by decide +kernel
theorem dX12_stamp_85 : decode cX12_stamp 85 = .ok (.ixor, 1) := by decide +kernel
theorem dX12_stamp_86 : decode cX12_stamp 86 = .ok (.ireturn, 1) := by decide +kernel
theorem dX12_sign_0 : decode cX12_sign 0 = .ok (.aload_n 0, 1) := by decide +kernel
theorem dX12_sign_1 : decode cX12_sign 1 = .ok (.aload_n 0, 1) := by decide +kernel
theorem dX12_sign_2 : decode cX12_sign 2 = .ok (.getfield 242, 3) := by decide +kernel
theorem dX12_sign_5 : decode cX12_sign 5 = .ok (.ifCond .ne 7, 3) := by decide +kernel
theorem dX12_sign_8 : decode cX12_sign 8 = .ok (.iload_n 1, 1) := by decide +kernel
theorem dX12_sign_9 : decode cX12_sign 9 = .ok (.goto 7, 3) := by decide +kernel
theorem dX12_sign_12 : decode cX12_sign 12 = .ok (.aload_n 0, 1) := by decide +kernel
theorem dX12_sign_13 : decode cX12_sign 13 = .ok (.getfield 245, 3) := by decide +kernel
theorem dX12_sign_16 : decode cX12_sign 16 = .ok (.putfield 245, 3) := by decide +kernel
theorem dX12_sign_19 : decode cX12_sign 19 = .ok (.aload_n 0, 1) := by decide +kernel
theorem dX12_sign_20 : decode cX12_sign 20 = .ok (.dup, 1) := by decide +kernel
theorem dX12_sign_21 : decode cX12_sign 21 = .ok (.getfield 242, 3) := by decide +kernel
theorem dX12_sign_24 : decode cX12_sign 24 = .ok (.iconst 1, 1) := by decide +kernel
theorem dX12_sign_25 : decode cX12_sign 25 = .ok (.isub, 1) := by decide +kernel
theorem dX12_sign_26 : decode cX12_sign 26 = .ok (.putfield 242, 3) := by decide +kernel
theorem dX12_sign_29 : decode cX12_sign 29 = .ok (.return_, 1) := by decide +kernel
theorem dX12_number_0 : decode cX12_number 0 = .ok (.iconst 1, 1) := by decide +kernel
theorem dX12_number_1 : decode cX12_number 1 = .ok (.istore_n 2, 1) := by decide +kernel
theorem dX12_number_2 : decode cX12_number 2 = .ok (.iload_n 1, 1) := by decide +kernel
theorem dX12_number_3 : decode cX12_number 3 = .ok (.iload_n 2, 1) := by decide +kernel
theorem dX12_number_4 : decode cX12_number 4 = .ok (.idiv, 1) := by decide +kernel
theorem dX12_number_5 : decode cX12_number 5 = .ok (.bipush 9, 2) := by decide +kernel
theorem dX12_number_7 : decode cX12_number 7 = .ok (.if_icmp .le 11, 3) := by decide +kernel
theorem dX12_number_10 : decode cX12_number 10 = .ok (.iload_n 2, 1) := by decide +kernel
theorem dX12_number_11 : decode cX12_number 11 = .ok (.bipush 10, 2) := by decide +kernel
theorem dX12_number_13 : decode cX12_number 13 = .ok (.imul, 1) := by decide +kernel
theorem dX12_number_14 : decode cX12_number 14 = .ok (.istore_n 2, 1) := by decide +kernel
theorem dX12_number_15 : decode cX12_number 15 = .ok (.goto (-13), 3) := by decide +kernel
theorem dX12_number_18 : decode cX12_number 18 = .ok (.iload_n 2, 1) := by decide +kernel
theorem dX12_number_19 : decode cX12_number 19 = .ok (.ifCond .le 24, 3) := by decide +kernel
theorem dX12_number_22 : decode cX12_number 22 = .ok (.aload_n 0, 1) := by decide +kernel
theorem dX12_number_23 : decode cX12_number 23 = .ok (.bipush 48, 2) := by decide +kernel
theorem dX12_number_25 : decode cX12_number 25 = .ok (.iload_n 1, 1) := by decide +kernel
theorem dX12_number_26 : decode cX12_number 26 = .ok (.iload_n 2, 1) := by decide +kernel
theorem dX12_number_27 : decode cX12_number 27 = .ok (.idiv, 1) := by decide +kernel
theorem dX12_number_28 : decode cX12_number 28 = .ok (.bipush 10, 2) := by decide +kernel
theorem dX12_number_30 : decode cX12_number 30 = .ok (.irem, 1) := by decide +kernel
theorem dX12_number_31 : decode cX12_number 31 = .ok (.iadd, 1) := by decide +kernel
theorem dX12_number_32 : decode cX12_number 32 = .ok (.invokevirtual 248, 3) := by decide +kernel
theorem dX12_number_35 : decode cX12_number 35 = .ok (.iload_n 2, 1) := by decide +kernel
theorem dX12_number_36 : decode cX12_number 36 = .ok (.bipush 10, 2) := by decide +kernel
theorem dX12_number_38 : decode cX12_number 38 = .ok (.idiv, 1) := by decide +kernel
theorem dX12_number_39 : decode cX12_number 39 = .ok (.istore_n 2, 1) := by decide +kernel
theorem dX12_number_40 : decode cX12_number 40 = .ok (.goto (-22), 3) := by decide +kernel
theorem dX12_number_43 : decode cX12_number 43 = .ok (.return_, 1) := by decide +kernel
theorem dX12_lineAt_0 : decode cX12_lineAt 0 = .ok (.aload_n 0, 1) := by decide +kernel
theorem dX12_lineAt_1 : decode cX12_lineAt 1 = .ok (.aload_n 0, 1) := by decide +kernel
theorem dX12_lineAt_2 : decode cX12_lineAt 2 = .ok (.iload_n 1, 1) := by decide +kernel
theorem dX12_lineAt_3 : decode cX12_lineAt 3 = .ok (.invokevirtual 233, 3) := by decide +kernel
theorem dX12_lineAt_6 : decode cX12_lineAt 6 = .ok (.ifCond .eq 11, 3) := by decide +kernel
theorem dX12_lineAt_9 : decode cX12_lineAt 9 = .ok (.iload_n 2, 1) := by decide +kernel
theorem dX12_lineAt_10 : decode cX12_lineAt 10 = .ok (.ifCond .lt 7, 3) := by decide +kernel
theorem dX12_lineAt_13 : decode cX12_lineAt 13 = .ok (.iconst 0, 1) := by decide +kernel
theorem dX12_lineAt_14 : decode cX12_lineAt 14 = .ok (.goto 4, 3) := by decide +kernel
theorem dX12_lineAt_17 : decode cX12_lineAt 17 = .ok (.iconst 1, 1) := by decide +kernel
theorem dX12_lineAt_18 : decode cX12_lineAt 18 = .ok (.invokevirtual 127, 3) := by decide +kernel
theorem dX12_lineAt_21 : decode cX12_lineAt 21 = .ok (.ifCond .ne 5, 3) := by decide +kernel
theorem dX12_lineAt_24 : decode cX12_lineAt 24 = .ok (.iconst 0, 1) := by decide +kernel
theorem dX12_lineAt_25 : decode cX12_lineAt 25 = .ok (.ireturn, 1) := by decide +kernel
theorem dX12_lineAt_26 : decode cX12_lineAt 26 = .ok (.aload_n 0, 1) := by decide +kernel
theorem dX12_lineAt_27 : decode cX12_lineAt 27 = .ok (.iload_n 2, 1) := by decide +kernel
theorem dX12_lineAt_28 : decode cX12_lineAt 28 = .ok (.putfield 242, 3) := by decide +kernel
theorem dX12_lineAt_31 : decode cX12_lineAt 31 = .ok (.aload_n 0, 1) := by decide +kernel
theorem dX12_lineAt_32 : decode cX12_lineAt 32 = .ok (.iconst (-1), 1) := by decide +kernel
theorem dX12_lineAt_33 : decode cX12_lineAt 33 = .ok (.putfield 245, 3) := by decide +kernel
theorem dX12_lineAt_36 : decode cX12_lineAt 36 = .ok (.aload_n 0, 1) := by decide +kernel
theorem dX12_lineAt_37 : decode cX12_lineAt 37 = .ok (.bipush 80, 2) := by decide +kernel
theorem dX12_lineAt_39 : decode cX12_lineAt 39 = .ok (.invokevirtual 248, 3) := by decide +kernel
theorem dX12_lineAt_42 : decode cX12_lineAt 42 = .ok (.aload_n 0, 1) := by decide +kernel
theorem dX12_lineAt_43 : decode cX12_lineAt 43 = .ok (.aload_n 0, 1) := by decide +kernel
theorem dX12_lineAt_44 : decode cX12_lineAt 44 = .ok (.getfield 68, 3) := by decide +kernel
theorem dX12_lineAt_47 : decode cX12_lineAt 47 = .ok (.iload_n 1, 1) := by decide +kernel
theorem dX12_lineAt_48 : decode cX12_lineAt 48 = .ok (.iaload, 1) := by decide +kernel
theorem dX12_lineAt_49 : decode cX12_lineAt 49 = .ok (.invokevirtual 251, 3) := by decide +kernel
theorem dX12_lineAt_52 : decode cX12_lineAt 52 = .ok (.aload_n 0, 1) := by decide +kernel
theorem dX12_lineAt_53 : decode cX12_lineAt 53 = .ok (.bipush 67, 2) := by decide +kernel
theorem dX12_lineAt_55 : decode cX12_lineAt 55 = .ok (.invokevirtual 248, 3) := by decide +kernel
theorem dX12_lineAt_58 : decode cX12_lineAt 58 = .ok (.aload_n 0, 1) := by decide +kernel
theorem dX12_lineAt_59 : decode cX12_lineAt 59 = .ok (.aload_n 0, 1) := by decide +kernel
theorem dX12_lineAt_60 : decode cX12_lineAt 60 = .ok (.getfield 71, 3) := by decide +kernel
theorem dX12_lineAt_63 : decode cX12_lineAt 63 = .ok (.iload_n 1, 1) := by decide +kernel
theorem dX12_lineAt_64 : decode cX12_lineAt 64 = .ok (.iaload, 1) := by decide +kernel
theorem dX12_lineAt_65 : decode cX12_lineAt 65 = .ok (.invokevirtual 251, 3) := by decide +kernel
theorem dX12_lineAt_68 : decode cX12_lineAt 68 = .ok (.aload_n 0, 1) := by decide +kernel
theorem dX12_lineAt_69 : decode cX12_lineAt 69 = .ok (.bipush 58, 2) := by decide +kernel
theorem dX12_lineAt_71 : decode cX12_lineAt 71 = .ok (.invokevirtual 248, 3) := by decide +kernel
theorem dX12_lineAt_74 : decode cX12_lineAt 74 = .ok (.aload_n 0, 1) := by decide +kernel
theorem dX12_lineAt_75 : decode cX12_lineAt 75 = .ok (.aload_n 0, 1) := by decide +kernel
theorem dX12_lineAt_76 : decode cX12_lineAt 76 = .ok (.getfield 80, 3) := by decide +kernel
theorem dX12_lineAt_79 : decode cX12_lineAt 79 = .ok (.iload_n 1, 1) := by decide +kernel
theorem dX12_lineAt_80 : decode cX12_lineAt 80 = .ok (.iaload, 1) := by decide +kernel
theorem dX12_lineAt_81 : decode cX12_lineAt 81 = .ok (.invokevirtual 251, 3) := by decide +kernel
theorem dX12_lineAt_84 : decode cX12_lineAt 84 = .ok (.aload_n 0, 1) := by decide +kernel
theorem dX12_lineAt_85 : decode cX12_lineAt 85 = .ok (.bipush 61, 2) := by decide +kernel
theorem dX12_lineAt_87 : decode cX12_lineAt 87 = .ok (.invokevirtual 248, 3) := by decide +kernel
theorem dX12_lineAt_90 : decode cX12_lineAt 90 = .ok (.aload_n 0, 1) := by decide +kernel
theorem dX12_lineAt_91 : decode cX12_lineAt 91 = .ok (.aload_n 0, 1) := by decide +kernel
theorem dX12_lineAt_92 : decode cX12_lineAt 92 = .ok (.getfield 83, 3) := by decide +kernel
theorem dX12_lineAt_95 : decode cX12_lineAt 95 = .ok (.iload_n 1, 1) := by decide +kernel
theorem dX12_lineAt_96 : decode cX12_lineAt 96 = .ok (.iaload, 1) := by decide +kernel
theorem dX12_lineAt_97 : decode cX12_lineAt 97 = .ok (.invokevirtual 251, 3) := by decide +kernel
theorem dX12_lineAt_100 : decode cX12_lineAt 100 = .ok (.aload_n 0, 1) := by decide +kernel
theorem dX12_lineAt_101 : decode cX12_lineAt 101 = .ok (.bipush 43, 2) := by decide +kernel
theorem dX12_lineAt_103 : decode cX12_lineAt 103 = .ok (.invokevirtual 248, 3) := by decide +kernel
theorem dX12_lineAt_106 : decode cX12_lineAt 106 = .ok (.aload_n 0, 1) := by decide +kernel
theorem dX12_lineAt_107 : decode cX12_lineAt 107 = .ok (.aload_n 0, 1) := by decide +kernel
theorem dX12_lineAt_108 : decode cX12_lineAt 108 = .ok (.getfield 86, 3) := by decide +kernel
theorem dX12_lineAt_111 : decode cX12_lineAt 111 = .ok (.iload_n 1, 1) := by decide +kernel
theorem dX12_lineAt_112 : decode cX12_lineAt 112 = .ok (.iaload, 1) := by decide +kernel
theorem dX12_lineAt_113 : decode cX12_lineAt 113 = .ok (.invokevirtual 251, 3) := by decide +kernel
theorem dX12_lineAt_116 : decode cX12_lineAt 116 = .ok (.aload_n 0, 1) := by decide +kernel
theorem dX12_lineAt_117 : decode cX12_lineAt 117 = .ok (.getfield 77, 3) := by decide +kernel
theorem dX12_lineAt_120 : decode cX12_lineAt 120 = .ok (.iload_n 1, 1) := by decide +kernel
theorem dX12_lineAt_121 : decode cX12_lineAt 121 = .ok (.iaload, 1) := by decide +kernel
theorem dX12_lineAt_122 : decode cX12_lineAt 122 = .ok (.istore_n 3, 1) := by decide +kernel
theorem dX12_lineAt_123 : decode cX12_lineAt 123 = .ok (.aload_n 0, 1) := by decide +kernel
theorem dX12_lineAt_124 : decode cX12_lineAt 124 = .ok (.iload_n 3, 1) := by decide +kernel
theorem dX12_lineAt_125 : decode cX12_lineAt 125 = .ok (.ifCond .ne 8, 3) := by decide +kernel
theorem dX12_lineAt_128 : decode cX12_lineAt 128 = .ok (.bipush 126, 2) := by decide +kernel
theorem dX12_lineAt_130 : decode cX12_lineAt 130 = .ok (.goto 25, 3) := by decide +kernel
theorem dX12_lineAt_133 : decode cX12_lineAt 133 = .ok (.iload_n 3, 1) := by decide +kernel
theorem dX12_lineAt_134 : decode cX12_lineAt 134 = .ok (.iconst 1, 1) := by decide +kernel
theorem dX12_lineAt_135 : decode cX12_lineAt 135 = .ok (.if_icmp .ne 8, 3) := by decide +kernel
theorem dX12_lineAt_138 : decode cX12_lineAt 138 = .ok (.bipush 46, 2) := by decide +kernel
theorem dX12_lineAt_140 : decode cX12_lineAt 140 = .ok (.goto 15, 3) := by decide +kernel
theorem dX12_lineAt_143 : decode cX12_lineAt 143 = .ok (.iload_n 3, 1) := by decide +kernel
theorem dX12_lineAt_144 : decode cX12_lineAt 144 = .ok (.iconst 2, 1) := by decide +kernel
theorem dX12_lineAt_145 : decode cX12_lineAt 145 = .ok (.if_icmp .ne 8, 3) := by decide +kernel
theorem dX12_lineAt_148 : decode cX12_lineAt 148 = .ok (.bipush 33, 2) := by decide +kernel
theorem dX12_lineAt_150 : decode cX12_lineAt 150 = .ok (.goto 5, 3) := by decide +kernel
theorem dX12_lineAt_153 : decode cX12_lineAt 153 = .ok (.bipush 63, 2) := by decide +kernel
theorem dX12_lineAt_155 : decode cX12_lineAt 155 = .ok (.invokevirtual 248, 3) := by decide +kernel
theorem dX12_lineAt_158 : decode cX12_lineAt 158 = .ok (.aload_n 0, 1) := by decide +kernel
theorem dX12_lineAt_159 : decode cX12_lineAt 159 = .ok (.getfield 245, 3) := by decide +kernel
theorem dX12_lineAt_162 : decode cX12_lineAt 162 = .ok (.ireturn, 1) := by decide +kernel
theorem dJ5_init_d00df_0 : decode cJ5_init_d00df 0 = .ok (.aload_n 0, 1) := by decide +kernel
theorem dJ5_init_d00df_1 : decode cJ5_init_d00df 1 = .ok (.invokespecial 3, 3) := by decide +kernel
theorem dJ5_init_d00df_4 : decode cJ5_init_d00df 4 = .ok (.getstatic 18, 3) := by decide +kernel
theorem dJ5_init_d00df_7 : decode cJ5_init_d00df 7 = .ok (.ifCond .eq 18, 3) := by decide +kernel
theorem dJ5_init_d00df_10 : decode cJ5_init_d00df 10 = .ok (.aload_n 0, 1) := by decide +kernel
theorem dJ5_init_d00df_11 : decode cJ5_init_d00df 11 = .ok (.iload_n 1, 1) := by decide +kernel
theorem dJ5_init_d00df_12 : decode cJ5_init_d00df 12 = .ok (.newarray .byte, 2) := by decide +kernel
theorem dJ5_init_d00df_14 : decode cJ5_init_d00df 14 = .ok (.putfield 15, 3) := by decide +kernel
theorem dJ5_init_d00df_17 : decode cJ5_init_d00df 17 = .ok (.aload_n 0, 1) := by decide +kernel
theorem dJ5_init_d00df_18 : decode cJ5_init_d00df 18 = .ok (.iconst 0, 1) := by decide +kernel
theorem dJ5_init_d00df_19 : decode cJ5_init_d00df 19 = .ok (.putfield 22, 3) := by decide +kernel
theorem dJ5_init_d00df_22 : decode cJ5_init_d00df 22 = .ok (.goto 16, 3) := by decide +kernel
theorem dJ5_init_d00df_25 : decode cJ5_init_d00df 25 = .ok (.aload_n 0, 1) := by decide +kernel
theorem dJ5_init_d00df_26 : decode cJ5_init_d00df 26 = .ok (.iload_n 1, 1) := by decide +kernel
theorem dJ5_init_d00df_27 : decode cJ5_init_d00df 27 = .ok (.invokestatic 26, 3) := by decide +kernel
theorem dJ5_init_d00df_30 : decode cJ5_init_d00df 30 = .ok (.putfield 15, 3) := by decide +kernel
theorem dJ5_init_d00df_33 : decode cJ5_init_d00df 33 = .ok (.aload_n 0, 1) := by decide +kernel
theorem dJ5_init_d00df_34 : decode cJ5_init_d00df 34 = .ok (.iconst 1, 1) := by decide +kernel
theorem dJ5_init_d00df_35 : decode cJ5_init_d00df 35 = .ok (.putfield 22, 3) := by decide +kernel
theorem dJ5_init_d00df_38 : decode cJ5_init_d00df 38 = .ok (.return_, 1) := by decide +kernel
theorem dJ5_length_8abf5_0 : decode cJ5_length_8abf5 0 = .ok (.aload_n 0, 1) := by decide +kernel
theorem dJ5_length_8abf5_1 : decode cJ5_length_8abf5 1 = .ok (.getfield 79, 3) := by decide +kernel
theorem dJ5_length_8abf5_4 : decode cJ5_length_8abf5 4 = .ok (.ireturn, 1) := by decide +kernel
theorem dJ5_ensureCapacityInternal_d00df_0 : decode cJ5_ensureCapacityInternal_d00df 0 = .ok (.aload_n 0, 1) := by decide +kernel
theorem dJ5_ensureCapacityInternal_d00df_1 : decode cJ5_ensureCapacityInternal_d00df 1 = .ok (.getfield 15, 3) := by decide +kernel
theorem dJ5_ensureCapacityInternal_d00df_4 : decode cJ5_ensureCapacityInternal_d00df 4 = .ok (.arraylength, 1) := by decide +kernel
theorem dJ5_ensureCapacityInternal_d00df_5 : decode cJ5_ensureCapacityInternal_d00df 5 = .ok (.aload_n 0, 1) := by decide +kernel
theorem dJ5_ensureCapacityInternal_d00df_6 : decode cJ5_ensureCapacityInternal_d00df 6 = .ok (.getfield 22, 3) := by decide +kernel
theorem dJ5_ensureCapacityInternal_d00df_9 : decode cJ5_ensureCapacityInternal_d00df 9 = .ok (.ishr, 1) := by decide +kernel
theorem dJ5_ensureCapacityInternal_d00df_10 : decode cJ5_ensureCapacityInternal_d00df 10 = .ok (.istore_n 2, 1) := by decide +kernel
theorem dJ5_ensureCapacityInternal_d00df_11 : decode cJ5_ensureCapacityInternal_d00df 11 = .ok (.iload_n 1, 1) := by decide +kernel
theorem dJ5_ensureCapacityInternal_d00df_12 : decode cJ5_ensureCapacityInternal_d00df 12 = .ok (.iload_n 2, 1) := by decide +kernel
theorem dJ5_ensureCapacityInternal_d00df_13 : decode cJ5_ensureCapacityInternal_d00df 13 = .ok (.isub, 1) := by decide +kernel
theorem dJ5_ensureCapacityInternal_d00df_14 : decode cJ5_ensureCapacityInternal_d00df 14 = .ok (.ifCond .le 24, 3) := by decide +kernel
theorem dJ5_ensureCapacityInternal_d00df_17 : decode cJ5_ensureCapacityInternal_d00df 17 = .ok (.aload_n 0, 1) := by decide +kernel
theorem dJ5_ensureCapacityInternal_d00df_18 : decode cJ5_ensureCapacityInternal_d00df 18 = .ok (.aload_n 0, 1) := by decide +kernel
theorem dJ5_ensureCapacityInternal_d00df_19 : decode cJ5_ensureCapacityInternal_d00df 19 = .ok (.getfield 15, 3) := by decide +kernel
theorem dJ5_ensureCapacityInternal_d00df_22 : decode cJ5_ensureCapacityInternal_d00df 22 = .ok (.aload_n 0, 1) := by decide +kernel
theorem dJ5_ensureCapacityInternal_d00df_23 : decode cJ5_ensureCapacityInternal_d00df 23 = .ok (.iload_n 1, 1) := by decide +kernel
theorem dJ5_ensureCapacityInternal_d00df_24 : decode cJ5_ensureCapacityInternal_d00df 24 = .ok (.invokevirtual 104, 3) := by decide +kernel
theorem dJ5_ensureCapacityInternal_d00df_27 : decode cJ5_ensureCapacityInternal_d00df 27 = .ok (.aload_n 0, 1) := by decide +kernel
theorem dJ5_ensureCapacityInternal_d00df_28 : decode cJ5_ensureCapacityInternal_d00df 28 = .ok (.getfield 22, 3) := by decide +kernel
theorem dJ5_ensureCapacityInternal_d00df_31 : decode cJ5_ensureCapacityInternal_d00df 31 = .ok (.ishl, 1) := by decide +kernel
theorem dJ5_ensureCapacityInternal_d00df_32 : decode cJ5_ensureCapacityInternal_d00df 32 = .ok (.invokestatic 108, 3) := by decide +kernel
theorem dJ5_ensureCapacityInternal_d00df_35 : decode cJ5_ensureCapacityInternal_d00df 35 = .ok (.putfield 15, 3) := by decide +kernel
theorem dJ5_ensureCapacityInternal_d00df_38 : decode cJ5_ensureCapacityInternal_d00df 38 = .ok (.return_, 1) := by decide +kernel
theorem dJ5_newCapacity_0f7a4_0 : decode cJ5_newCapacity_0f7a4 0 = .ok (.aload_n 0, 1) := by decide +kernel
theorem dJ5_newCapacity_0f7a4_1 : decode cJ5_newCapacity_0f7a4 1 = .ok (.getfield 15, 3) := by decide +kernel
theorem dJ5_newCapacity_0f7a4_4 : decode cJ5_newCapacity_0f7a4 4 = .ok (.arraylength, 1) := by decide +kernel
theorem dJ5_newCapacity_0f7a4_5 : decode cJ5_newCapacity_0f7a4 5 = .ok (.istore_n 2, 1) := by decide +kernel
theorem dJ5_newCapacity_0f7a4_6 : decode cJ5_newCapacity_0f7a4 6 = .ok (.iload_n 1, 1) := by decide +kernel
theorem dJ5_newCapacity_0f7a4_7 : decode cJ5_newCapacity_0f7a4 7 = .ok (.aload_n 0, 1) := by decide +kernel
theorem dJ5_newCapacity_0f7a4_8 : decode cJ5_newCapacity_0f7a4 8 = .ok (.getfield 22, 3) := by decide +kernel
theorem dJ5_newCapacity_0f7a4_11 : decode cJ5_newCapacity_0f7a4 11 = .ok (.ishl, 1) := by decide +kernel
theorem dJ5_newCapacity_0f7a4_12 : decode cJ5_newCapacity_0f7a4 12 = .ok (.istore_n 3, 1) := by decide +kernel
theorem dJ5_newCapacity_0f7a4_13 : decode cJ5_newCapacity_0f7a4 13 = .ok (.iload_n 3, 1) := by decide +kernel
theorem dJ5_newCapacity_0f7a4_14 : decode cJ5_newCapacity_0f7a4 14 = .ok (.iload_n 2, 1) := by decide +kernel
theorem dJ5_newCapacity_0f7a4_15 : decode cJ5_newCapacity_0f7a4 15 = .ok (.isub, 1) := by decide +kernel
theorem dJ5_newCapacity_0f7a4_16 : decode cJ5_newCapacity_0f7a4 16 = .ok (.istore 4, 2) := by decide +kernel
theorem dJ5_newCapacity_0f7a4_18 : decode cJ5_newCapacity_0f7a4 18 = .ok (.iload_n 2, 1) := by decide +kernel
theorem dJ5_newCapacity_0f7a4_19 : decode cJ5_newCapacity_0f7a4 19 = .ok (.iload 4, 2) := by decide +kernel
theorem dJ5_newCapacity_0f7a4_21 : decode cJ5_newCapacity_0f7a4 21 = .ok (.iload_n 2, 1) := by decide +kernel
theorem dJ5_newCapacity_0f7a4_22 : decode cJ5_newCapacity_0f7a4 22 = .ok (.iconst 2, 1) := by decide +kernel
theorem dJ5_newCapacity_0f7a4_23 : decode cJ5_newCapacity_0f7a4 23 = .ok (.aload_n 0, 1) := by decide +kernel
theorem dJ5_newCapacity_0f7a4_24 : decode cJ5_newCapacity_0f7a4 24 = .ok (.getfield 22, 3) := by decide +kernel
theorem dJ5_newCapacity_0f7a4_27 : decode cJ5_newCapacity_0f7a4 27 = .ok (.ishl, 1) := by decide +kernel
theorem dJ5_newCapacity_0f7a4_28 : decode cJ5_newCapacity_0f7a4 28 = .ok (.iadd, 1) := by decide +kernel
theorem dJ5_newCapacity_0f7a4_29 : decode cJ5_newCapacity_0f7a4 29 = .ok (.invokestatic 114, 3) := by decide +kernel
theorem dJ5_newCapacity_0f7a4_32 : decode cJ5_newCapacity_0f7a4 32 = .ok (.istore 5, 2) := by decide +kernel
theorem dJ5_newCapacity_0f7a4_34 : decode cJ5_newCapacity_0f7a4 34 = .ok (.iload 5, 2) := by decide +kernel
theorem dJ5_newCapacity_0f7a4_36 : decode cJ5_newCapacity_0f7a4 36 = .ok (.ldc 39, 2) := by decide +kernel
theorem dJ5_newCapacity_0f7a4_38 : decode cJ5_newCapacity_0f7a4 38 = .ok (.if_icmp .ne 13, 3) := by decide +kernel
theorem dJ5_newCapacity_0f7a4_41 : decode cJ5_newCapacity_0f7a4 41 = .ok (.new 120, 3) := by decide +kernel
theorem dJ5_newCapacity_0f7a4_44 : decode cJ5_newCapacity_0f7a4 44 = .ok (.dup, 1) := by decide +kernel
theorem dJ5_newCapacity_0f7a4_45 : decode cJ5_newCapacity_0f7a4 45 = .ok (.ldc 122, 2) := by decide +kernel
theorem dJ5_newCapacity_0f7a4_47 : decode cJ5_newCapacity_0f7a4 47 = .ok (.invokespecial 124, 3) := by decide +kernel
theorem dJ5_newCapacity_0f7a4_50 : decode cJ5_newCapacity_0f7a4 50 = .ok (.athrow, 1) := by decide +kernel
theorem dJ5_newCapacity_0f7a4_51 : decode cJ5_newCapacity_0f7a4 51 = .ok (.iload 5, 2) := by decide +kernel
theorem dJ5_newCapacity_0f7a4_53 : decode cJ5_newCapacity_0f7a4 53 = .ok (.aload_n 0, 1) := by decide +kernel
theorem dJ5_newCapacity_0f7a4_54 : decode cJ5_newCapacity_0f7a4 54 = .ok (.getfield 22, 3) := by decide +kernel
theorem dJ5_newCapacity_0f7a4_57 : decode cJ5_newCapacity_0f7a4 57 = .ok (.ishr, 1) := by decide +kernel
theorem dJ5_newCapacity_0f7a4_58 : decode cJ5_newCapacity_0f7a4 58 = .ok (.ireturn, 1) := by decide +kernel
theorem dJ5_inflate_da8c8_0 : decode cJ5_inflate_da8c8 0 = .ok (.aload_n 0, 1) := by decide +kernel
theorem dJ5_inflate_da8c8_1 : decode cJ5_inflate_da8c8 1 = .ok (.invokevirtual 83, 3) := by decide +kernel
theorem dJ5_inflate_da8c8_4 : decode cJ5_inflate_da8c8 4 = .ok (.ifCond .ne 4, 3) := by decide +kernel
theorem dJ5_inflate_da8c8_7 : decode cJ5_inflate_da8c8 7 = .ok (.return_, 1) := by decide +kernel
theorem dJ5_inflate_da8c8_8 : decode cJ5_inflate_da8c8 8 = .ok (.aload_n 0, 1) := by decide +kernel
theorem dJ5_inflate_da8c8_9 : decode cJ5_inflate_da8c8 9 = .ok (.getfield 15, 3) := by decide +kernel
theorem dJ5_inflate_da8c8_12 : decode cJ5_inflate_da8c8 12 = .ok (.arraylength, 1) := by decide +kernel
theorem dJ5_inflate_da8c8_13 : decode cJ5_inflate_da8c8 13 = .ok (.invokestatic 26, 3) := by decide +kernel
theorem dJ5_inflate_da8c8_16 : decode cJ5_inflate_da8c8 16 = .ok (.astore_n 1, 1) := by decide +kernel
theorem dJ5_inflate_da8c8_17 : decode cJ5_inflate_da8c8 17 = .ok (.aload_n 0, 1) := by decide +kernel
theorem dJ5_inflate_da8c8_18 : decode cJ5_inflate_da8c8 18 = .ok (.getfield 15, 3) := by decide +kernel
theorem dJ5_inflate_da8c8_21 : decode cJ5_inflate_da8c8 21 = .ok (.iconst 0, 1) := by decide +kernel
theorem dJ5_inflate_da8c8_22 : decode cJ5_inflate_da8c8 22 = .ok (.aload_n 1, 1) := by decide +kernel
theorem dJ5_inflate_da8c8_23 : decode cJ5_inflate_da8c8 23 = .ok (.iconst 0, 1) := by decide +kernel
theorem dJ5_inflate_da8c8_24 : decode cJ5_inflate_da8c8 24 = .ok (.aload_n 0, 1) := by decide +kernel
theorem dJ5_inflate_da8c8_25 : decode cJ5_inflate_da8c8 25 = .ok (.getfield 79, 3) := by decide +kernel
theorem dJ5_inflate_da8c8_28 : decode cJ5_inflate_da8c8 28 = .ok (.invokestatic 125, 3) := by decide +kernel
theorem dJ5_inflate_da8c8_31 : decode cJ5_inflate_da8c8 31 = .ok (.aload_n 0, 1) := by decide +kernel
theorem dJ5_inflate_da8c8_32 : decode cJ5_inflate_da8c8 32 = .ok (.aload_n 1, 1) := by decide +kernel
theorem dJ5_inflate_da8c8_33 : decode cJ5_inflate_da8c8 33 = .ok (.putfield 15, 3) := by decide +kernel
theorem dJ5_inflate_da8c8_36 : decode cJ5_inflate_da8c8 36 = .ok (.aload_n 0, 1) := by decide +kernel
theorem dJ5_inflate_da8c8_37 : decode cJ5_inflate_da8c8 37 = .ok (.iconst 1, 1) := by decide +kernel
theorem dJ5_inflate_da8c8_38 : decode cJ5_inflate_da8c8 38 = .ok (.putfield 22, 3) := by decide +kernel
theorem dJ5_inflate_da8c8_41 : decode cJ5_inflate_da8c8 41 = .ok (.return_, 1) := by decide +kernel
theorem dJ5_charAt_5068e_0 : decode cJ5_charAt_5068e 0 = .ok (.aload_n 0, 1) := by decide +kernel
theorem dJ5_charAt_5068e_1 : decode cJ5_charAt_5068e 1 = .ok (.getfield 22, 3) := by decide +kernel
theorem dJ5_charAt_5068e_4 : decode cJ5_charAt_5068e 4 = .ok (.istore_n 2, 1) := by decide +kernel
theorem dJ5_charAt_5068e_5 : decode cJ5_charAt_5068e 5 = .ok (.aload_n 0, 1) := by decide +kernel
theorem dJ5_charAt_5068e_6 : decode cJ5_charAt_5068e 6 = .ok (.getfield 15, 3) := by decide +kernel
theorem dJ5_charAt_5068e_9 : decode cJ5_charAt_5068e 9 = .ok (.astore_n 3, 1) := by decide +kernel
theorem dJ5_charAt_5068e_10 : decode cJ5_charAt_5068e 10 = .ok (.aload_n 0, 1) := by decide +kernel
theorem dJ5_charAt_5068e_11 : decode cJ5_charAt_5068e 11 = .ok (.getfield 79, 3) := by decide +kernel
theorem dJ5_charAt_5068e_14 : decode cJ5_charAt_5068e 14 = .ok (.aload_n 3, 1) := by decide +kernel
theorem dJ5_charAt_5068e_15 : decode cJ5_charAt_5068e 15 = .ok (.arraylength, 1) := by decide +kernel
theorem dJ5_charAt_5068e_16 : decode cJ5_charAt_5068e 16 = .ok (.iload_n 2, 1) := by decide +kernel
theorem dJ5_charAt_5068e_17 : decode cJ5_charAt_5068e 17 = .ok (.ishr, 1) := by decide +kernel
theorem dJ5_charAt_5068e_18 : decode cJ5_charAt_5068e 18 = .ok (.invokestatic 138, 3) := by decide +kernel
theorem dJ5_charAt_5068e_21 : decode cJ5_charAt_5068e 21 = .ok (.istore 4, 2) := by decide +kernel
theorem dJ5_charAt_5068e_23 : decode cJ5_charAt_5068e 23 = .ok (.iload_n 1, 1) := by decide +kernel
theorem dJ5_charAt_5068e_24 : decode cJ5_charAt_5068e 24 = .ok (.iload 4, 2) := by decide +kernel
theorem dJ5_charAt_5068e_26 : decode cJ5_charAt_5068e 26 = .ok (.invokestatic 144, 3) := by decide +kernel
theorem dJ5_charAt_5068e_29 : decode cJ5_charAt_5068e 29 = .ok (.iload_n 2, 1) := by decide +kernel
theorem dJ5_charAt_5068e_30 : decode cJ5_charAt_5068e 30 = .ok (.ifCond .ne 12, 3) := by decide +kernel
theorem dJ5_charAt_5068e_33 : decode cJ5_charAt_5068e 33 = .ok (.aload_n 3, 1) := by decide +kernel
theorem dJ5_charAt_5068e_34 : decode cJ5_charAt_5068e 34 = .ok (.iload_n 1, 1) := by decide +kernel
theorem dJ5_charAt_5068e_35 : decode cJ5_charAt_5068e 35 = .ok (.baload, 1) := by decide +kernel
theorem dJ5_charAt_5068e_36 : decode cJ5_charAt_5068e 36 = .ok (.sipush 255, 3) := by decide +kernel
theorem dJ5_charAt_5068e_39 : decode cJ5_charAt_5068e 39 = .ok (.iand, 1) := by decide +kernel
theorem dJ5_charAt_5068e_40 : decode cJ5_charAt_5068e 40 = .ok (.i2c, 1) := by decide +kernel
theorem dJ5_charAt_5068e_41 : decode cJ5_charAt_5068e 41 = .ok (.ireturn, 1) := by decide +kernel
theorem dJ5_charAt_5068e_42 : decode cJ5_charAt_5068e 42 = .ok (.aload_n 3, 1) := by decide +kernel
theorem dJ5_charAt_5068e_43 : decode cJ5_charAt_5068e 43 = .ok (.iload_n 1, 1) := by decide +kernel
theorem dJ5_charAt_5068e_44 : decode cJ5_charAt_5068e 44 = .ok (.invokestatic 148, 3) := by decide +kernel
theorem dJ5_charAt_5068e_47 : decode cJ5_charAt_5068e 47 = .ok (.ireturn, 1) := by decide +kernel
theorem dJ5_append_cf1ce_0 : decode cJ5_append_cf1ce 0 = .ok (.aload_n 1, 1) := by decide +kernel
theorem dJ5_append_cf1ce_1 : decode cJ5_append_cf1ce 1 = .ok (.ifnonnull 8, 3) := by decide +kernel
theorem dJ5_append_cf1ce_4 : decode cJ5_append_cf1ce 4 = .ok (.aload_n 0, 1) := by decide +kernel
theorem dJ5_append_cf1ce_5 : decode cJ5_append_cf1ce 5 = .ok (.invokevirtual 204, 3) := by decide +kernel
theorem dJ5_append_cf1ce_8 : decode cJ5_append_cf1ce 8 = .ok (.areturn, 1) := by decide +kernel
theorem dJ5_append_cf1ce_9 : decode cJ5_append_cf1ce 9 = .ok (.aload_n 1, 1) := by decide +kernel
theorem dJ5_append_cf1ce_10 : decode cJ5_append_cf1ce 10 = .ok (.invokevirtual 32, 3) := by decide +kernel
theorem dJ5_append_cf1ce_13 : decode cJ5_append_cf1ce 13 = .ok (.istore_n 2, 1) := by decide +kernel
theorem dJ5_append_cf1ce_14 : decode cJ5_append_cf1ce 14 = .ok (.aload_n 0, 1) := by decide +kernel
theorem dJ5_append_cf1ce_15 : decode cJ5_append_cf1ce 15 = .ok (.aload_n 0, 1) := by decide +kernel
theorem dJ5_append_cf1ce_16 : decode cJ5_append_cf1ce 16 = .ok (.getfield 79, 3) := by decide +kernel
theorem dJ5_append_cf1ce_19 : decode cJ5_append_cf1ce 19 = .ok (.iload_n 2, 1) := by decide +kernel
theorem dJ5_append_cf1ce_20 : decode cJ5_append_cf1ce 20 = .ok (.iadd, 1) := by decide +kernel
theorem dJ5_append_cf1ce_21 : decode cJ5_append_cf1ce 21 = .ok (.invokevirtual 100, 3) := by decide +kernel
theorem dJ5_append_cf1ce_24 : decode cJ5_append_cf1ce 24 = .ok (.aload_n 0, 1) := by decide +kernel
theorem dJ5_append_cf1ce_25 : decode cJ5_append_cf1ce 25 = .ok (.aload_n 0, 1) := by decide +kernel
theorem dJ5_append_cf1ce_26 : decode cJ5_append_cf1ce 26 = .ok (.getfield 79, 3) := by decide +kernel
theorem dJ5_append_cf1ce_29 : decode cJ5_append_cf1ce 29 = .ok (.aload_n 1, 1) := by decide +kernel
theorem dJ5_append_cf1ce_30 : decode cJ5_append_cf1ce 30 = .ok (.invokevirtual 208, 3) := by decide +kernel
theorem dJ5_append_cf1ce_33 : decode cJ5_append_cf1ce 33 = .ok (.aload_n 0, 1) := by decide +kernel
theorem dJ5_append_cf1ce_34 : decode cJ5_append_cf1ce 34 = .ok (.dup, 1) := by decide +kernel
theorem dJ5_append_cf1ce_35 : decode cJ5_append_cf1ce 35 = .ok (.getfield 79, 3) := by decide +kernel
theorem dJ5_append_cf1ce_38 : decode cJ5_append_cf1ce 38 = .ok (.iload_n 2, 1) := by decide +kernel
theorem dJ5_append_cf1ce_39 : decode cJ5_append_cf1ce 39 = .ok (.iadd, 1) := by decide +kernel
theorem dJ5_append_cf1ce_40 : decode cJ5_append_cf1ce 40 = .ok (.putfield 79, 3) := by decide +kernel
theorem dJ5_append_cf1ce_43 : decode cJ5_append_cf1ce 43 = .ok (.aload_n 0, 1) := by decide +kernel
theorem dJ5_append_cf1ce_44 : decode cJ5_append_cf1ce 44 = .ok (.areturn, 1) := by decide +kernel
theorem dJ5_appendNull_278bc_0 : decode cJ5_appendNull_278bc 0 = .ok (.aload_n 0, 1) := by decide +kernel
theorem dJ5_appendNull_278bc_1 : decode cJ5_appendNull_278bc 1 = .ok (.aload_n 0, 1) := by decide +kernel
theorem dJ5_appendNull_278bc_2 : decode cJ5_appendNull_278bc 2 = .ok (.getfield 79, 3) := by decide +kernel
theorem dJ5_appendNull_278bc_5 : decode cJ5_appendNull_278bc 5 = .ok (.iconst 4, 1) := by decide +kernel
theorem dJ5_appendNull_278bc_6 : decode cJ5_appendNull_278bc 6 = .ok (.iadd, 1) := by decide +kernel
theorem dJ5_appendNull_278bc_7 : decode cJ5_appendNull_278bc 7 = .ok (.invokevirtual 100, 3) := by decide +kernel
theorem dJ5_appendNull_278bc_10 : decode cJ5_appendNull_278bc 10 = .ok (.aload_n 0, 1) := by decide +kernel
theorem dJ5_appendNull_278bc_11 : decode cJ5_appendNull_278bc 11 = .ok (.getfield 79, 3) := by decide +kernel
theorem dJ5_appendNull_278bc_14 : decode cJ5_appendNull_278bc 14 = .ok (.istore_n 1, 1) := by decide +kernel
theorem dJ5_appendNull_278bc_15 : decode cJ5_appendNull_278bc 15 = .ok (.aload_n 0, 1) := by decide +kernel
theorem dJ5_appendNull_278bc_16 : decode cJ5_appendNull_278bc 16 = .ok (.getfield 15, 3) := by decide +kernel
theorem dJ5_appendNull_278bc_19 : decode cJ5_appendNull_278bc 19 = .ok (.astore_n 2, 1) := by decide +kernel
theorem dJ5_appendNull_278bc_20 : decode cJ5_appendNull_278bc 20 = .ok (.aload_n 0, 1) := by decide +kernel
theorem dJ5_appendNull_278bc_21 : decode cJ5_appendNull_278bc 21 = .ok (.invokevirtual 83, 3) := by decide +kernel
theorem dJ5_appendNull_278bc_24 : decode cJ5_appendNull_278bc 24 = .ok (.ifCond .eq 38, 3) := by decide +kernel
theorem dJ5_appendNull_278bc_27 : decode cJ5_appendNull_278bc 27 = .ok (.aload_n 2, 1) := by decide +kernel
theorem dJ5_appendNull_278bc_28 : decode cJ5_appendNull_278bc 28 = .ok (.iload_n 1, 1) := by decide +kernel
theorem dJ5_appendNull_278bc_29 : decode cJ5_appendNull_278bc 29 = .ok (.iinc 1 1, 3) := by decide +kernel
theorem dJ5_appendNull_278bc_32 : decode cJ5_appendNull_278bc 32 = .ok (.bipush 110, 2) := by decide +kernel
theorem dJ5_appendNull_278bc_34 : decode cJ5_appendNull_278bc 34 = .ok (.bastore, 1) := by decide +kernel
theorem dJ5_appendNull_278bc_35 : decode cJ5_appendNull_278bc 35 = .ok (.aload_n 2, 1) := by decide +kernel
theorem dJ5_appendNull_278bc_36 : decode cJ5_appendNull_278bc 36 = .ok (.iload_n 1, 1) := by decide +kernel
theorem dJ5_appendNull_278bc_37 : decode cJ5_appendNull_278bc 37 = .ok (.iinc 1 1, 3) := by decide +kernel
theorem dJ5_appendNull_278bc_40 : decode cJ5_appendNull_278bc 40 = .ok (.bipush 117, 2) := by decide +kernel
theorem dJ5_appendNull_278bc_42 : decode cJ5_appendNull_278bc 42 = .ok (.bastore, 1) := by decide +kernel
theorem dJ5_appendNull_278bc_43 : decode cJ5_appendNull_278bc 43 = .ok (.aload_n 2, 1) := by decide +kernel
theorem dJ5_appendNull_278bc_44 : decode cJ5_appendNull_278bc 44 = .ok (.iload_n 1, 1) := by decide +kernel
theorem dJ5_appendNull_278bc_45 : decode cJ5_appendNull_278bc 45 = .ok (.iinc 1 1, 3) := by decide +kernel
theorem dJ5_appendNull_278bc_48 : decode cJ5_appendNull_278bc 48 = .ok (.bipush 108, 2) := by decide +kernel
theorem dJ5_appendNull_278bc_50 : decode cJ5_appendNull_278bc 50 = .ok (.bastore, 1) := by decide +kernel
theorem dJ5_appendNull_278bc_51 : decode cJ5_appendNull_278bc 51 = .ok (.aload_n 2, 1) := by decide +kernel
theorem dJ5_appendNull_278bc_52 : decode cJ5_appendNull_278bc 52 = .ok (.iload_n 1, 1) := by decide +kernel
theorem dJ5_appendNull_278bc_53 : decode cJ5_appendNull_278bc 53 = .ok (.iinc 1 1, 3) := by decide +kernel
theorem dJ5_appendNull_278bc_56 : decode cJ5_appendNull_278bc 56 = .ok (.bipush 108, 2) := by decide +kernel
theorem dJ5_appendNull_278bc_58 : decode cJ5_appendNull_278bc 58 = .ok (.bastore, 1) := by decide +kernel
theorem dJ5_appendNull_278bc_59 : decode cJ5_appendNull_278bc 59 = .ok (.goto 17, 3) := by decide +kernel
theorem dJ5_appendNull_278bc_62 : decode cJ5_appendNull_278bc 62 = .ok (.aload_n 2, 1) := by decide +kernel
theorem dJ5_appendNull_278bc_63 : decode cJ5_appendNull_278bc 63 = .ok (.iload_n 1, 1) := by decide +kernel
theorem dJ5_appendNull_278bc_64 : decode cJ5_appendNull_278bc 64 = .ok (.bipush 110, 2) := by decide +kernel
theorem dJ5_appendNull_278bc_66 : decode cJ5_appendNull_278bc 66 = .ok (.bipush 117, 2) := by decide +kernel
theorem dJ5_appendNull_278bc_68 : decode cJ5_appendNull_278bc 68 = .ok (.bipush 108, 2) := by decide +kernel
theorem dJ5_appendNull_278bc_70 : decode cJ5_appendNull_278bc 70 = .ok (.bipush 108, 2) := by decide +kernel
theorem dJ5_appendNull_278bc_72 : decode cJ5_appendNull_278bc 72 = .ok (.invokestatic 226, 3) := by decide +kernel
theorem dJ5_appendNull_278bc_75 : decode cJ5_appendNull_278bc 75 = .ok (.istore_n 1, 1) := by decide +kernel
theorem dJ5_appendNull_278bc_76 : decode cJ5_appendNull_278bc 76 = .ok (.aload_n 0, 1) := by decide +kernel
theorem dJ5_appendNull_278bc_77 : decode cJ5_appendNull_278bc 77 = .ok (.iload_n 1, 1) := by decide +kernel
theorem dJ5_appendNull_278bc_78 : decode cJ5_appendNull_278bc 78 = .ok (.putfield 79, 3) := by decide +kernel
theorem dJ5_appendNull_278bc_81 : decode cJ5_appendNull_278bc 81 = .ok (.aload_n 0, 1) := by decide +kernel
theorem dJ5_appendNull_278bc_82 : decode cJ5_appendNull_278bc 82 = .ok (.areturn, 1) := by decide +kernel
theorem dJ5_append_3fe6f_0 : decode cJ5_append_3fe6f 0 = .ok (.aload_n 0, 1) := by decide +kernel
theorem dJ5_append_3fe6f_1 : decode cJ5_append_3fe6f 1 = .ok (.aload_n 0, 1) := by decide +kernel
theorem dJ5_append_3fe6f_2 : decode cJ5_append_3fe6f 2 = .ok (.getfield 79, 3) := by decide +kernel
theorem dJ5_append_3fe6f_5 : decode cJ5_append_3fe6f 5 = .ok (.iconst 1, 1) := by decide +kernel
theorem dJ5_append_3fe6f_6 : decode cJ5_append_3fe6f 6 = .ok (.iadd, 1) := by decide +kernel
theorem dJ5_append_3fe6f_7 : decode cJ5_append_3fe6f 7 = .ok (.invokevirtual 100, 3) := by decide +kernel
theorem dJ5_append_3fe6f_10 : decode cJ5_append_3fe6f 10 = .ok (.aload_n 0, 1) := by decide +kernel
theorem dJ5_append_3fe6f_11 : decode cJ5_append_3fe6f 11 = .ok (.invokevirtual 83, 3) := by decide +kernel
theorem dJ5_append_3fe6f_14 : decode cJ5_append_3fe6f 14 = .ok (.ifCond .eq 31, 3) := by decide +kernel
theorem dJ5_append_3fe6f_17 : decode cJ5_append_3fe6f 17 = .ok (.iload_n 1, 1) := by decide +kernel
theorem dJ5_append_3fe6f_18 : decode cJ5_append_3fe6f 18 = .ok (.invokestatic 191, 3) := by decide +kernel
theorem dJ5_append_3fe6f_21 : decode cJ5_append_3fe6f 21 = .ok (.ifCond .eq 24, 3) := by decide +kernel
theorem dJ5_append_3fe6f_24 : decode cJ5_append_3fe6f 24 = .ok (.aload_n 0, 1) := by decide +kernel
theorem dJ5_append_3fe6f_25 : decode cJ5_append_3fe6f 25 = .ok (.getfield 15, 3) := by decide +kernel
theorem dJ5_append_3fe6f_28 : decode cJ5_append_3fe6f 28 = .ok (.aload_n 0, 1) := by decide +kernel
theorem dJ5_append_3fe6f_29 : decode cJ5_append_3fe6f 29 = .ok (.dup, 1) := by decide +kernel
theorem dJ5_append_3fe6f_30 : decode cJ5_append_3fe6f 30 = .ok (.getfield 79, 3) := by decide +kernel
theorem dJ5_append_3fe6f_33 : decode cJ5_append_3fe6f 33 = .ok (.dup_x1, 1) := by decide +kernel
theorem dJ5_append_3fe6f_34 : decode cJ5_append_3fe6f 34 = .ok (.iconst 1, 1) := by decide +kernel
theorem dJ5_append_3fe6f_35 : decode cJ5_append_3fe6f 35 = .ok (.iadd, 1) := by decide +kernel
theorem dJ5_append_3fe6f_36 : decode cJ5_append_3fe6f 36 = .ok (.putfield 79, 3) := by decide +kernel
theorem dJ5_append_3fe6f_39 : decode cJ5_append_3fe6f 39 = .ok (.iload_n 1, 1) := by decide +kernel
theorem dJ5_append_3fe6f_40 : decode cJ5_append_3fe6f 40 = .ok (.i2b, 1) := by decide +kernel
theorem dJ5_append_3fe6f_41 : decode cJ5_append_3fe6f 41 = .ok (.bastore, 1) := by decide +kernel
theorem dJ5_append_3fe6f_42 : decode cJ5_append_3fe6f 42 = .ok (.goto 33, 3) := by decide +kernel
theorem dJ5_append_3fe6f_45 : decode cJ5_append_3fe6f 45 = .ok (.aload_n 0, 1) := by decide +kernel
theorem dJ5_append_3fe6f_46 : decode cJ5_append_3fe6f 46 = .ok (.invokevirtual 83, 3) := by decide +kernel
theorem dJ5_append_3fe6f_49 : decode cJ5_append_3fe6f 49 = .ok (.ifCond .eq 7, 3) := by decide +kernel
theorem dJ5_append_3fe6f_52 : decode cJ5_append_3fe6f 52 = .ok (.aload_n 0, 1) := by decide +kernel
theorem dJ5_append_3fe6f_53 : decode cJ5_append_3fe6f 53 = .ok (.invokevirtual 195, 3) := by decide +kernel
theorem dJ5_append_3fe6f_56 : decode cJ5_append_3fe6f 56 = .ok (.aload_n 0, 1) := by decide +kernel
theorem dJ5_append_3fe6f_57 : decode cJ5_append_3fe6f 57 = .ok (.getfield 15, 3) := by decide +kernel
theorem dJ5_append_3fe6f_60 : decode cJ5_append_3fe6f 60 = .ok (.aload_n 0, 1) := by decide +kernel
theorem dJ5_append_3fe6f_61 : decode cJ5_append_3fe6f 61 = .ok (.dup, 1) := by decide +kernel
theorem dJ5_append_3fe6f_62 : decode cJ5_append_3fe6f 62 = .ok (.getfield 79, 3) := by decide +kernel
theorem dJ5_append_3fe6f_65 : decode cJ5_append_3fe6f 65 = .ok (.dup_x1, 1) := by decide +kernel
theorem dJ5_append_3fe6f_66 : decode cJ5_append_3fe6f 66 = .ok (.iconst 1, 1) := by decide +kernel
theorem dJ5_append_3fe6f_67 : decode cJ5_append_3fe6f 67 = .ok (.iadd, 1) := by decide +kernel
theorem dJ5_append_3fe6f_68 : decode cJ5_append_3fe6f 68 = .ok (.putfield 79, 3) := by decide +kernel
theorem dJ5_append_3fe6f_71 : decode cJ5_append_3fe6f 71 = .ok (.iload_n 1, 1) := by decide +kernel
theorem dJ5_append_3fe6f_72 : decode cJ5_append_3fe6f 72 = .ok (.invokestatic 197, 3) := by decide +kernel
theorem dJ5_append_3fe6f_75 : decode cJ5_append_3fe6f 75 = .ok (.aload_n 0, 1) := by decide +kernel
theorem dJ5_append_3fe6f_76 : decode cJ5_append_3fe6f 76 = .ok (.areturn, 1) := by decide +kernel
theorem dJ5_append_c97b9_0 : decode cJ5_append_c97b9 0 = .ok (.aload_n 0, 1) := by decide +kernel
theorem dJ5_append_c97b9_1 : decode cJ5_append_c97b9 1 = .ok (.getfield 79, 3) := by decide +kernel
theorem dJ5_append_c97b9_4 : decode cJ5_append_c97b9 4 = .ok (.istore_n 2, 1) := by decide +kernel
theorem dJ5_append_c97b9_5 : decode cJ5_append_c97b9 5 = .ok (.iload_n 2, 1) := by decide +kernel
theorem dJ5_append_c97b9_6 : decode cJ5_append_c97b9 6 = .ok (.iload_n 1, 1) := by decide +kernel
theorem dJ5_append_c97b9_7 : decode cJ5_append_c97b9 7 = .ok (.invokestatic 245, 3) := by decide +kernel
theorem dJ5_append_c97b9_10 : decode cJ5_append_c97b9 10 = .ok (.iadd, 1) := by decide +kernel
theorem dJ5_append_c97b9_11 : decode cJ5_append_c97b9 11 = .ok (.istore_n 3, 1) := by decide +kernel
theorem dJ5_append_c97b9_12 : decode cJ5_append_c97b9 12 = .ok (.aload_n 0, 1) := by decide +kernel
theorem dJ5_append_c97b9_13 : decode cJ5_append_c97b9 13 = .ok (.iload_n 3, 1) := by decide +kernel
theorem dJ5_append_c97b9_14 : decode cJ5_append_c97b9 14 = .ok (.invokevirtual 100, 3) := by decide +kernel
theorem dJ5_append_c97b9_17 : decode cJ5_append_c97b9 17 = .ok (.aload_n 0, 1) := by decide +kernel
theorem dJ5_append_c97b9_18 : decode cJ5_append_c97b9 18 = .ok (.invokevirtual 83, 3) := by decide +kernel
theorem dJ5_append_c97b9_21 : decode cJ5_append_c97b9 21 = .ok (.ifCond .eq 16, 3) := by decide +kernel
theorem dJ5_append_c97b9_24 : decode cJ5_append_c97b9 24 = .ok (.iload_n 1, 1) := by decide +kernel
theorem dJ5_append_c97b9_25 : decode cJ5_append_c97b9 25 = .ok (.iload_n 3, 1) := by decide +kernel
theorem dJ5_append_c97b9_26 : decode cJ5_append_c97b9 26 = .ok (.aload_n 0, 1) := by decide +kernel
theorem dJ5_append_c97b9_27 : decode cJ5_append_c97b9 27 = .ok (.getfield 15, 3) := by decide +kernel
theorem dJ5_append_c97b9_30 : decode cJ5_append_c97b9 30 = .ok (.invokestatic 248, 3) := by decide +kernel
theorem dJ5_append_c97b9_33 : decode cJ5_append_c97b9 33 = .ok (.pop, 1) := by decide +kernel
theorem dJ5_append_c97b9_34 : decode cJ5_append_c97b9 34 = .ok (.goto 14, 3) := by decide +kernel
theorem dJ5_append_c97b9_37 : decode cJ5_append_c97b9 37 = .ok (.iload_n 1, 1) := by decide +kernel
theorem dJ5_append_c97b9_38 : decode cJ5_append_c97b9 38 = .ok (.iload_n 2, 1) := by decide +kernel
theorem dJ5_append_c97b9_39 : decode cJ5_append_c97b9 39 = .ok (.iload_n 3, 1) := by decide +kernel
theorem dJ5_append_c97b9_40 : decode cJ5_append_c97b9 40 = .ok (.aload_n 0, 1) := by decide +kernel
theorem dJ5_append_c97b9_41 : decode cJ5_append_c97b9 41 = .ok (.getfield 15, 3) := by decide +kernel
theorem dJ5_append_c97b9_44 : decode cJ5_append_c97b9 44 = .ok (.invokestatic 251, 3) := by decide +kernel
theorem dJ5_append_c97b9_47 : decode cJ5_append_c97b9 47 = .ok (.pop, 1) := by decide +kernel
theorem dJ5_append_c97b9_48 : decode cJ5_append_c97b9 48 = .ok (.aload_n 0, 1) := by decide +kernel
theorem dJ5_append_c97b9_49 : decode cJ5_append_c97b9 49 = .ok (.iload_n 3, 1) := by decide +kernel
theorem dJ5_append_c97b9_50 : decode cJ5_append_c97b9 50 = .ok (.putfield 79, 3) := by decide +kernel
theorem dJ5_append_c97b9_53 : decode cJ5_append_c97b9 53 = .ok (.aload_n 0, 1) := by decide +kernel
theorem dJ5_append_c97b9_54 : decode cJ5_append_c97b9 54 = .ok (.areturn, 1) := by decide +kernel
theorem dJ5_getValue_6d5f1_0 : decode cJ5_getValue_6d5f1 0 = .ok (.aload_n 0, 1) := by decide +kernel
theorem dJ5_getValue_6d5f1_1 : decode cJ5_getValue_6d5f1 1 = .ok (.getfield 15, 3) := by decide +kernel
theorem dJ5_getValue_6d5f1_4 : decode cJ5_getValue_6d5f1 4 = .ok (.areturn, 1) := by decide +kernel
theorem dJ5_isLatin1_aae02_0 : decode cJ5_isLatin1_aae02 0 = .ok (.getstatic 18, 3) := by decide +kernel
theorem dJ5_isLatin1_aae02_3 : decode cJ5_isLatin1_aae02 3 = .ok (.ifCond .eq 14, 3) := by decide +kernel
theorem dJ5_isLatin1_aae02_6 : decode cJ5_isLatin1_aae02 6 = .ok (.aload_n 0, 1) := by decide +kernel
theorem dJ5_isLatin1_aae02_7 : decode cJ5_isLatin1_aae02 7 = .ok (.getfield 22, 3) := by decide +kernel
theorem dJ5_isLatin1_aae02_10 : decode cJ5_isLatin1_aae02 10 = .ok (.ifCond .ne 7, 3) := by decide +kernel
theorem dJ5_isLatin1_aae02_13 : decode cJ5_isLatin1_aae02 13 = .ok (.iconst 1, 1) := by decide +kernel
theorem dJ5_isLatin1_aae02_14 : decode cJ5_isLatin1_aae02 14 = .ok (.goto 4, 3) := by decide +kernel
theorem dJ5_isLatin1_aae02_17 : decode cJ5_isLatin1_aae02 17 = .ok (.iconst 0, 1) := by decide +kernel
theorem dJ5_isLatin1_aae02_18 : decode cJ5_isLatin1_aae02 18 = .ok (.ireturn, 1) := by decide +kernel
theorem dJ5_inflateIfNeededFor_a7421_0 : decode cJ5_inflateIfNeededFor_a7421 0 = .ok (.getstatic 18, 3) := by decide +kernel
theorem dJ5_inflateIfNeededFor_a7421_3 : decode cJ5_inflateIfNeededFor_a7421 3 = .ok (.ifCond .eq 18, 3) := by decide +kernel
theorem dJ5_inflateIfNeededFor_a7421_6 : decode cJ5_inflateIfNeededFor_a7421 6 = .ok (.aload_n 0, 1) := by decide +kernel
theorem dJ5_inflateIfNeededFor_a7421_7 : decode cJ5_inflateIfNeededFor_a7421 7 = .ok (.getfield 22, 3) := by decide +kernel
theorem dJ5_inflateIfNeededFor_a7421_10 : decode cJ5_inflateIfNeededFor_a7421 10 = .ok (.aload_n 1, 1) := by decide +kernel
theorem dJ5_inflateIfNeededFor_a7421_11 : decode cJ5_inflateIfNeededFor_a7421 11 = .ok (.invokevirtual 40, 3) := by decide +kernel
theorem dJ5_inflateIfNeededFor_a7421_14 : decode cJ5_inflateIfNeededFor_a7421 14 = .ok (.if_icmp .eq 7, 3) := by decide +kernel
theorem dJ5_inflateIfNeededFor_a7421_17 : decode cJ5_inflateIfNeededFor_a7421 17 = .ok (.aload_n 0, 1) := by decide +kernel
theorem dJ5_inflateIfNeededFor_a7421_18 : decode cJ5_inflateIfNeededFor_a7421 18 = .ok (.invokevirtual 195, 3) := by decide +kernel
theorem dJ5_inflateIfNeededFor_a7421_21 : decode cJ5_inflateIfNeededFor_a7421 21 = .ok (.return_, 1) := by decide +kernel
theorem dJ5_putStringAt_47b60_0 : decode cJ5_putStringAt_47b60 0 = .ok (.aload_n 0, 1) := by decide +kernel
theorem dJ5_putStringAt_47b60_1 : decode cJ5_putStringAt_47b60 1 = .ok (.aload_n 2, 1) := by decide +kernel
theorem dJ5_putStringAt_47b60_2 : decode cJ5_putStringAt_47b60 2 = .ok (.invokevirtual 397, 3) := by decide +kernel
theorem dJ5_putStringAt_47b60_5 : decode cJ5_putStringAt_47b60 5 = .ok (.aload_n 2, 1) := by decide +kernel
theorem dJ5_putStringAt_47b60_6 : decode cJ5_putStringAt_47b60 6 = .ok (.aload_n 0, 1) := by decide +kernel
theorem dJ5_putStringAt_47b60_7 : decode cJ5_putStringAt_47b60 7 = .ok (.getfield 15, 3) := by decide +kernel
theorem dJ5_putStringAt_47b60_10 : decode cJ5_putStringAt_47b60 10 = .ok (.iload_n 1, 1) := by decide +kernel
theorem dJ5_putStringAt_47b60_11 : decode cJ5_putStringAt_47b60 11 = .ok (.aload_n 0, 1) := by decide +kernel
theorem dJ5_putStringAt_47b60_12 : decode cJ5_putStringAt_47b60 12 = .ok (.getfield 22, 3) := by decide +kernel
theorem dJ5_putStringAt_47b60_15 : decode cJ5_putStringAt_47b60 15 = .ok (.invokevirtual 399, 3) := by decide +kernel
theorem dJ5_putStringAt_47b60_18 : decode cJ5_putStringAt_47b60 18 = .ok (.return_, 1) := by decide +kernel
theorem dJ6_getChars_ba4f3_0 : decode cJ6_getChars_ba4f3 0 = .ok (.iload_n 1, 1) := by decide +kernel
theorem dJ6_getChars_ba4f3_1 : decode cJ6_getChars_ba4f3 1 = .ok (.istore 5, 2) := by decide +kernel
theorem dJ6_getChars_ba4f3_3 : decode cJ6_getChars_ba4f3 3 = .ok (.iload_n 0, 1) := by decide +kernel
theorem dJ6_getChars_ba4f3_4 : decode cJ6_getChars_ba4f3 4 = .ok (.ifCond .ge 7, 3) := by decide +kernel
theorem dJ6_getChars_ba4f3_7 : decode cJ6_getChars_ba4f3 7 = .ok (.iconst 1, 1) := by decide +kernel
theorem dJ6_getChars_ba4f3_8 : decode cJ6_getChars_ba4f3 8 = .ok (.goto 4, 3) := by decide +kernel
theorem dJ6_getChars_ba4f3_11 : decode cJ6_getChars_ba4f3 11 = .ok (.iconst 0, 1) := by decide +kernel
theorem dJ6_getChars_ba4f3_12 : decode cJ6_getChars_ba4f3 12 = .ok (.istore 6, 2) := by decide +kernel
theorem dJ6_getChars_ba4f3_14 : decode cJ6_getChars_ba4f3 14 = .ok (.iload 6, 2) := by decide +kernel
theorem dJ6_getChars_ba4f3_16 : decode cJ6_getChars_ba4f3 16 = .ok (.ifCond .ne 6, 3) := by decide +kernel
theorem dJ6_getChars_ba4f3_19 : decode cJ6_getChars_ba4f3 19 = .ok (.iload_n 0, 1) := by decide +kernel
theorem dJ6_getChars_ba4f3_20 : decode cJ6_getChars_ba4f3 20 = .ok (.ineg, 1) := by decide +kernel
theorem dJ6_getChars_ba4f3_21 : decode cJ6_getChars_ba4f3 21 = .ok (.istore_n 0, 1) := by decide +kernel
theorem dJ6_getChars_ba4f3_22 : decode cJ6_getChars_ba4f3 22 = .ok (.iload_n 0, 1) := by decide +kernel
theorem dJ6_getChars_ba4f3_23 : decode cJ6_getChars_ba4f3 23 = .ok (.bipush (-100), 2) := by decide +kernel
theorem dJ6_getChars_ba4f3_25 : decode cJ6_getChars_ba4f3 25 = .ok (.if_icmp .gt 47, 3) := by decide +kernel
theorem dJ6_getChars_ba4f3_28 : decode cJ6_getChars_ba4f3 28 = .ok (.iload_n 0, 1) := by decide +kernel
theorem dJ6_getChars_ba4f3_29 : decode cJ6_getChars_ba4f3 29 = .ok (.bipush 100, 2) := by decide +kernel
theorem dJ6_getChars_ba4f3_31 : decode cJ6_getChars_ba4f3 31 = .ok (.idiv, 1) := by decide +kernel
theorem dJ6_getChars_ba4f3_32 : decode cJ6_getChars_ba4f3 32 = .ok (.istore_n 3, 1) := by decide +kernel
theorem dJ6_getChars_ba4f3_33 : decode cJ6_getChars_ba4f3 33 = .ok (.iload_n 3, 1) := by decide +kernel
theorem dJ6_getChars_ba4f3_34 : decode cJ6_getChars_ba4f3 34 = .ok (.bipush 100, 2) := by decide +kernel
theorem dJ6_getChars_ba4f3_36 : decode cJ6_getChars_ba4f3 36 = .ok (.imul, 1) := by decide +kernel
theorem dJ6_getChars_ba4f3_37 : decode cJ6_getChars_ba4f3 37 = .ok (.iload_n 0, 1) := by decide +kernel
theorem dJ6_getChars_ba4f3_38 : decode cJ6_getChars_ba4f3 38 = .ok (.isub, 1) := by decide +kernel
theorem dJ6_getChars_ba4f3_39 : decode cJ6_getChars_ba4f3 39 = .ok (.istore 4, 2) := by decide +kernel
theorem dJ6_getChars_ba4f3_41 : decode cJ6_getChars_ba4f3 41 = .ok (.iload_n 3, 1) := by decide +kernel
theorem dJ6_getChars_ba4f3_42 : decode cJ6_getChars_ba4f3 42 = .ok (.istore_n 0, 1) := by decide +kernel
theorem dJ6_getChars_ba4f3_43 : decode cJ6_getChars_ba4f3 43 = .ok (.aload_n 2, 1) := by decide +kernel
theorem dJ6_getChars_ba4f3_44 : decode cJ6_getChars_ba4f3 44 = .ok (.iinc 5 (-1), 3) := by decide +kernel
theorem dJ6_getChars_ba4f3_47 : decode cJ6_getChars_ba4f3 47 = .ok (.iload 5, 2) := by decide +kernel
theorem dJ6_getChars_ba4f3_49 : decode cJ6_getChars_ba4f3 49 = .ok (.getstatic 83, 3) := by decide +kernel
theorem dJ6_getChars_ba4f3_52 : decode cJ6_getChars_ba4f3 52 = .ok (.iload 4, 2) := by decide +kernel
theorem dJ6_getChars_ba4f3_54 : decode cJ6_getChars_ba4f3 54 = .ok (.baload, 1) := by decide +kernel
theorem dJ6_getChars_ba4f3_55 : decode cJ6_getChars_ba4f3 55 = .ok (.bastore, 1) := by decide +kernel
theorem dJ6_getChars_ba4f3_56 : decode cJ6_getChars_ba4f3 56 = .ok (.aload_n 2, 1) := by decide +kernel
theorem dJ6_getChars_ba4f3_57 : decode cJ6_getChars_ba4f3 57 = .ok (.iinc 5 (-1), 3) := by decide +kernel
theorem dJ6_getChars_ba4f3_60 : decode cJ6_getChars_ba4f3 60 = .ok (.iload 5, 2) := by decide +kernel
theorem dJ6_getChars_ba4f3_62 : decode cJ6_getChars_ba4f3 62 = .ok (.getstatic 87, 3) := by decide +kernel
theorem dJ6_getChars_ba4f3_65 : decode cJ6_getChars_ba4f3 65 = .ok (.iload 4, 2) := by decide +kernel
theorem dJ6_getChars_ba4f3_67 : decode cJ6_getChars_ba4f3 67 = .ok (.baload, 1) := by decide +kernel
theorem dJ6_getChars_ba4f3_68 : decode cJ6_getChars_ba4f3 68 = .ok (.bastore, 1) := by decide +kernel
theorem dJ6_getChars_ba4f3_69 : decode cJ6_getChars_ba4f3 69 = .ok (.goto (-47), 3) := by decide +kernel
theorem dJ6_getChars_ba4f3_72 : decode cJ6_getChars_ba4f3 72 = .ok (.aload_n 2, 1) := by decide +kernel
theorem dJ6_getChars_ba4f3_73 : decode cJ6_getChars_ba4f3 73 = .ok (.iinc 5 (-1), 3) := by decide +kernel
theorem dJ6_getChars_ba4f3_76 : decode cJ6_getChars_ba4f3 76 = .ok (.iload 5, 2) := by decide +kernel
theorem dJ6_getChars_ba4f3_78 : decode cJ6_getChars_ba4f3 78 = .ok (.getstatic 83, 3) := by decide +kernel
theorem dJ6_getChars_ba4f3_81 : decode cJ6_getChars_ba4f3 81 = .ok (.iload_n 0, 1) := by decide +kernel
theorem dJ6_getChars_ba4f3_82 : decode cJ6_getChars_ba4f3 82 = .ok (.ineg, 1) := by decide +kernel
theorem dJ6_getChars_ba4f3_83 : decode cJ6_getChars_ba4f3 83 = .ok (.baload, 1) := by decide +kernel
theorem dJ6_getChars_ba4f3_84 : decode cJ6_getChars_ba4f3 84 = .ok (.bastore, 1) := by decide +kernel
theorem dJ6_getChars_ba4f3_85 : decode cJ6_getChars_ba4f3 85 = .ok (.iload_n 0, 1) := by decide +kernel
theorem dJ6_getChars_ba4f3_86 : decode cJ6_getChars_ba4f3 86 = .ok (.bipush (-9), 2) := by decide +kernel
theorem dJ6_getChars_ba4f3_88 : decode cJ6_getChars_ba4f3 88 = .ok (.if_icmp .ge 16, 3) := by decide +kernel
theorem dJ6_getChars_ba4f3_91 : decode cJ6_getChars_ba4f3 91 = .ok (.aload_n 2, 1) := by decide +kernel
theorem dJ6_getChars_ba4f3_92 : decode cJ6_getChars_ba4f3 92 = .ok (.iinc 5 (-1), 3) := by decide +kernel
theorem dJ6_getChars_ba4f3_95 : decode cJ6_getChars_ba4f3 95 = .ok (.iload 5, 2) := by decide +kernel
theorem dJ6_getChars_ba4f3_97 : decode cJ6_getChars_ba4f3 97 = .ok (.getstatic 87, 3) := by decide +kernel
theorem dJ6_getChars_ba4f3_100 : decode cJ6_getChars_ba4f3 100 = .ok (.iload_n 0, 1) := by decide +kernel
theorem dJ6_getChars_ba4f3_101 : decode cJ6_getChars_ba4f3 101 = .ok (.ineg, 1) := by decide +kernel
theorem dJ6_getChars_ba4f3_102 : decode cJ6_getChars_ba4f3 102 = .ok (.baload, 1) := by decide +kernel
theorem dJ6_getChars_ba4f3_103 : decode cJ6_getChars_ba4f3 103 = .ok (.bastore, 1) := by decide +kernel
theorem dJ6_getChars_ba4f3_104 : decode cJ6_getChars_ba4f3 104 = .ok (.iload 6, 2) := by decide +kernel
theorem dJ6_getChars_ba4f3_106 : decode cJ6_getChars_ba4f3 106 = .ok (.ifCond .eq 12, 3) := by decide +kernel
theorem dJ6_getChars_ba4f3_109 : decode cJ6_getChars_ba4f3 109 = .ok (.aload_n 2, 1) := by decide +kernel
theorem dJ6_getChars_ba4f3_110 : decode cJ6_getChars_ba4f3 110 = .ok (.iinc 5 (-1), 3) := by decide +kernel
theorem dJ6_getChars_ba4f3_113 : decode cJ6_getChars_ba4f3 113 = .ok (.iload 5, 2) := by decide +kernel
theorem dJ6_getChars_ba4f3_115 : decode cJ6_getChars_ba4f3 115 = .ok (.bipush 45, 2) := by decide +kernel
theorem dJ6_getChars_ba4f3_117 : decode cJ6_getChars_ba4f3 117 = .ok (.bastore, 1) := by decide +kernel
theorem dJ6_getChars_ba4f3_118 : decode cJ6_getChars_ba4f3 118 = .ok (.iload 5, 2) := by decide +kernel
theorem dJ6_getChars_ba4f3_120 : decode cJ6_getChars_ba4f3 120 = .ok (.ireturn, 1) := by decide +kernel
theorem dJ6_stringSize_0f7a4_0 : decode cJ6_stringSize_0f7a4 0 = .ok (.iconst 1, 1) := by decide +kernel
theorem dJ6_stringSize_0f7a4_1 : decode cJ6_stringSize_0f7a4 1 = .ok (.istore_n 1, 1) := by decide +kernel
theorem dJ6_stringSize_0f7a4_2 : decode cJ6_stringSize_0f7a4 2 = .ok (.iload_n 0, 1) := by decide +kernel
theorem dJ6_stringSize_0f7a4_3 : decode cJ6_stringSize_0f7a4 3 = .ok (.ifCond .lt 8, 3) := by decide +kernel
theorem dJ6_stringSize_0f7a4_6 : decode cJ6_stringSize_0f7a4 6 = .ok (.iconst 0, 1) := by decide +kernel
theorem dJ6_stringSize_0f7a4_7 : decode cJ6_stringSize_0f7a4 7 = .ok (.istore_n 1, 1) := by decide +kernel
theorem dJ6_stringSize_0f7a4_8 : decode cJ6_stringSize_0f7a4 8 = .ok (.iload_n 0, 1) := by decide +kernel
theorem dJ6_stringSize_0f7a4_9 : decode cJ6_stringSize_0f7a4 9 = .ok (.ineg, 1) := by decide +kernel
theorem dJ6_stringSize_0f7a4_10 : decode cJ6_stringSize_0f7a4 10 = .ok (.istore_n 0, 1) := by decide +kernel
theorem dJ6_stringSize_0f7a4_11 : decode cJ6_stringSize_0f7a4 11 = .ok (.bipush (-10), 2) := by decide +kernel
theorem dJ6_stringSize_0f7a4_13 : decode cJ6_stringSize_0f7a4 13 = .ok (.istore_n 2, 1) := by decide +kernel
theorem dJ6_stringSize_0f7a4_14 : decode cJ6_stringSize_0f7a4 14 = .ok (.iconst 1, 1) := by decide +kernel
theorem dJ6_stringSize_0f7a4_15 : decode cJ6_stringSize_0f7a4 15 = .ok (.istore_n 3, 1) := by decide +kernel
theorem dJ6_stringSize_0f7a4_16 : decode cJ6_stringSize_0f7a4 16 = .ok (.iload_n 3, 1) := by decide +kernel
theorem dJ6_stringSize_0f7a4_17 : decode cJ6_stringSize_0f7a4 17 = .ok (.bipush 10, 2) := by decide +kernel
theorem dJ6_stringSize_0f7a4_19 : decode cJ6_stringSize_0f7a4 19 = .ok (.if_icmp .ge 23, 3) := by decide +kernel
theorem dJ6_stringSize_0f7a4_22 : decode cJ6_stringSize_0f7a4 22 = .ok (.iload_n 0, 1) := by decide +kernel
theorem dJ6_stringSize_0f7a4_23 : decode cJ6_stringSize_0f7a4 23 = .ok (.iload_n 2, 1) := by decide +kernel
theorem dJ6_stringSize_0f7a4_24 : decode cJ6_stringSize_0f7a4 24 = .ok (.if_icmp .le 7, 3) := by decide +kernel
theorem dJ6_stringSize_0f7a4_27 : decode cJ6_stringSize_0f7a4 27 = .ok (.iload_n 3, 1) := by decide +kernel
theorem dJ6_stringSize_0f7a4_28 : decode cJ6_stringSize_0f7a4 28 = .ok (.iload_n 1, 1) := by decide +kernel
theorem dJ6_stringSize_0f7a4_29 : decode cJ6_stringSize_0f7a4 29 = .ok (.iadd, 1) := by decide +kernel
theorem dJ6_stringSize_0f7a4_30 : decode cJ6_stringSize_0f7a4 30 = .ok (.ireturn, 1) := by decide +kernel
theorem dJ6_stringSize_0f7a4_31 : decode cJ6_stringSize_0f7a4 31 = .ok (.bipush 10, 2) := by decide +kernel
theorem dJ6_stringSize_0f7a4_33 : decode cJ6_stringSize_0f7a4 33 = .ok (.iload_n 2, 1) := by decide +kernel
theorem dJ6_stringSize_0f7a4_34 : decode cJ6_stringSize_0f7a4 34 = .ok (.imul, 1) := by decide +kernel
theorem dJ6_stringSize_0f7a4_35 : decode cJ6_stringSize_0f7a4 35 = .ok (.istore_n 2, 1) := by decide +kernel
theorem dJ6_stringSize_0f7a4_36 : decode cJ6_stringSize_0f7a4 36 = .ok (.iinc 3 1, 3) := by decide +kernel
theorem dJ6_stringSize_0f7a4_39 : decode cJ6_stringSize_0f7a4 39 = .ok (.goto (-23), 3) := by decide +kernel
theorem dJ6_stringSize_0f7a4_42 : decode cJ6_stringSize_0f7a4 42 = .ok (.bipush 10, 2) := by decide +kernel
theorem dJ6_stringSize_0f7a4_44 : decode cJ6_stringSize_0f7a4 44 = .ok (.iload_n 1, 1) := by decide +kernel
theorem dJ6_stringSize_0f7a4_45 : decode cJ6_stringSize_0f7a4 45 = .ok (.iadd, 1) := by decide +kernel
theorem dJ6_stringSize_0f7a4_46 : decode cJ6_stringSize_0f7a4 46 = .ok (.ireturn, 1) := by decide +kernel
theorem dJ9_abs_0f7a4_0 : decode cJ9_abs_0f7a4 0 = .ok (.iload_n 0, 1) := by decide +kernel
theorem dJ9_abs_0f7a4_1 : decode cJ9_abs_0f7a4 1 = .ok (.ifCond .ge 8, 3) := by decide +kernel
theorem dJ9_abs_0f7a4_4 : decode cJ9_abs_0f7a4 4 = .ok (.iload_n 0, 1) := by decide +kernel
theorem dJ9_abs_0f7a4_5 : decode cJ9_abs_0f7a4 5 = .ok (.ineg, 1) := by decide +kernel
theorem dJ9_abs_0f7a4_6 : decode cJ9_abs_0f7a4 6 = .ok (.goto 4, 3) := by decide +kernel
theorem dJ9_abs_0f7a4_9 : decode cJ9_abs_0f7a4 9 = .ok (.iload_n 0, 1) := by decide +kernel
theorem dJ9_abs_0f7a4_10 : decode cJ9_abs_0f7a4 10 = .ok (.ireturn, 1) := by decide +kernel
theorem dJ9_max_7cf53_0 : decode cJ9_max_7cf53 0 = .ok (.iload_n 0, 1) := by decide +kernel
theorem dJ9_max_7cf53_1 : decode cJ9_max_7cf53 1 = .ok (.iload_n 1, 1) := by decide +kernel
theorem dJ9_max_7cf53_2 : decode cJ9_max_7cf53 2 = .ok (.if_icmp .lt 7, 3) := by decide +kernel
theorem dJ9_max_7cf53_5 : decode cJ9_max_7cf53 5 = .ok (.iload_n 0, 1) := by decide +kernel
theorem dJ9_max_7cf53_6 : decode cJ9_max_7cf53 6 = .ok (.goto 4, 3) := by decide +kernel
theorem dJ9_max_7cf53_9 : decode cJ9_max_7cf53 9 = .ok (.iload_n 1, 1) := by decide +kernel
theorem dJ9_max_7cf53_10 : decode cJ9_max_7cf53 10 = .ok (.ireturn, 1) := by decide +kernel
theorem dJ9_min_7cf53_0 : decode cJ9_min_7cf53 0 = .ok (.iload_n 0, 1) := by decide +kernel
theorem dJ9_min_7cf53_1 : decode cJ9_min_7cf53 1 = .ok (.iload_n 1, 1) := by decide +kernel
theorem dJ9_min_7cf53_2 : decode cJ9_min_7cf53 2 = .ok (.if_icmp .gt 7, 3) := by decide +kernel
theorem dJ9_min_7cf53_5 : decode cJ9_min_7cf53 5 = .ok (.iload_n 0, 1) := by decide +kernel
theorem dJ9_min_7cf53_6 : decode cJ9_min_7cf53 6 = .ok (.goto 4, 3) := by decide +kernel
theorem dJ9_min_7cf53_9 : decode cJ9_min_7cf53 9 = .ok (.iload_n 1, 1) := by decide +kernel
theorem dJ9_min_7cf53_10 : decode cJ9_min_7cf53 10 = .ok (.ireturn, 1) := by decide +kernel
theorem dJ0_init_81219_0 : decode cJ0_init_81219 0 = .ok (.aload_n 0, 1) := by decide +kernel
theorem dJ0_init_81219_1 : decode cJ0_init_81219 1 = .ok (.aload_n 1, 1) := by decide +kernel
theorem dJ0_init_81219_2 : decode cJ0_init_81219 2 = .ok (.aconst_null, 1) := by decide +kernel
theorem dJ0_init_81219_3 : decode cJ0_init_81219 3 = .ok (.invokespecial 489, 3) := by decide +kernel
theorem dJ0_init_81219_6 : decode cJ0_init_81219 6 = .ok (.return_, 1) := by decide +kernel
theorem dJ0_length_8abf5_0 : decode cJ0_length_8abf5 0 = .ok (.aload_n 0, 1) := by decide +kernel
theorem dJ0_length_8abf5_1 : decode cJ0_length_8abf5 1 = .ok (.getfield 9, 3) := by decide +kernel
theorem dJ0_length_8abf5_4 : decode cJ0_length_8abf5 4 = .ok (.arraylength, 1) := by decide +kernel
theorem dJ0_length_8abf5_5 : decode cJ0_length_8abf5 5 = .ok (.aload_n 0, 1) := by decide +kernel
theorem dJ0_length_8abf5_6 : decode cJ0_length_8abf5 6 = .ok (.invokevirtual 335, 3) := by decide +kernel
theorem dJ0_length_8abf5_9 : decode cJ0_length_8abf5 9 = .ok (.ishr, 1) := by decide +kernel
theorem dJ0_length_8abf5_10 : decode cJ0_length_8abf5 10 = .ok (.ireturn, 1) := by decide +kernel
theorem dJ0_getBytes_840e7_0 : decode cJ0_getBytes_840e7 0 = .ok (.aload_n 0, 1) := by decide +kernel
theorem dJ0_getBytes_840e7_1 : decode cJ0_getBytes_840e7 1 = .ok (.invokevirtual 335, 3) := by decide +kernel
theorem dJ0_getBytes_840e7_4 : decode cJ0_getBytes_840e7 4 = .ok (.iload_n 3, 1) := by decide +kernel
theorem dJ0_getBytes_840e7_5 : decode cJ0_getBytes_840e7 5 = .ok (.if_icmp .ne 23, 3) := by decide +kernel
theorem dJ0_getBytes_840e7_8 : decode cJ0_getBytes_840e7 8 = .ok (.aload_n 0, 1) := by decide +kernel
theorem dJ0_getBytes_840e7_9 : decode cJ0_getBytes_840e7 9 = .ok (.getfield 9, 3) := by decide +kernel
theorem dJ0_getBytes_840e7_12 : decode cJ0_getBytes_840e7 12 = .ok (.iconst 0, 1) := by decide +kernel
theorem dJ0_getBytes_840e7_13 : decode cJ0_getBytes_840e7 13 = .ok (.aload_n 1, 1) := by decide +kernel
theorem dJ0_getBytes_840e7_14 : decode cJ0_getBytes_840e7 14 = .ok (.iload_n 2, 1) := by decide +kernel
theorem dJ0_getBytes_840e7_15 : decode cJ0_getBytes_840e7 15 = .ok (.iload_n 3, 1) := by decide +kernel
theorem dJ0_getBytes_840e7_16 : decode cJ0_getBytes_840e7 16 = .ok (.ishl, 1) := by decide +kernel
theorem dJ0_getBytes_840e7_17 : decode cJ0_getBytes_840e7 17 = .ok (.aload_n 0, 1) := by decide +kernel
theorem dJ0_getBytes_840e7_18 : decode cJ0_getBytes_840e7 18 = .ok (.getfield 9, 3) := by decide +kernel
theorem dJ0_getBytes_840e7_21 : decode cJ0_getBytes_840e7 21 = .ok (.arraylength, 1) := by decide +kernel
theorem dJ0_getBytes_840e7_22 : decode cJ0_getBytes_840e7 22 = .ok (.invokestatic 212, 3) := by decide +kernel
theorem dJ0_getBytes_840e7_25 : decode cJ0_getBytes_840e7 25 = .ok (.goto 18, 3) := by decide +kernel
theorem dJ0_getBytes_840e7_28 : decode cJ0_getBytes_840e7 28 = .ok (.aload_n 0, 1) := by decide +kernel
theorem dJ0_getBytes_840e7_29 : decode cJ0_getBytes_840e7 29 = .ok (.getfield 9, 3) := by decide +kernel
theorem dJ0_getBytes_840e7_32 : decode cJ0_getBytes_840e7 32 = .ok (.iconst 0, 1) := by decide +kernel
theorem dJ0_getBytes_840e7_33 : decode cJ0_getBytes_840e7 33 = .ok (.aload_n 1, 1) := by decide +kernel
theorem dJ0_getBytes_840e7_34 : decode cJ0_getBytes_840e7 34 = .ok (.iload_n 2, 1) := by decide +kernel
theorem dJ0_getBytes_840e7_35 : decode cJ0_getBytes_840e7 35 = .ok (.aload_n 0, 1) := by decide +kernel
theorem dJ0_getBytes_840e7_36 : decode cJ0_getBytes_840e7 36 = .ok (.getfield 9, 3) := by decide +kernel
theorem dJ0_getBytes_840e7_39 : decode cJ0_getBytes_840e7 39 = .ok (.arraylength, 1) := by decide +kernel
theorem dJ0_getBytes_840e7_40 : decode cJ0_getBytes_840e7 40 = .ok (.invokestatic 106, 3) := by decide +kernel
theorem dJ0_getBytes_840e7_43 : decode cJ0_getBytes_840e7 43 = .ok (.return_, 1) := by decide +kernel
theorem dJ0_init_db425_0 : decode cJ0_init_db425 0 = .ok (.aload_n 0, 1) := by decide +kernel
theorem dJ0_init_db425_1 : decode cJ0_init_db425 1 = .ok (.invokespecial 1, 3) := by decide +kernel
theorem dJ0_init_db425_4 : decode cJ0_init_db425 4 = .ok (.aload_n 1, 1) := by decide +kernel
theorem dJ0_init_db425_5 : decode cJ0_init_db425 5 = .ok (.invokevirtual 552, 3) := by decide +kernel
theorem dJ0_init_db425_8 : decode cJ0_init_db425 8 = .ok (.astore_n 3, 1) := by decide +kernel
theorem dJ0_init_db425_9 : decode cJ0_init_db425 9 = .ok (.aload_n 1, 1) := by decide +kernel
theorem dJ0_init_db425_10 : decode cJ0_init_db425 10 = .ok (.invokevirtual 549, 3) := by decide +kernel
theorem dJ0_init_db425_13 : decode cJ0_init_db425 13 = .ok (.istore 4, 2) := by decide +kernel
theorem dJ0_init_db425_15 : decode cJ0_init_db425 15 = .ok (.aload_n 1, 1) := by decide +kernel
theorem dJ0_init_db425_16 : decode cJ0_init_db425 16 = .ok (.invokevirtual 1047, 3) := by decide +kernel
theorem dJ0_init_db425_19 : decode cJ0_init_db425 19 = .ok (.ifCond .eq 22, 3) := by decide +kernel
theorem dJ0_init_db425_22 : decode cJ0_init_db425 22 = .ok (.aload_n 0, 1) := by decide +kernel
theorem dJ0_init_db425_23 : decode cJ0_init_db425 23 = .ok (.iconst 0, 1) := by decide +kernel
theorem dJ0_init_db425_24 : decode cJ0_init_db425 24 = .ok (.putfield 15, 3) := by decide +kernel
theorem dJ0_init_db425_27 : decode cJ0_init_db425 27 = .ok (.aload_n 0, 1) := by decide +kernel
theorem dJ0_init_db425_28 : decode cJ0_init_db425 28 = .ok (.aload_n 3, 1) := by decide +kernel
theorem dJ0_init_db425_29 : decode cJ0_init_db425 29 = .ok (.iconst 0, 1) := by decide +kernel
theorem dJ0_init_db425_30 : decode cJ0_init_db425 30 = .ok (.iload 4, 2) := by decide +kernel
theorem dJ0_init_db425_32 : decode cJ0_init_db425 32 = .ok (.invokestatic 54, 3) := by decide +kernel
theorem dJ0_init_db425_35 : decode cJ0_init_db425 35 = .ok (.putfield 9, 3) := by decide +kernel
theorem dJ0_init_db425_38 : decode cJ0_init_db425 38 = .ok (.goto 59, 3) := by decide +kernel
theorem dJ0_init_db425_41 : decode cJ0_init_db425 41 = .ok (.getstatic 38, 3) := by decide +kernel
theorem dJ0_init_db425_44 : decode cJ0_init_db425 44 = .ok (.ifCond .eq 35, 3) := by decide +kernel
theorem dJ0_init_db425_47 : decode cJ0_init_db425 47 = .ok (.aload_n 1, 1) := by decide +kernel
theorem dJ0_init_db425_48 : decode cJ0_init_db425 48 = .ok (.getfield 1048, 3) := by decide +kernel
theorem dJ0_init_db425_51 : decode cJ0_init_db425 51 = .ok (.ifCond .eq 28, 3) := by decide +kernel
theorem dJ0_init_db425_54 : decode cJ0_init_db425 54 = .ok (.aload_n 0, 1) := by decide +kernel
theorem dJ0_init_db425_55 : decode cJ0_init_db425 55 = .ok (.aload_n 3, 1) := by decide +kernel
theorem dJ0_init_db425_56 : decode cJ0_init_db425 56 = .ok (.iconst 0, 1) := by decide +kernel
theorem dJ0_init_db425_57 : decode cJ0_init_db425 57 = .ok (.iload 4, 2) := by decide +kernel
theorem dJ0_init_db425_59 : decode cJ0_init_db425 59 = .ok (.invokestatic 1051, 3) := by decide +kernel
theorem dJ0_init_db425_62 : decode cJ0_init_db425 62 = .ok (.putfield 9, 3) := by decide +kernel
theorem dJ0_init_db425_65 : decode cJ0_init_db425 65 = .ok (.aload_n 0, 1) := by decide +kernel
theorem dJ0_init_db425_66 : decode cJ0_init_db425 66 = .ok (.aload_n 0, 1) := by decide +kernel
theorem dJ0_init_db425_67 : decode cJ0_init_db425 67 = .ok (.getfield 9, 3) := by decide +kernel
theorem dJ0_init_db425_70 : decode cJ0_init_db425 70 = .ok (.iload 4, 2) := by decide +kernel
theorem dJ0_init_db425_72 : decode cJ0_init_db425 72 = .ok (.invokestatic 47, 3) := by decide +kernel
theorem dJ0_init_db425_75 : decode cJ0_init_db425 75 = .ok (.putfield 15, 3) := by decide +kernel
theorem dJ0_init_db425_78 : decode cJ0_init_db425 78 = .ok (.return_, 1) := by decide +kernel
theorem dJ0_init_db425_79 : decode cJ0_init_db425 79 = .ok (.aload_n 0, 1) := by decide +kernel
theorem dJ0_init_db425_80 : decode cJ0_init_db425 80 = .ok (.iconst 1, 1) := by decide +kernel
theorem dJ0_init_db425_81 : decode cJ0_init_db425 81 = .ok (.putfield 15, 3) := by decide +kernel
theorem dJ0_init_db425_84 : decode cJ0_init_db425 84 = .ok (.aload_n 0, 1) := by decide +kernel
theorem dJ0_init_db425_85 : decode cJ0_init_db425 85 = .ok (.aload_n 3, 1) := by decide +kernel
theorem dJ0_init_db425_86 : decode cJ0_init_db425 86 = .ok (.iconst 0, 1) := by decide +kernel
theorem dJ0_init_db425_87 : decode cJ0_init_db425 87 = .ok (.iload 4, 2) := by decide +kernel
theorem dJ0_init_db425_89 : decode cJ0_init_db425 89 = .ok (.iconst 1, 1) := by decide +kernel
theorem dJ0_init_db425_90 : decode cJ0_init_db425 90 = .ok (.ishl, 1) := by decide +kernel
theorem dJ0_init_db425_91 : decode cJ0_init_db425 91 = .ok (.invokestatic 54, 3) := by decide +kernel
theorem dJ0_init_db425_94 : decode cJ0_init_db425 94 = .ok (.putfield 9, 3) := by decide +kernel
theorem dJ0_init_db425_97 : decode cJ0_init_db425 97 = .ok (.return_, 1) := by decide +kernel
theorem dJ0_coder_7d493_0 : decode cJ0_coder_7d493 0 = .ok (.getstatic 38, 3) := by decide +kernel
theorem dJ0_coder_7d493_3 : decode cJ0_coder_7d493 3 = .ok (.ifCond .eq 10, 3) := by decide +kernel
theorem dJ0_coder_7d493_6 : decode cJ0_coder_7d493 6 = .ok (.aload_n 0, 1) := by decide +kernel
theorem dJ0_coder_7d493_7 : decode cJ0_coder_7d493 7 = .ok (.getfield 15, 3) := by decide +kernel
theorem dJ0_coder_7d493_10 : decode cJ0_coder_7d493 10 = .ok (.goto 4, 3) := by decide +kernel
theorem dJ0_coder_7d493_13 : decode cJ0_coder_7d493 13 = .ok (.iconst 1, 1) := by decide +kernel
theorem dJ0_coder_7d493_14 : decode cJ0_coder_7d493 14 = .ok (.ireturn, 1) := by decide +kernel
theorem dJ0_checkIndex_df160_0 : decode cJ0_checkIndex_df160 0 = .ok (.iload_n 0, 1) := by decide +kernel
theorem dJ0_checkIndex_df160_1 : decode cJ0_checkIndex_df160 1 = .ok (.iload_n 1, 1) := by decide +kernel
theorem dJ0_checkIndex_df160_2 : decode cJ0_checkIndex_df160 2 = .ok (.getstatic 1053, 3) := by decide +kernel
theorem dJ0_checkIndex_df160_5 : decode cJ0_checkIndex_df160 5 = .ok (.invokestatic 1059, 3) := by decide +kernel
theorem dJ0_checkIndex_df160_8 : decode cJ0_checkIndex_df160 8 = .ok (.pop, 1) := by decide +kernel
theorem dJ0_checkIndex_df160_9 : decode cJ0_checkIndex_df160 9 = .ok (.return_, 1) := by decide +kernel
theorem dJ0_checkBoundsOffCount_cabcc_0 : decode cJ0_checkBoundsOffCount_cabcc 0 = .ok (.iload_n 0, 1) := by decide +kernel
theorem dJ0_checkBoundsOffCount_cabcc_1 : decode cJ0_checkBoundsOffCount_cabcc 1 = .ok (.iload_n 1, 1) := by decide +kernel
theorem dJ0_checkBoundsOffCount_cabcc_2 : decode cJ0_checkBoundsOffCount_cabcc 2 = .ok (.iload_n 2, 1) := by decide +kernel
theorem dJ0_checkBoundsOffCount_cabcc_3 : decode cJ0_checkBoundsOffCount_cabcc 3 = .ok (.getstatic 1053, 3) := by decide +kernel
theorem dJ0_checkBoundsOffCount_cabcc_6 : decode cJ0_checkBoundsOffCount_cabcc 6 = .ok (.invokestatic 1065, 3) := by decide +kernel
theorem dJ0_checkBoundsOffCount_cabcc_9 : decode cJ0_checkBoundsOffCount_cabcc 9 = .ok (.ireturn, 1) := by decide +kernel
theorem dJ0_checkBoundsBeginEnd_23922_0 : decode cJ0_checkBoundsBeginEnd_23922 0 = .ok (.iload_n 0, 1) := by decide +kernel
theorem dJ0_checkBoundsBeginEnd_23922_1 : decode cJ0_checkBoundsBeginEnd_23922 1 = .ok (.iload_n 1, 1) := by decide +kernel
theorem dJ0_checkBoundsBeginEnd_23922_2 : decode cJ0_checkBoundsBeginEnd_23922 2 = .ok (.iload_n 2, 1) := by decide +kernel
theorem dJ0_checkBoundsBeginEnd_23922_3 : decode cJ0_checkBoundsBeginEnd_23922 3 = .ok (.getstatic 1053, 3) := by decide +kernel
theorem dJ0_checkBoundsBeginEnd_23922_6 : decode cJ0_checkBoundsBeginEnd_23922 6 = .ok (.invokestatic 1062, 3) := by decide +kernel
theorem dJ0_checkBoundsBeginEnd_23922_9 : decode cJ0_checkBoundsBeginEnd_23922 9 = .ok (.pop, 1) := by decide +kernel
theorem dJ0_checkBoundsBeginEnd_23922_10 : decode cJ0_checkBoundsBeginEnd_23922 10 = .ok (.return_, 1) := by decide +kernel
theorem dJ4_init_da8c8_0 : decode cJ4_init_da8c8 0 = .ok (.aload_n 0, 1) := by decide +kernel
theorem dJ4_init_da8c8_1 : decode cJ4_init_da8c8 1 = .ok (.bipush 16, 2) := by decide +kernel
theorem dJ4_init_da8c8_3 : decode cJ4_init_da8c8 3 = .ok (.invokespecial 1, 3) := by decide +kernel
theorem dJ4_init_da8c8_6 : decode cJ4_init_da8c8 6 = .ok (.return_, 1) := by decide +kernel
theorem dJ4_append_15ec4_0 : decode cJ4_append_15ec4 0 = .ok (.aload_n 0, 1) := by decide +kernel
theorem dJ4_append_15ec4_1 : decode cJ4_append_15ec4 1 = .ok (.aload_n 1, 1) := by decide +kernel
theorem dJ4_append_15ec4_2 : decode cJ4_append_15ec4 2 = .ok (.invokespecial 29, 3) := by decide +kernel
theorem dJ4_append_15ec4_5 : decode cJ4_append_15ec4 5 = .ok (.pop, 1) := by decide +kernel
theorem dJ4_append_15ec4_6 : decode cJ4_append_15ec4 6 = .ok (.aload_n 0, 1) := by decide +kernel
theorem dJ4_append_15ec4_7 : decode cJ4_append_15ec4 7 = .ok (.areturn, 1) := by decide +kernel
theorem dJ4_append_cf468_0 : decode cJ4_append_cf468 0 = .ok (.aload_n 0, 1) := by decide +kernel
theorem dJ4_append_cf468_1 : decode cJ4_append_cf468 1 = .ok (.iload_n 1, 1) := by decide +kernel
theorem dJ4_append_cf468_2 : decode cJ4_append_cf468 2 = .ok (.invokespecial 50, 3) := by decide +kernel
theorem dJ4_append_cf468_5 : decode cJ4_append_cf468 5 = .ok (.pop, 1) := by decide +kernel
theorem dJ4_append_cf468_6 : decode cJ4_append_cf468 6 = .ok (.aload_n 0, 1) := by decide +kernel
theorem dJ4_append_cf468_7 : decode cJ4_append_cf468 7 = .ok (.areturn, 1) := by decide +kernel
theorem dJ4_append_bf812_0 : decode cJ4_append_bf812 0 = .ok (.aload_n 0, 1) := by decide +kernel
theorem dJ4_append_bf812_1 : decode cJ4_append_bf812 1 = .ok (.iload_n 1, 1) := by decide +kernel
theorem dJ4_append_bf812_2 : decode cJ4_append_bf812 2 = .ok (.invokespecial 53, 3) := by decide +kernel
theorem dJ4_append_bf812_5 : decode cJ4_append_bf812 5 = .ok (.pop, 1) := by decide +kernel
theorem dJ4_append_bf812_6 : decode cJ4_append_bf812 6 = .ok (.aload_n 0, 1) := by decide +kernel
theorem dJ4_append_bf812_7 : decode cJ4_append_bf812 7 = .ok (.areturn, 1) := by decide +kernel
theorem dJ4_toString_0e30d_0 : decode cJ4_toString_0e30d 0 = .ok (.new 18, 3) := by decide +kernel
theorem dJ4_toString_0e30d_3 : decode cJ4_toString_0e30d 3 = .ok (.dup, 1) := by decide +kernel
theorem dJ4_toString_0e30d_4 : decode cJ4_toString_0e30d 4 = .ok (.aload_n 0, 1) := by decide +kernel
theorem dJ4_toString_0e30d_5 : decode cJ4_toString_0e30d 5 = .ok (.invokespecial 137, 3) := by decide +kernel
theorem dJ4_toString_0e30d_8 : decode cJ4_toString_0e30d 8 = .ok (.areturn, 1) := by decide +kernel
theorem dJ4_charAt_5068e_0 : decode cJ4_charAt_5068e 0 = .ok (.aload_n 0, 1) := by decide +kernel
theorem dJ4_charAt_5068e_1 : decode cJ4_charAt_5068e 1 = .ok (.iload_n 1, 1) := by decide +kernel
theorem dJ4_charAt_5068e_2 : decode cJ4_charAt_5068e 2 = .ok (.invokespecial 329, 3) := by decide +kernel
theorem dJ4_charAt_5068e_5 : decode cJ4_charAt_5068e 5 = .ok (.ireturn, 1) := by decide +kernel
theorem dJ4_length_8abf5_0 : decode cJ4_length_8abf5 0 = .ok (.aload_n 0, 1) := by decide +kernel
theorem dJ4_length_8abf5_1 : decode cJ4_length_8abf5 1 = .ok (.invokespecial 343, 3) := by decide +kernel
theorem dJ4_length_8abf5_4 : decode cJ4_length_8abf5 4 = .ok (.ireturn, 1) := by decide +kernel
theorem dJ1_canEncode_fc78d_0 : decode cJ1_canEncode_fc78d 0 = .ok (.iload_n 0, 1) := by decide +kernel
theorem dJ1_canEncode_fc78d_1 : decode cJ1_canEncode_fc78d 1 = .ok (.sipush 255, 3) := by decide +kernel
theorem dJ1_canEncode_fc78d_4 : decode cJ1_canEncode_fc78d 4 = .ok (.if_icmp .gt 7, 3) := by decide +kernel
theorem dJ1_canEncode_fc78d_7 : decode cJ1_canEncode_fc78d 7 = .ok (.iconst 1, 1) := by decide +kernel
theorem dJ1_canEncode_fc78d_8 : decode cJ1_canEncode_fc78d 8 = .ok (.goto 4, 3) := by decide +kernel
theorem dJ1_canEncode_fc78d_11 : decode cJ1_canEncode_fc78d 11 = .ok (.iconst 0, 1) := by decide +kernel
theorem dJ1_canEncode_fc78d_12 : decode cJ1_canEncode_fc78d 12 = .ok (.ireturn, 1) := by decide +kernel
theorem dJ1_inflate_0e8fd_0 : decode cJ1_inflate_0e8fd 0 = .ok (.aload_n 0, 1) := by decide +kernel
theorem dJ1_inflate_0e8fd_1 : decode cJ1_inflate_0e8fd 1 = .ok (.iload_n 1, 1) := by decide +kernel
theorem dJ1_inflate_0e8fd_2 : decode cJ1_inflate_0e8fd 2 = .ok (.aload_n 2, 1) := by decide +kernel
theorem dJ1_inflate_0e8fd_3 : decode cJ1_inflate_0e8fd 3 = .ok (.iload_n 3, 1) := by decide +kernel
theorem dJ1_inflate_0e8fd_4 : decode cJ1_inflate_0e8fd 4 = .ok (.iload 4, 2) := by decide +kernel
theorem dJ1_inflate_0e8fd_6 : decode cJ1_inflate_0e8fd 6 = .ok (.invokestatic 240, 3) := by decide +kernel
theorem dJ1_inflate_0e8fd_9 : decode cJ1_inflate_0e8fd 9 = .ok (.return_, 1) := by decide +kernel
theorem dJ2_newBytesFor_77867_0 : decode cJ2_newBytesFor_77867 0 = .ok (.iload_n 0, 1) := by decide +kernel
theorem dJ2_newBytesFor_77867_1 : decode cJ2_newBytesFor_77867 1 = .ok (.invokestatic 11, 3) := by decide +kernel
theorem dJ2_newBytesFor_77867_4 : decode cJ2_newBytesFor_77867 4 = .ok (.newarray .byte, 2) := by decide +kernel
theorem dJ2_newBytesFor_77867_6 : decode cJ2_newBytesFor_77867 6 = .ok (.areturn, 1) := by decide +kernel
theorem dJ2_newBytesLength_0f7a4_0 : decode cJ2_newBytesLength_0f7a4 0 = .ok (.iload_n 0, 1) := by decide +kernel
theorem dJ2_newBytesLength_0f7a4_1 : decode cJ2_newBytesLength_0f7a4 1 = .ok (.ifCond .ge 11, 3) := by decide +kernel
theorem dJ2_newBytesLength_0f7a4_4 : decode cJ2_newBytesLength_0f7a4 4 = .ok (.new 17, 3) := by decide +kernel
theorem dJ2_newBytesLength_0f7a4_7 : decode cJ2_newBytesLength_0f7a4 7 = .ok (.dup, 1) := by decide +kernel
theorem dJ2_newBytesLength_0f7a4_8 : decode cJ2_newBytesLength_0f7a4 8 = .ok (.invokespecial 19, 3) := by decide +kernel
theorem dJ2_newBytesLength_0f7a4_11 : decode cJ2_newBytesLength_0f7a4 11 = .ok (.athrow, 1) := by decide +kernel
theorem dJ2_newBytesLength_0f7a4_12 : decode cJ2_newBytesLength_0f7a4 12 = .ok (.iload_n 0, 1) := by decide +kernel
theorem dJ2_newBytesLength_0f7a4_13 : decode cJ2_newBytesLength_0f7a4 13 = .ok (.ldc 20, 2) := by decide +kernel
theorem dJ2_newBytesLength_0f7a4_15 : decode cJ2_newBytesLength_0f7a4 15 = .ok (.if_icmp .lt 40, 3) := by decide +kernel
theorem dJ2_newBytesLength_0f7a4_18 : decode cJ2_newBytesLength_0f7a4 18 = .ok (.new 21, 3) := by decide +kernel
theorem dJ2_newBytesLength_0f7a4_21 : decode cJ2_newBytesLength_0f7a4 21 = .ok (.dup, 1) := by decide +kernel
theorem dJ2_newBytesLength_0f7a4_22 : decode cJ2_newBytesLength_0f7a4 22 = .ok (.new 23, 3) := by decide +kernel
theorem dJ2_newBytesLength_0f7a4_25 : decode cJ2_newBytesLength_0f7a4 25 = .ok (.dup, 1) := by decide +kernel
theorem dJ2_newBytesLength_0f7a4_26 : decode cJ2_newBytesLength_0f7a4 26 = .ok (.invokespecial 25, 3) := by decide +kernel
theorem dJ2_newBytesLength_0f7a4_29 : decode cJ2_newBytesLength_0f7a4 29 = .ok (.ldc 26, 2) := by decide +kernel
theorem dJ2_newBytesLength_0f7a4_31 : decode cJ2_newBytesLength_0f7a4 31 = .ok (.invokevirtual 28, 3) := by decide +kernel
theorem dJ2_newBytesLength_0f7a4_34 : decode cJ2_newBytesLength_0f7a4 34 = .ok (.iload_n 0, 1) := by decide +kernel
theorem dJ2_newBytesLength_0f7a4_35 : decode cJ2_newBytesLength_0f7a4 35 = .ok (.invokevirtual 32, 3) := by decide +kernel
theorem dJ2_newBytesLength_0f7a4_38 : decode cJ2_newBytesLength_0f7a4 38 = .ok (.ldc 35, 2) := by decide +kernel
theorem dJ2_newBytesLength_0f7a4_40 : decode cJ2_newBytesLength_0f7a4 40 = .ok (.invokevirtual 28, 3) := by decide +kernel
theorem dJ2_newBytesLength_0f7a4_43 : decode cJ2_newBytesLength_0f7a4 43 = .ok (.ldc 20, 2) := by decide +kernel
theorem dJ2_newBytesLength_0f7a4_45 : decode cJ2_newBytesLength_0f7a4 45 = .ok (.invokevirtual 32, 3) := by decide +kernel
theorem dJ2_newBytesLength_0f7a4_48 : decode cJ2_newBytesLength_0f7a4 48 = .ok (.invokevirtual 37, 3) := by decide +kernel
theorem dJ2_newBytesLength_0f7a4_51 : decode cJ2_newBytesLength_0f7a4 51 = .ok (.invokespecial 41, 3) := by decide +kernel
theorem dJ2_newBytesLength_0f7a4_54 : decode cJ2_newBytesLength_0f7a4 54 = .ok (.athrow, 1) := by decide +kernel
theorem dJ2_newBytesLength_0f7a4_55 : decode cJ2_newBytesLength_0f7a4 55 = .ok (.iload_n 0, 1) := by decide +kernel
theorem dJ2_newBytesLength_0f7a4_56 : decode cJ2_newBytesLength_0f7a4 56 = .ok (.iconst 1, 1) := by decide +kernel
theorem dJ2_newBytesLength_0f7a4_57 : decode cJ2_newBytesLength_0f7a4 57 = .ok (.ishl, 1) := by decide +kernel
theorem dJ2_newBytesLength_0f7a4_58 : decode cJ2_newBytesLength_0f7a4 58 = .ok (.ireturn, 1) := by decide +kernel
theorem dJ2_putChar_b72d1_0 : decode cJ2_putChar_b72d1 0 = .ok (.getstatic 44, 3) := by decide +kernel
theorem dJ2_putChar_b72d1_3 : decode cJ2_putChar_b72d1 3 = .ok (.ifCond .ne 25, 3) := by decide +kernel
theorem dJ2_putChar_b72d1_6 : decode cJ2_putChar_b72d1 6 = .ok (.iload_n 1, 1) := by decide +kernel
theorem dJ2_putChar_b72d1_7 : decode cJ2_putChar_b72d1 7 = .ok (.ifCond .lt 11, 3) := by decide +kernel
theorem dJ2_putChar_b72d1_10 : decode cJ2_putChar_b72d1 10 = .ok (.iload_n 1, 1) := by decide +kernel
theorem dJ2_putChar_b72d1_11 : decode cJ2_putChar_b72d1 11 = .ok (.aload_n 0, 1) := by decide +kernel
theorem dJ2_putChar_b72d1_12 : decode cJ2_putChar_b72d1 12 = .ok (.invokestatic 48, 3) := by decide +kernel
theorem dJ2_putChar_b72d1_15 : decode cJ2_putChar_b72d1 15 = .ok (.if_icmp .lt 13, 3) := by decide +kernel
theorem dJ2_putChar_b72d1_18 : decode cJ2_putChar_b72d1 18 = .ok (.new 52, 3) := by decide +kernel
theorem dJ2_putChar_b72d1_21 : decode cJ2_putChar_b72d1 21 = .ok (.dup, 1) := by decide +kernel
theorem dJ2_putChar_b72d1_22 : decode cJ2_putChar_b72d1 22 = .ok (.ldc 54, 2) := by decide +kernel
theorem dJ2_putChar_b72d1_24 : decode cJ2_putChar_b72d1 24 = .ok (.invokespecial 56, 3) := by decide +kernel
theorem dJ2_putChar_b72d1_27 : decode cJ2_putChar_b72d1 27 = .ok (.athrow, 1) := by decide +kernel
theorem dJ2_putChar_b72d1_28 : decode cJ2_putChar_b72d1 28 = .ok (.iload_n 1, 1) := by decide +kernel
theorem dJ2_putChar_b72d1_29 : decode cJ2_putChar_b72d1 29 = .ok (.iconst 1, 1) := by decide +kernel
theorem dJ2_putChar_b72d1_30 : decode cJ2_putChar_b72d1 30 = .ok (.ishl, 1) := by decide +kernel
theorem dJ2_putChar_b72d1_31 : decode cJ2_putChar_b72d1 31 = .ok (.istore_n 1, 1) := by decide +kernel
theorem dJ2_putChar_b72d1_32 : decode cJ2_putChar_b72d1 32 = .ok (.aload_n 0, 1) := by decide +kernel
theorem dJ2_putChar_b72d1_33 : decode cJ2_putChar_b72d1 33 = .ok (.iload_n 1, 1) := by decide +kernel
theorem dJ2_putChar_b72d1_34 : decode cJ2_putChar_b72d1 34 = .ok (.iinc 1 1, 3) := by decide +kernel
theorem dJ2_putChar_b72d1_37 : decode cJ2_putChar_b72d1 37 = .ok (.iload_n 2, 1) := by decide +kernel
theorem dJ2_putChar_b72d1_38 : decode cJ2_putChar_b72d1 38 = .ok (.getstatic 59, 3) := by decide +kernel
theorem dJ2_putChar_b72d1_41 : decode cJ2_putChar_b72d1 41 = .ok (.ishr, 1) := by decide +kernel
theorem dJ2_putChar_b72d1_42 : decode cJ2_putChar_b72d1 42 = .ok (.i2b, 1) := by decide +kernel
theorem dJ2_putChar_b72d1_43 : decode cJ2_putChar_b72d1 43 = .ok (.bastore, 1) := by decide +kernel
theorem dJ2_putChar_b72d1_44 : decode cJ2_putChar_b72d1 44 = .ok (.aload_n 0, 1) := by decide +kernel
theorem dJ2_putChar_b72d1_45 : decode cJ2_putChar_b72d1 45 = .ok (.iload_n 1, 1) := by decide +kernel
theorem dJ2_putChar_b72d1_46 : decode cJ2_putChar_b72d1 46 = .ok (.iload_n 2, 1) := by decide +kernel
theorem dJ2_putChar_b72d1_47 : decode cJ2_putChar_b72d1 47 = .ok (.getstatic 63, 3) := by decide +kernel
theorem dJ2_putChar_b72d1_50 : decode cJ2_putChar_b72d1 50 = .ok (.ishr, 1) := by decide +kernel
theorem dJ2_putChar_b72d1_51 : decode cJ2_putChar_b72d1 51 = .ok (.i2b, 1) := by decide +kernel
theorem dJ2_putChar_b72d1_52 : decode cJ2_putChar_b72d1 52 = .ok (.bastore, 1) := by decide +kernel
theorem dJ2_putChar_b72d1_53 : decode cJ2_putChar_b72d1 53 = .ok (.return_, 1) := by decide +kernel
theorem dJ2_getChar_3b067_0 : decode cJ2_getChar_3b067 0 = .ok (.getstatic 44, 3) := by decide +kernel
theorem dJ2_getChar_3b067_3 : decode cJ2_getChar_3b067 3 = .ok (.ifCond .ne 25, 3) := by decide +kernel
theorem dJ2_getChar_3b067_6 : decode cJ2_getChar_3b067 6 = .ok (.iload_n 1, 1) := by decide +kernel
theorem dJ2_getChar_3b067_7 : decode cJ2_getChar_3b067 7 = .ok (.ifCond .lt 11, 3) := by decide +kernel
theorem dJ2_getChar_3b067_10 : decode cJ2_getChar_3b067 10 = .ok (.iload_n 1, 1) := by decide +kernel
theorem dJ2_getChar_3b067_11 : decode cJ2_getChar_3b067 11 = .ok (.aload_n 0, 1) := by decide +kernel
theorem dJ2_getChar_3b067_12 : decode cJ2_getChar_3b067 12 = .ok (.invokestatic 48, 3) := by decide +kernel
theorem dJ2_getChar_3b067_15 : decode cJ2_getChar_3b067 15 = .ok (.if_icmp .lt 13, 3) := by decide +kernel
theorem dJ2_getChar_3b067_18 : decode cJ2_getChar_3b067 18 = .ok (.new 52, 3) := by decide +kernel
theorem dJ2_getChar_3b067_21 : decode cJ2_getChar_3b067 21 = .ok (.dup, 1) := by decide +kernel
theorem dJ2_getChar_3b067_22 : decode cJ2_getChar_3b067 22 = .ok (.ldc 54, 2) := by decide +kernel
theorem dJ2_getChar_3b067_24 : decode cJ2_getChar_3b067 24 = .ok (.invokespecial 56, 3) := by decide +kernel
theorem dJ2_getChar_3b067_27 : decode cJ2_getChar_3b067 27 = .ok (.athrow, 1) := by decide +kernel
theorem dJ2_getChar_3b067_28 : decode cJ2_getChar_3b067 28 = .ok (.iload_n 1, 1) := by decide +kernel
theorem dJ2_getChar_3b067_29 : decode cJ2_getChar_3b067 29 = .ok (.iconst 1, 1) := by decide +kernel
theorem dJ2_getChar_3b067_30 : decode cJ2_getChar_3b067 30 = .ok (.ishl, 1) := by decide +kernel
theorem dJ2_getChar_3b067_31 : decode cJ2_getChar_3b067 31 = .ok (.istore_n 1, 1) := by decide +kernel
theorem dJ2_getChar_3b067_32 : decode cJ2_getChar_3b067 32 = .ok (.aload_n 0, 1) := by decide +kernel
theorem dJ2_getChar_3b067_33 : decode cJ2_getChar_3b067 33 = .ok (.iload_n 1, 1) := by decide +kernel
theorem dJ2_getChar_3b067_34 : decode cJ2_getChar_3b067 34 = .ok (.iinc 1 1, 3) := by decide +kernel
theorem dJ2_getChar_3b067_37 : decode cJ2_getChar_3b067 37 = .ok (.baload, 1) := by decide +kernel
theorem dJ2_getChar_3b067_38 : decode cJ2_getChar_3b067 38 = .ok (.sipush 255, 3) := by decide +kernel
theorem dJ2_getChar_3b067_41 : decode cJ2_getChar_3b067 41 = .ok (.iand, 1) := by decide +kernel
theorem dJ2_getChar_3b067_42 : decode cJ2_getChar_3b067 42 = .ok (.getstatic 59, 3) := by decide +kernel
theorem dJ2_getChar_3b067_45 : decode cJ2_getChar_3b067 45 = .ok (.ishl, 1) := by decide +kernel
theorem dJ2_getChar_3b067_46 : decode cJ2_getChar_3b067 46 = .ok (.aload_n 0, 1) := by decide +kernel
theorem dJ2_getChar_3b067_47 : decode cJ2_getChar_3b067 47 = .ok (.iload_n 1, 1) := by decide +kernel
theorem dJ2_getChar_3b067_48 : decode cJ2_getChar_3b067 48 = .ok (.baload, 1) := by decide +kernel
theorem dJ2_getChar_3b067_49 : decode cJ2_getChar_3b067 49 = .ok (.sipush 255, 3) := by decide +kernel
theorem dJ2_getChar_3b067_52 : decode cJ2_getChar_3b067 52 = .ok (.iand, 1) := by decide +kernel
theorem dJ2_getChar_3b067_53 : decode cJ2_getChar_3b067 53 = .ok (.getstatic 63, 3) := by decide +kernel
theorem dJ2_getChar_3b067_56 : decode cJ2_getChar_3b067 56 = .ok (.ishl, 1) := by decide +kernel
theorem dJ2_getChar_3b067_57 : decode cJ2_getChar_3b067 57 = .ok (.ior, 1) := by decide +kernel
theorem dJ2_getChar_3b067_58 : decode cJ2_getChar_3b067 58 = .ok (.i2c, 1) := by decide +kernel
theorem dJ2_getChar_3b067_59 : decode cJ2_getChar_3b067 59 = .ok (.ireturn, 1) := by decide +kernel
theorem dJ2_length_9d52b_0 : decode cJ2_length_9d52b 0 = .ok (.aload_n 0, 1) := by decide +kernel
theorem dJ2_length_9d52b_1 : decode cJ2_length_9d52b 1 = .ok (.arraylength, 1) := by decide +kernel
theorem dJ2_length_9d52b_2 : decode cJ2_length_9d52b 2 = .ok (.iconst 1, 1) := by decide +kernel
theorem dJ2_length_9d52b_3 : decode cJ2_length_9d52b 3 = .ok (.ishr, 1) := by decide +kernel
theorem dJ2_length_9d52b_4 : decode cJ2_length_9d52b 4 = .ok (.ireturn, 1) := by decide +kernel
theorem dJ2_coderFromArrayLen_85cad_0 : decode cJ2_coderFromArrayLen_85cad 0 = .ok (.iload_n 1, 1) := by decide +kernel
theorem dJ2_coderFromArrayLen_85cad_1 : decode cJ2_coderFromArrayLen_85cad 1 = .ok (.aload_n 0, 1) := by decide +kernel
theorem dJ2_coderFromArrayLen_85cad_2 : decode cJ2_coderFromArrayLen_85cad 2 = .ok (.arraylength, 1) := by decide +kernel
theorem dJ2_coderFromArrayLen_85cad_3 : decode cJ2_coderFromArrayLen_85cad 3 = .ok (.isub, 1) := by decide +kernel
theorem dJ2_coderFromArrayLen_85cad_4 : decode cJ2_coderFromArrayLen_85cad 4 = .ok (.bipush 31, 2) := by decide +kernel
theorem dJ2_coderFromArrayLen_85cad_6 : decode cJ2_coderFromArrayLen_85cad 6 = .ok (.iushr, 1) := by decide +kernel
theorem dJ2_coderFromArrayLen_85cad_7 : decode cJ2_coderFromArrayLen_85cad 7 = .ok (.i2b, 1) := by decide +kernel
theorem dJ2_coderFromArrayLen_85cad_8 : decode cJ2_coderFromArrayLen_85cad 8 = .ok (.ireturn, 1) := by decide +kernel
theorem dJ2_compress_39247_0 : decode cJ2_compress_39247 0 = .ok (.iload_n 2, 1) := by decide +kernel
theorem dJ2_compress_39247_1 : decode cJ2_compress_39247 1 = .ok (.newarray .byte, 2) := by decide +kernel
theorem dJ2_compress_39247_3 : decode cJ2_compress_39247 3 = .ok (.astore_n 3, 1) := by decide +kernel
theorem dJ2_compress_39247_4 : decode cJ2_compress_39247 4 = .ok (.aload_n 0, 1) := by decide +kernel
theorem dJ2_compress_39247_5 : decode cJ2_compress_39247 5 = .ok (.iload_n 1, 1) := by decide +kernel
theorem dJ2_compress_39247_6 : decode cJ2_compress_39247 6 = .ok (.aload_n 3, 1) := by decide +kernel
theorem dJ2_compress_39247_7 : decode cJ2_compress_39247 7 = .ok (.iconst 0, 1) := by decide +kernel
theorem dJ2_compress_39247_8 : decode cJ2_compress_39247 8 = .ok (.iload_n 2, 1) := by decide +kernel
theorem dJ2_compress_39247_9 : decode cJ2_compress_39247 9 = .ok (.invokestatic 123, 3) := by decide +kernel
theorem dJ2_compress_39247_12 : decode cJ2_compress_39247 12 = .ok (.istore 4, 2) := by decide +kernel
theorem dJ2_compress_39247_14 : decode cJ2_compress_39247 14 = .ok (.iload 4, 2) := by decide +kernel
theorem dJ2_compress_39247_16 : decode cJ2_compress_39247 16 = .ok (.iload_n 2, 1) := by decide +kernel
theorem dJ2_compress_39247_17 : decode cJ2_compress_39247 17 = .ok (.if_icmp .eq 47, 3) := by decide +kernel
theorem dJ2_compress_39247_20 : decode cJ2_compress_39247 20 = .ok (.aload_n 0, 1) := by decide +kernel
theorem dJ2_compress_39247_21 : decode cJ2_compress_39247 21 = .ok (.iload_n 1, 1) := by decide +kernel
theorem dJ2_compress_39247_22 : decode cJ2_compress_39247 22 = .ok (.iconst 1, 1) := by decide +kernel
theorem dJ2_compress_39247_23 : decode cJ2_compress_39247 23 = .ok (.ishl, 1) := by decide +kernel
theorem dJ2_compress_39247_24 : decode cJ2_compress_39247 24 = .ok (.iload_n 1, 1) := by decide +kernel
theorem dJ2_compress_39247_25 : decode cJ2_compress_39247 25 = .ok (.iload_n 2, 1) := by decide +kernel
theorem dJ2_compress_39247_26 : decode cJ2_compress_39247 26 = .ok (.iadd, 1) := by decide +kernel
theorem dJ2_compress_39247_27 : decode cJ2_compress_39247 27 = .ok (.invokestatic 11, 3) := by decide +kernel
theorem dJ2_compress_39247_30 : decode cJ2_compress_39247 30 = .ok (.invokestatic 126, 3) := by decide +kernel
theorem dJ2_compress_39247_33 : decode cJ2_compress_39247 33 = .ok (.astore 5, 2) := by decide +kernel
theorem dJ2_compress_39247_35 : decode cJ2_compress_39247 35 = .ok (.aload 5, 2) := by decide +kernel
theorem dJ2_compress_39247_37 : decode cJ2_compress_39247 37 = .ok (.iload 4, 2) := by decide +kernel
theorem dJ2_compress_39247_39 : decode cJ2_compress_39247 39 = .ok (.invokestatic 71, 3) := by decide +kernel
theorem dJ2_compress_39247_42 : decode cJ2_compress_39247 42 = .ok (.sipush 255, 3) := by decide +kernel
theorem dJ2_compress_39247_45 : decode cJ2_compress_39247 45 = .ok (.if_icmp .gt 16, 3) := by decide +kernel
theorem dJ2_compress_39247_48 : decode cJ2_compress_39247 48 = .ok (.aload 5, 2) := by decide +kernel
theorem dJ2_compress_39247_50 : decode cJ2_compress_39247 50 = .ok (.iconst 0, 1) := by decide +kernel
theorem dJ2_compress_39247_51 : decode cJ2_compress_39247 51 = .ok (.aload_n 3, 1) := by decide +kernel
theorem dJ2_compress_39247_52 : decode cJ2_compress_39247 52 = .ok (.iconst 0, 1) := by decide +kernel
theorem dJ2_compress_39247_53 : decode cJ2_compress_39247 53 = .ok (.iload_n 2, 1) := by decide +kernel
theorem dJ2_compress_39247_54 : decode cJ2_compress_39247 54 = .ok (.invokestatic 123, 3) := by decide +kernel
theorem dJ2_compress_39247_57 : decode cJ2_compress_39247 57 = .ok (.iload_n 2, 1) := by decide +kernel
theorem dJ2_compress_39247_58 : decode cJ2_compress_39247 58 = .ok (.if_icmp .eq 6, 3) := by decide +kernel
theorem dJ2_compress_39247_61 : decode cJ2_compress_39247 61 = .ok (.aload 5, 2) := by decide +kernel
theorem dJ2_compress_39247_63 : decode cJ2_compress_39247 63 = .ok (.areturn, 1) := by decide +kernel
theorem dJ2_compress_39247_64 : decode cJ2_compress_39247 64 = .ok (.aload_n 3, 1) := by decide +kernel
theorem dJ2_compress_39247_65 : decode cJ2_compress_39247 65 = .ok (.areturn, 1) := by decide +kernel
theorem dJ2_compress_5af95_0 : decode cJ2_compress_5af95 0 = .ok (.iload_n 1, 1) := by decide +kernel
theorem dJ2_compress_5af95_1 : decode cJ2_compress_5af95 1 = .ok (.iload 4, 2) := by decide +kernel
theorem dJ2_compress_5af95_3 : decode cJ2_compress_5af95 3 = .ok (.aload_n 0, 1) := by decide +kernel
theorem dJ2_compress_5af95_4 : decode cJ2_compress_5af95 4 = .ok (.invokestatic 173, 3) := by decide +kernel
theorem dJ2_compress_5af95_7 : decode cJ2_compress_5af95 7 = .ok (.iconst 0, 1) := by decide +kernel
theorem dJ2_compress_5af95_8 : decode cJ2_compress_5af95 8 = .ok (.istore 5, 2) := by decide +kernel
theorem dJ2_compress_5af95_10 : decode cJ2_compress_5af95 10 = .ok (.iload 5, 2) := by decide +kernel
theorem dJ2_compress_5af95_12 : decode cJ2_compress_5af95 12 = .ok (.iload 4, 2) := by decide +kernel
theorem dJ2_compress_5af95_14 : decode cJ2_compress_5af95 14 = .ok (.if_icmp .ge 39, 3) := by decide +kernel
theorem dJ2_compress_5af95_17 : decode cJ2_compress_5af95 17 = .ok (.aload_n 0, 1) := by decide +kernel
theorem dJ2_compress_5af95_18 : decode cJ2_compress_5af95 18 = .ok (.iload_n 1, 1) := by decide +kernel
theorem dJ2_compress_5af95_19 : decode cJ2_compress_5af95 19 = .ok (.invokestatic 71, 3) := by decide +kernel
theorem dJ2_compress_5af95_22 : decode cJ2_compress_5af95 22 = .ok (.istore 6, 2) := by decide +kernel
theorem dJ2_compress_5af95_24 : decode cJ2_compress_5af95 24 = .ok (.iload 6, 2) := by decide +kernel
theorem dJ2_compress_5af95_26 : decode cJ2_compress_5af95 26 = .ok (.sipush 255, 3) := by decide +kernel
theorem dJ2_compress_5af95_29 : decode cJ2_compress_5af95 29 = .ok (.if_icmp .le 6, 3) := by decide +kernel
theorem dJ2_compress_5af95_32 : decode cJ2_compress_5af95 32 = .ok (.iload 5, 2) := by decide +kernel
theorem dJ2_compress_5af95_34 : decode cJ2_compress_5af95 34 = .ok (.ireturn, 1) := by decide +kernel
theorem dJ2_compress_5af95_35 : decode cJ2_compress_5af95 35 = .ok (.aload_n 2, 1) := by decide +kernel
theorem dJ2_compress_5af95_36 : decode cJ2_compress_5af95 36 = .ok (.iload_n 3, 1) := by decide +kernel
theorem dJ2_compress_5af95_37 : decode cJ2_compress_5af95 37 = .ok (.iload 6, 2) := by decide +kernel
theorem dJ2_compress_5af95_39 : decode cJ2_compress_5af95 39 = .ok (.i2b, 1) := by decide +kernel
theorem dJ2_compress_5af95_40 : decode cJ2_compress_5af95 40 = .ok (.bastore, 1) := by decide +kernel
theorem dJ2_compress_5af95_41 : decode cJ2_compress_5af95 41 = .ok (.iinc 1 1, 3) := by decide +kernel
theorem dJ2_compress_5af95_44 : decode cJ2_compress_5af95 44 = .ok (.iinc 3 1, 3) := by decide +kernel
theorem dJ2_compress_5af95_47 : decode cJ2_compress_5af95 47 = .ok (.iinc 5 1, 3) := by decide +kernel
theorem dJ2_compress_5af95_50 : decode cJ2_compress_5af95 50 = .ok (.goto (-40), 3) := by decide +kernel
theorem dJ2_compress_5af95_53 : decode cJ2_compress_5af95 53 = .ok (.iload 4, 2) := by decide +kernel
theorem dJ2_compress_5af95_55 : decode cJ2_compress_5af95 55 = .ok (.ireturn, 1) := by decide +kernel
theorem dJ2_putCharSB_b72d1_0 : decode cJ2_putCharSB_b72d1 0 = .ok (.iload_n 1, 1) := by decide +kernel
theorem dJ2_putCharSB_b72d1_1 : decode cJ2_putCharSB_b72d1 1 = .ok (.aload_n 0, 1) := by decide +kernel
theorem dJ2_putCharSB_b72d1_2 : decode cJ2_putCharSB_b72d1 2 = .ok (.invokestatic 67, 3) := by decide +kernel
theorem dJ2_putCharSB_b72d1_5 : decode cJ2_putCharSB_b72d1 5 = .ok (.aload_n 0, 1) := by decide +kernel
theorem dJ2_putCharSB_b72d1_6 : decode cJ2_putCharSB_b72d1 6 = .ok (.iload_n 1, 1) := by decide +kernel
theorem dJ2_putCharSB_b72d1_7 : decode cJ2_putCharSB_b72d1 7 = .ok (.iload_n 2, 1) := by decide +kernel
theorem dJ2_putCharSB_b72d1_8 : decode cJ2_putCharSB_b72d1 8 = .ok (.invokestatic 111, 3) := by decide +kernel
theorem dJ2_putCharSB_b72d1_11 : decode cJ2_putCharSB_b72d1 11 = .ok (.return_, 1) := by decide +kernel
theorem dJ2_getChars_46870_0 : decode cJ2_getChars_46870 0 = .ok (.iload_n 1, 1) := by decide +kernel
theorem dJ2_getChars_46870_1 : decode cJ2_getChars_46870 1 = .ok (.iload_n 2, 1) := by decide +kernel
theorem dJ2_getChars_46870_2 : decode cJ2_getChars_46870 2 = .ok (.aload_n 3, 1) := by decide +kernel
theorem dJ2_getChars_46870_3 : decode cJ2_getChars_46870 3 = .ok (.invokestatic 96, 3) := by decide +kernel
theorem dJ2_getChars_46870_6 : decode cJ2_getChars_46870 6 = .ok (.iload_n 0, 1) := by decide +kernel
theorem dJ2_getChars_46870_7 : decode cJ2_getChars_46870 7 = .ok (.iload_n 2, 1) := by decide +kernel
theorem dJ2_getChars_46870_8 : decode cJ2_getChars_46870 8 = .ok (.aload_n 3, 1) := by decide +kernel
theorem dJ2_getChars_46870_9 : decode cJ2_getChars_46870 9 = .ok (.invokestatic 393, 3) := by decide +kernel
theorem dJ2_getChars_46870_12 : decode cJ2_getChars_46870 12 = .ok (.istore 4, 2) := by decide +kernel
theorem dJ2_getChars_46870_14 : decode cJ2_getChars_46870 14 = .ok (.getstatic 44, 3) := by decide +kernel
theorem dJ2_getChars_46870_17 : decode cJ2_getChars_46870 17 = .ok (.ifCond .ne 17, 3) := by decide +kernel
theorem dJ2_getChars_46870_20 : decode cJ2_getChars_46870 20 = .ok (.iload_n 1, 1) := by decide +kernel
theorem dJ2_getChars_46870_21 : decode cJ2_getChars_46870 21 = .ok (.iload 4, 2) := by decide +kernel
theorem dJ2_getChars_46870_23 : decode cJ2_getChars_46870 23 = .ok (.if_icmp .eq 11, 3) := by decide +kernel
theorem dJ2_getChars_46870_26 : decode cJ2_getChars_46870 26 = .ok (.new 52, 3) := by decide +kernel
theorem dJ2_getChars_46870_29 : decode cJ2_getChars_46870 29 = .ok (.dup, 1) := by decide +kernel
theorem dJ2_getChars_46870_30 : decode cJ2_getChars_46870 30 = .ok (.invokespecial 66, 3) := by decide +kernel
theorem dJ2_getChars_46870_33 : decode cJ2_getChars_46870 33 = .ok (.athrow, 1) := by decide +kernel
theorem dJ2_getChars_46870_34 : decode cJ2_getChars_46870 34 = .ok (.iload 4, 2) := by decide +kernel
theorem dJ2_getChars_46870_36 : decode cJ2_getChars_46870 36 = .ok (.ireturn, 1) := by decide +kernel
theorem dJ2_putCharsAt_cd4e5_0 : decode cJ2_putCharsAt_cd4e5 0 = .ok (.iload_n 1, 1) := by decide +kernel
theorem dJ2_putCharsAt_cd4e5_1 : decode cJ2_putCharsAt_cd4e5 1 = .ok (.iconst 4, 1) := by decide +kernel
theorem dJ2_putCharsAt_cd4e5_2 : decode cJ2_putCharsAt_cd4e5 2 = .ok (.iadd, 1) := by decide +kernel
theorem dJ2_putCharsAt_cd4e5_3 : decode cJ2_putCharsAt_cd4e5 3 = .ok (.istore 6, 2) := by decide +kernel
theorem dJ2_putCharsAt_cd4e5_5 : decode cJ2_putCharsAt_cd4e5 5 = .ok (.iload_n 1, 1) := by decide +kernel
theorem dJ2_putCharsAt_cd4e5_6 : decode cJ2_putCharsAt_cd4e5 6 = .ok (.iload 6, 2) := by decide +kernel
theorem dJ2_putCharsAt_cd4e5_8 : decode cJ2_putCharsAt_cd4e5 8 = .ok (.aload_n 0, 1) := by decide +kernel
theorem dJ2_putCharsAt_cd4e5_9 : decode cJ2_putCharsAt_cd4e5 9 = .ok (.invokestatic 96, 3) := by decide +kernel
theorem dJ2_putCharsAt_cd4e5_12 : decode cJ2_putCharsAt_cd4e5 12 = .ok (.aload_n 0, 1) := by decide +kernel
theorem dJ2_putCharsAt_cd4e5_13 : decode cJ2_putCharsAt_cd4e5 13 = .ok (.iload_n 1, 1) := by decide +kernel
theorem dJ2_putCharsAt_cd4e5_14 : decode cJ2_putCharsAt_cd4e5 14 = .ok (.iinc 1 1, 3) := by decide +kernel
theorem dJ2_putCharsAt_cd4e5_17 : decode cJ2_putCharsAt_cd4e5 17 = .ok (.iload_n 2, 1) := by decide +kernel
theorem dJ2_putCharsAt_cd4e5_18 : decode cJ2_putCharsAt_cd4e5 18 = .ok (.invokestatic 111, 3) := by decide +kernel
theorem dJ2_putCharsAt_cd4e5_21 : decode cJ2_putCharsAt_cd4e5 21 = .ok (.aload_n 0, 1) := by decide +kernel
theorem dJ2_putCharsAt_cd4e5_22 : decode cJ2_putCharsAt_cd4e5 22 = .ok (.iload_n 1, 1) := by decide +kernel
theorem dJ2_putCharsAt_cd4e5_23 : decode cJ2_putCharsAt_cd4e5 23 = .ok (.iinc 1 1, 3) := by decide +kernel
theorem dJ2_putCharsAt_cd4e5_26 : decode cJ2_putCharsAt_cd4e5 26 = .ok (.iload_n 3, 1) := by decide +kernel
theorem dJ2_putCharsAt_cd4e5_27 : decode cJ2_putCharsAt_cd4e5 27 = .ok (.invokestatic 111, 3) := by decide +kernel
theorem dJ2_putCharsAt_cd4e5_30 : decode cJ2_putCharsAt_cd4e5 30 = .ok (.aload_n 0, 1) := by decide +kernel
theorem dJ2_putCharsAt_cd4e5_31 : decode cJ2_putCharsAt_cd4e5 31 = .ok (.iload_n 1, 1) := by decide +kernel
theorem dJ2_putCharsAt_cd4e5_32 : decode cJ2_putCharsAt_cd4e5 32 = .ok (.iinc 1 1, 3) := by decide +kernel
theorem dJ2_putCharsAt_cd4e5_35 : decode cJ2_putCharsAt_cd4e5 35 = .ok (.iload 4, 2) := by decide +kernel
theorem dJ2_putCharsAt_cd4e5_37 : decode cJ2_putCharsAt_cd4e5 37 = .ok (.invokestatic 111, 3) := by decide +kernel
theorem dJ2_putCharsAt_cd4e5_40 : decode cJ2_putCharsAt_cd4e5 40 = .ok (.aload_n 0, 1) := by decide +kernel
theorem dJ2_putCharsAt_cd4e5_41 : decode cJ2_putCharsAt_cd4e5 41 = .ok (.iload_n 1, 1) := by decide +kernel
theorem dJ2_putCharsAt_cd4e5_42 : decode cJ2_putCharsAt_cd4e5 42 = .ok (.iinc 1 1, 3) := by decide +kernel
theorem dJ2_putCharsAt_cd4e5_45 : decode cJ2_putCharsAt_cd4e5 45 = .ok (.iload 5, 2) := by decide +kernel
theorem dJ2_putCharsAt_cd4e5_47 : decode cJ2_putCharsAt_cd4e5 47 = .ok (.invokestatic 111, 3) := by decide +kernel
theorem dJ2_putCharsAt_cd4e5_50 : decode cJ2_putCharsAt_cd4e5 50 = .ok (.getstatic 44, 3) := by decide +kernel
theorem dJ2_putCharsAt_cd4e5_53 : decode cJ2_putCharsAt_cd4e5 53 = .ok (.ifCond .ne 17, 3) := by decide +kernel
theorem dJ2_putCharsAt_cd4e5_56 : decode cJ2_putCharsAt_cd4e5 56 = .ok (.iload_n 1, 1) := by decide +kernel
theorem dJ2_putCharsAt_cd4e5_57 : decode cJ2_putCharsAt_cd4e5 57 = .ok (.iload 6, 2) := by decide +kernel
theorem dJ2_putCharsAt_cd4e5_59 : decode cJ2_putCharsAt_cd4e5 59 = .ok (.if_icmp .eq 11, 3) := by decide +kernel
theorem dJ2_putCharsAt_cd4e5_62 : decode cJ2_putCharsAt_cd4e5 62 = .ok (.new 52, 3) := by decide +kernel
theorem dJ2_putCharsAt_cd4e5_65 : decode cJ2_putCharsAt_cd4e5 65 = .ok (.dup, 1) := by decide +kernel
theorem dJ2_putCharsAt_cd4e5_66 : decode cJ2_putCharsAt_cd4e5 66 = .ok (.invokespecial 66, 3) := by decide +kernel
theorem dJ2_putCharsAt_cd4e5_69 : decode cJ2_putCharsAt_cd4e5 69 = .ok (.athrow, 1) := by decide +kernel
theorem dJ2_putCharsAt_cd4e5_70 : decode cJ2_putCharsAt_cd4e5 70 = .ok (.iload 6, 2) := by decide +kernel
theorem dJ2_putCharsAt_cd4e5_72 : decode cJ2_putCharsAt_cd4e5 72 = .ok (.ireturn, 1) := by decide +kernel
theorem dJ2_inflate_0e8fd_0 : decode cJ2_inflate_0e8fd 0 = .ok (.iload_n 3, 1) := by decide +kernel
theorem dJ2_inflate_0e8fd_1 : decode cJ2_inflate_0e8fd 1 = .ok (.iload 4, 2) := by decide +kernel
theorem dJ2_inflate_0e8fd_3 : decode cJ2_inflate_0e8fd 3 = .ok (.aload_n 2, 1) := by decide +kernel
theorem dJ2_inflate_0e8fd_4 : decode cJ2_inflate_0e8fd 4 = .ok (.invokestatic 173, 3) := by decide +kernel
theorem dJ2_inflate_0e8fd_7 : decode cJ2_inflate_0e8fd 7 = .ok (.iconst 0, 1) := by decide +kernel
theorem dJ2_inflate_0e8fd_8 : decode cJ2_inflate_0e8fd 8 = .ok (.istore 5, 2) := by decide +kernel
theorem dJ2_inflate_0e8fd_10 : decode cJ2_inflate_0e8fd 10 = .ok (.iload 5, 2) := by decide +kernel
theorem dJ2_inflate_0e8fd_12 : decode cJ2_inflate_0e8fd 12 = .ok (.iload 4, 2) := by decide +kernel
theorem dJ2_inflate_0e8fd_14 : decode cJ2_inflate_0e8fd 14 = .ok (.if_icmp .ge 27, 3) := by decide +kernel
theorem dJ2_inflate_0e8fd_17 : decode cJ2_inflate_0e8fd 17 = .ok (.aload_n 2, 1) := by decide +kernel
theorem dJ2_inflate_0e8fd_18 : decode cJ2_inflate_0e8fd 18 = .ok (.iload_n 3, 1) := by decide +kernel
theorem dJ2_inflate_0e8fd_19 : decode cJ2_inflate_0e8fd 19 = .ok (.iinc 3 1, 3) := by decide +kernel
theorem dJ2_inflate_0e8fd_22 : decode cJ2_inflate_0e8fd 22 = .ok (.aload_n 0, 1) := by decide +kernel
theorem dJ2_inflate_0e8fd_23 : decode cJ2_inflate_0e8fd 23 = .ok (.iload_n 1, 1) := by decide +kernel
theorem dJ2_inflate_0e8fd_24 : decode cJ2_inflate_0e8fd 24 = .ok (.iinc 1 1, 3) := by decide +kernel
theorem dJ2_inflate_0e8fd_27 : decode cJ2_inflate_0e8fd 27 = .ok (.baload, 1) := by decide +kernel
theorem dJ2_inflate_0e8fd_28 : decode cJ2_inflate_0e8fd 28 = .ok (.sipush 255, 3) := by decide +kernel
theorem dJ2_inflate_0e8fd_31 : decode cJ2_inflate_0e8fd 31 = .ok (.iand, 1) := by decide +kernel
theorem dJ2_inflate_0e8fd_32 : decode cJ2_inflate_0e8fd 32 = .ok (.invokestatic 111, 3) := by decide +kernel
theorem dJ2_inflate_0e8fd_35 : decode cJ2_inflate_0e8fd 35 = .ok (.iinc 5 1, 3) := by decide +kernel
theorem dJ2_inflate_0e8fd_38 : decode cJ2_inflate_0e8fd 38 = .ok (.goto (-28), 3) := by decide +kernel
theorem dJ2_inflate_0e8fd_41 : decode cJ2_inflate_0e8fd 41 = .ok (.return_, 1) := by decide +kernel
theorem dJ2_getChars_ba4f3_0 : decode cJ2_getChars_ba4f3 0 = .ok (.iload_n 1, 1) := by decide +kernel
theorem dJ2_getChars_ba4f3_1 : decode cJ2_getChars_ba4f3 1 = .ok (.istore 5, 2) := by decide +kernel
theorem dJ2_getChars_ba4f3_3 : decode cJ2_getChars_ba4f3 3 = .ok (.iload_n 0, 1) := by decide +kernel
theorem dJ2_getChars_ba4f3_4 : decode cJ2_getChars_ba4f3 4 = .ok (.ifCond .ge 7, 3) := by decide +kernel
theorem dJ2_getChars_ba4f3_7 : decode cJ2_getChars_ba4f3 7 = .ok (.iconst 1, 1) := by decide +kernel
theorem dJ2_getChars_ba4f3_8 : decode cJ2_getChars_ba4f3 8 = .ok (.goto 4, 3) := by decide +kernel
theorem dJ2_getChars_ba4f3_11 : decode cJ2_getChars_ba4f3 11 = .ok (.iconst 0, 1) := by decide +kernel
theorem dJ2_getChars_ba4f3_12 : decode cJ2_getChars_ba4f3 12 = .ok (.istore 6, 2) := by decide +kernel
theorem dJ2_getChars_ba4f3_14 : decode cJ2_getChars_ba4f3 14 = .ok (.iload 6, 2) := by decide +kernel
theorem dJ2_getChars_ba4f3_16 : decode cJ2_getChars_ba4f3 16 = .ok (.ifCond .ne 6, 3) := by decide +kernel
theorem dJ2_getChars_ba4f3_19 : decode cJ2_getChars_ba4f3 19 = .ok (.iload_n 0, 1) := by decide +kernel
theorem dJ2_getChars_ba4f3_20 : decode cJ2_getChars_ba4f3 20 = .ok (.ineg, 1) := by decide +kernel
theorem dJ2_getChars_ba4f3_21 : decode cJ2_getChars_ba4f3 21 = .ok (.istore_n 0, 1) := by decide +kernel
theorem dJ2_getChars_ba4f3_22 : decode cJ2_getChars_ba4f3 22 = .ok (.iload_n 0, 1) := by decide +kernel
theorem dJ2_getChars_ba4f3_23 : decode cJ2_getChars_ba4f3 23 = .ok (.bipush (-100), 2) := by decide +kernel
theorem dJ2_getChars_ba4f3_25 : decode cJ2_getChars_ba4f3 25 = .ok (.if_icmp .gt 51, 3) := by decide +kernel
theorem dJ2_getChars_ba4f3_28 : decode cJ2_getChars_ba4f3 28 = .ok (.iload_n 0, 1) := by decide +kernel
theorem dJ2_getChars_ba4f3_29 : decode cJ2_getChars_ba4f3 29 = .ok (.bipush 100, 2) := by decide +kernel
theorem dJ2_getChars_ba4f3_31 : decode cJ2_getChars_ba4f3 31 = .ok (.idiv, 1) := by decide +kernel
theorem dJ2_getChars_ba4f3_32 : decode cJ2_getChars_ba4f3 32 = .ok (.istore_n 3, 1) := by decide +kernel
theorem dJ2_getChars_ba4f3_33 : decode cJ2_getChars_ba4f3 33 = .ok (.iload_n 3, 1) := by decide +kernel
theorem dJ2_getChars_ba4f3_34 : decode cJ2_getChars_ba4f3 34 = .ok (.bipush 100, 2) := by decide +kernel
theorem dJ2_getChars_ba4f3_36 : decode cJ2_getChars_ba4f3 36 = .ok (.imul, 1) := by decide +kernel
theorem dJ2_getChars_ba4f3_37 : decode cJ2_getChars_ba4f3 37 = .ok (.iload_n 0, 1) := by decide +kernel
theorem dJ2_getChars_ba4f3_38 : decode cJ2_getChars_ba4f3 38 = .ok (.isub, 1) := by decide +kernel
theorem dJ2_getChars_ba4f3_39 : decode cJ2_getChars_ba4f3 39 = .ok (.istore 4, 2) := by decide +kernel
theorem dJ2_getChars_ba4f3_41 : decode cJ2_getChars_ba4f3 41 = .ok (.iload_n 3, 1) := by decide +kernel
theorem dJ2_getChars_ba4f3_42 : decode cJ2_getChars_ba4f3 42 = .ok (.istore_n 0, 1) := by decide +kernel
theorem dJ2_getChars_ba4f3_43 : decode cJ2_getChars_ba4f3 43 = .ok (.aload_n 2, 1) := by decide +kernel
theorem dJ2_getChars_ba4f3_44 : decode cJ2_getChars_ba4f3 44 = .ok (.iinc 5 (-1), 3) := by decide +kernel
theorem dJ2_getChars_ba4f3_47 : decode cJ2_getChars_ba4f3 47 = .ok (.iload 5, 2) := by decide +kernel
theorem dJ2_getChars_ba4f3_49 : decode cJ2_getChars_ba4f3 49 = .ok (.getstatic 403, 3) := by decide +kernel
theorem dJ2_getChars_ba4f3_52 : decode cJ2_getChars_ba4f3 52 = .ok (.iload 4, 2) := by decide +kernel
theorem dJ2_getChars_ba4f3_54 : decode cJ2_getChars_ba4f3 54 = .ok (.baload, 1) := by decide +kernel
theorem dJ2_getChars_ba4f3_55 : decode cJ2_getChars_ba4f3 55 = .ok (.invokestatic 111, 3) := by decide +kernel
theorem dJ2_getChars_ba4f3_58 : decode cJ2_getChars_ba4f3 58 = .ok (.aload_n 2, 1) := by decide +kernel
theorem dJ2_getChars_ba4f3_59 : decode cJ2_getChars_ba4f3 59 = .ok (.iinc 5 (-1), 3) := by decide +kernel
theorem dJ2_getChars_ba4f3_62 : decode cJ2_getChars_ba4f3 62 = .ok (.iload 5, 2) := by decide +kernel
theorem dJ2_getChars_ba4f3_64 : decode cJ2_getChars_ba4f3 64 = .ok (.getstatic 407, 3) := by decide +kernel
theorem dJ2_getChars_ba4f3_67 : decode cJ2_getChars_ba4f3 67 = .ok (.iload 4, 2) := by decide +kernel
theorem dJ2_getChars_ba4f3_69 : decode cJ2_getChars_ba4f3 69 = .ok (.baload, 1) := by decide +kernel
theorem dJ2_getChars_ba4f3_70 : decode cJ2_getChars_ba4f3 70 = .ok (.invokestatic 111, 3) := by decide +kernel
theorem dJ2_getChars_ba4f3_73 : decode cJ2_getChars_ba4f3 73 = .ok (.goto (-51), 3) := by decide +kernel
theorem dJ2_getChars_ba4f3_76 : decode cJ2_getChars_ba4f3 76 = .ok (.aload_n 2, 1) := by decide +kernel
theorem dJ2_getChars_ba4f3_77 : decode cJ2_getChars_ba4f3 77 = .ok (.iinc 5 (-1), 3) := by decide +kernel
theorem dJ2_getChars_ba4f3_80 : decode cJ2_getChars_ba4f3 80 = .ok (.iload 5, 2) := by decide +kernel
theorem dJ2_getChars_ba4f3_82 : decode cJ2_getChars_ba4f3 82 = .ok (.getstatic 403, 3) := by decide +kernel
theorem dJ2_getChars_ba4f3_85 : decode cJ2_getChars_ba4f3 85 = .ok (.iload_n 0, 1) := by decide +kernel
theorem dJ2_getChars_ba4f3_86 : decode cJ2_getChars_ba4f3 86 = .ok (.ineg, 1) := by decide +kernel
theorem dJ2_getChars_ba4f3_87 : decode cJ2_getChars_ba4f3 87 = .ok (.baload, 1) := by decide +kernel
theorem dJ2_getChars_ba4f3_88 : decode cJ2_getChars_ba4f3 88 = .ok (.invokestatic 111, 3) := by decide +kernel
theorem dJ2_getChars_ba4f3_91 : decode cJ2_getChars_ba4f3 91 = .ok (.iload_n 0, 1) := by decide +kernel
theorem dJ2_getChars_ba4f3_92 : decode cJ2_getChars_ba4f3 92 = .ok (.bipush (-9), 2) := by decide +kernel
theorem dJ2_getChars_ba4f3_94 : decode cJ2_getChars_ba4f3 94 = .ok (.if_icmp .ge 18, 3) := by decide +kernel
theorem dJ2_getChars_ba4f3_97 : decode cJ2_getChars_ba4f3 97 = .ok (.aload_n 2, 1) := by decide +kernel
theorem dJ2_getChars_ba4f3_98 : decode cJ2_getChars_ba4f3 98 = .ok (.iinc 5 (-1), 3) := by decide +kernel
theorem dJ2_getChars_ba4f3_101 : decode cJ2_getChars_ba4f3 101 = .ok (.iload 5, 2) := by decide +kernel
theorem dJ2_getChars_ba4f3_103 : decode cJ2_getChars_ba4f3 103 = .ok (.getstatic 407, 3) := by decide +kernel
theorem dJ2_getChars_ba4f3_106 : decode cJ2_getChars_ba4f3 106 = .ok (.iload_n 0, 1) := by decide +kernel
theorem dJ2_getChars_ba4f3_107 : decode cJ2_getChars_ba4f3 107 = .ok (.ineg, 1) := by decide +kernel
theorem dJ2_getChars_ba4f3_108 : decode cJ2_getChars_ba4f3 108 = .ok (.baload, 1) := by decide +kernel
theorem dJ2_getChars_ba4f3_109 : decode cJ2_getChars_ba4f3 109 = .ok (.invokestatic 111, 3) := by decide +kernel
theorem dJ2_getChars_ba4f3_112 : decode cJ2_getChars_ba4f3 112 = .ok (.iload 6, 2) := by decide +kernel
theorem dJ2_getChars_ba4f3_114 : decode cJ2_getChars_ba4f3 114 = .ok (.ifCond .eq 14, 3) := by decide +kernel
theorem dJ2_getChars_ba4f3_117 : decode cJ2_getChars_ba4f3 117 = .ok (.aload_n 2, 1) := by decide +kernel
theorem dJ2_getChars_ba4f3_118 : decode cJ2_getChars_ba4f3 118 = .ok (.iinc 5 (-1), 3) := by decide +kernel
theorem dJ2_getChars_ba4f3_121 : decode cJ2_getChars_ba4f3 121 = .ok (.iload 5, 2) := by decide +kernel
theorem dJ2_getChars_ba4f3_123 : decode cJ2_getChars_ba4f3 123 = .ok (.bipush 45, 2) := by decide +kernel
theorem dJ2_getChars_ba4f3_125 : decode cJ2_getChars_ba4f3 125 = .ok (.invokestatic 111, 3) := by decide +kernel
theorem dJ2_getChars_ba4f3_128 : decode cJ2_getChars_ba4f3 128 = .ok (.iload 5, 2) := by decide +kernel
theorem dJ2_getChars_ba4f3_130 : decode cJ2_getChars_ba4f3 130 = .ok (.ireturn, 1) := by decide +kernel
theorem dJ2_checkIndex_2214a_0 : decode cJ2_checkIndex_2214a 0 = .ok (.iload_n 0, 1) := by decide +kernel
theorem dJ2_checkIndex_2214a_1 : decode cJ2_checkIndex_2214a 1 = .ok (.aload_n 1, 1) := by decide +kernel
theorem dJ2_checkIndex_2214a_2 : decode cJ2_checkIndex_2214a 2 = .ok (.invokestatic 48, 3) := by decide +kernel
theorem dJ2_checkIndex_2214a_5 : decode cJ2_checkIndex_2214a 5 = .ok (.invokestatic 414, 3) := by decide +kernel
theorem dJ2_checkIndex_2214a_8 : decode cJ2_checkIndex_2214a 8 = .ok (.return_, 1) := by decide +kernel
theorem dJ2_checkBoundsBeginEnd_d044e_0 : decode cJ2_checkBoundsBeginEnd_d044e 0 = .ok (.iload_n 0, 1) := by decide +kernel
theorem dJ2_checkBoundsBeginEnd_d044e_1 : decode cJ2_checkBoundsBeginEnd_d044e 1 = .ok (.iload_n 1, 1) := by decide +kernel
theorem dJ2_checkBoundsBeginEnd_d044e_2 : decode cJ2_checkBoundsBeginEnd_d044e 2 = .ok (.aload_n 2, 1) := by decide +kernel
theorem dJ2_checkBoundsBeginEnd_d044e_3 : decode cJ2_checkBoundsBeginEnd_d044e 3 = .ok (.invokestatic 48, 3) := by decide +kernel
theorem dJ2_checkBoundsBeginEnd_d044e_6 : decode cJ2_checkBoundsBeginEnd_d044e 6 = .ok (.invokestatic 241, 3) := by decide +kernel
theorem dJ2_checkBoundsBeginEnd_d044e_9 : decode cJ2_checkBoundsBeginEnd_d044e 9 = .ok (.return_, 1) := by decide +kernel
theorem dJ2_checkBoundsOffCount_d044e_0 : decode cJ2_checkBoundsOffCount_d044e 0 = .ok (.iload_n 0, 1) := by decide +kernel
theorem dJ2_checkBoundsOffCount_d044e_1 : decode cJ2_checkBoundsOffCount_d044e 1 = .ok (.iload_n 1, 1) := by decide +kernel
theorem dJ2_checkBoundsOffCount_d044e_2 : decode cJ2_checkBoundsOffCount_d044e 2 = .ok (.aload_n 2, 1) := by decide +kernel
theorem dJ2_checkBoundsOffCount_d044e_3 : decode cJ2_checkBoundsOffCount_d044e 3 = .ok (.invokestatic 48, 3) := by decide +kernel
theorem dJ2_checkBoundsOffCount_d044e_6 : decode cJ2_checkBoundsOffCount_d044e 6 = .ok (.invokestatic 419, 3) := by decide +kernel
theorem dJ2_checkBoundsOffCount_d044e_9 : decode cJ2_checkBoundsOffCount_d044e 9 = .ok (.pop, 1) := by decide +kernel
theorem dJ2_checkBoundsOffCount_d044e_10 : decode cJ2_checkBoundsOffCount_d044e 10 = .ok (.return_, 1) := by decide +kernel
theorem dJxa1e45_init_da8c8_0 : decode cJxa1e45_init_da8c8 0 = .ok (.aload_n 0, 1) := by decide +kernel
theorem dJxa1e45_init_da8c8_1 : decode cJxa1e45_init_da8c8 1 = .ok (.invokespecial 1, 3) := by decide +kernel
theorem dJxa1e45_init_da8c8_4 : decode cJxa1e45_init_da8c8 4 = .ok (.return_, 1) := by decide +kernel
theorem dJxc12de_init_da8c8_0 : decode cJxc12de_init_da8c8 0 = .ok (.aload_n 0, 1) := by decide +kernel
theorem dJxc12de_init_da8c8_1 : decode cJxc12de_init_da8c8 1 = .ok (.invokespecial 1, 3) := by decide +kernel
theorem dJxc12de_init_da8c8_4 : decode cJxc12de_init_da8c8 4 = .ok (.aload_n 0, 1) := by decide +kernel
theorem dJxc12de_init_da8c8_5 : decode cJxc12de_init_da8c8 5 = .ok (.iconst 0, 1) := by decide +kernel
theorem dJxc12de_init_da8c8_6 : decode cJxc12de_init_da8c8 6 = .ok (.putfield 7, 3) := by decide +kernel
theorem dJxc12de_init_da8c8_9 : decode cJxc12de_init_da8c8 9 = .ok (.return_, 1) := by decide +kernel
theorem dJx4a65c_init_da8c8_0 : decode cJx4a65c_init_da8c8 0 = .ok (.aload_n 0, 1) := by decide +kernel
theorem dJx4a65c_init_da8c8_1 : decode cJx4a65c_init_da8c8 1 = .ok (.invokespecial 1, 3) := by decide +kernel
theorem dJx4a65c_init_da8c8_4 : decode cJx4a65c_init_da8c8 4 = .ok (.aload_n 0, 1) := by decide +kernel
theorem dJx4a65c_init_da8c8_5 : decode cJx4a65c_init_da8c8 5 = .ok (.getstatic 39, 3) := by decide +kernel
theorem dJx4a65c_init_da8c8_8 : decode cJx4a65c_init_da8c8 8 = .ok (.putfield 9, 3) := by decide +kernel
theorem dJx4a65c_init_da8c8_11 : decode cJx4a65c_init_da8c8 11 = .ok (.return_, 1) := by decide +kernel
theorem dJx4a65c_grow_92f84_0 : decode cJx4a65c_grow_92f84 0 = .ok (.aload_n 0, 1) := by decide +kernel
theorem dJx4a65c_grow_92f84_1 : decode cJx4a65c_grow_92f84 1 = .ok (.getfield 9, 3) := by decide +kernel
theorem dJx4a65c_grow_92f84_4 : decode cJx4a65c_grow_92f84 4 = .ok (.arraylength, 1) := by decide +kernel
theorem dJx4a65c_grow_92f84_5 : decode cJx4a65c_grow_92f84 5 = .ok (.istore_n 2, 1) := by decide +kernel
theorem dJx4a65c_grow_92f84_6 : decode cJx4a65c_grow_92f84 6 = .ok (.iload_n 2, 1) := by decide +kernel
theorem dJx4a65c_grow_92f84_7 : decode cJx4a65c_grow_92f84 7 = .ok (.ifCond .gt 13, 3) := by decide +kernel
theorem dJx4a65c_grow_92f84_10 : decode cJx4a65c_grow_92f84 10 = .ok (.aload_n 0, 1) := by decide +kernel
theorem dJx4a65c_grow_92f84_11 : decode cJx4a65c_grow_92f84 11 = .ok (.getfield 9, 3) := by decide +kernel
theorem dJx4a65c_grow_92f84_14 : decode cJx4a65c_grow_92f84 14 = .ok (.getstatic 39, 3) := by decide +kernel
theorem dJx4a65c_grow_92f84_17 : decode cJx4a65c_grow_92f84 17 = .ok (.if_acmp .eq 28, 3) := by decide +kernel
theorem dJx4a65c_grow_92f84_20 : decode cJx4a65c_grow_92f84 20 = .ok (.iload_n 2, 1) := by decide +kernel
theorem dJx4a65c_grow_92f84_21 : decode cJx4a65c_grow_92f84 21 = .ok (.iload_n 1, 1) := by decide +kernel
theorem dJx4a65c_grow_92f84_22 : decode cJx4a65c_grow_92f84 22 = .ok (.iload_n 2, 1) := by decide +kernel
theorem dJx4a65c_grow_92f84_23 : decode cJx4a65c_grow_92f84 23 = .ok (.isub, 1) := by decide +kernel
theorem dJx4a65c_grow_92f84_24 : decode cJx4a65c_grow_92f84 24 = .ok (.iload_n 2, 1) := by decide +kernel
theorem dJx4a65c_grow_92f84_25 : decode cJx4a65c_grow_92f84 25 = .ok (.iconst 1, 1) := by decide +kernel
theorem dJx4a65c_grow_92f84_26 : decode cJx4a65c_grow_92f84 26 = .ok (.ishr, 1) := by decide +kernel
theorem dJx4a65c_grow_92f84_27 : decode cJx4a65c_grow_92f84 27 = .ok (.invokestatic 73, 3) := by decide +kernel
theorem dJx4a65c_grow_92f84_30 : decode cJx4a65c_grow_92f84 30 = .ok (.istore_n 3, 1) := by decide +kernel
theorem dJx4a65c_grow_92f84_31 : decode cJx4a65c_grow_92f84 31 = .ok (.aload_n 0, 1) := by decide +kernel
theorem dJx4a65c_grow_92f84_32 : decode cJx4a65c_grow_92f84 32 = .ok (.aload_n 0, 1) := by decide +kernel
theorem dJx4a65c_grow_92f84_33 : decode cJx4a65c_grow_92f84 33 = .ok (.getfield 9, 3) := by decide +kernel
theorem dJx4a65c_grow_92f84_36 : decode cJx4a65c_grow_92f84 36 = .ok (.iload_n 3, 1) := by decide +kernel
theorem dJx4a65c_grow_92f84_37 : decode cJx4a65c_grow_92f84 37 = .ok (.invokestatic 66, 3) := by decide +kernel
theorem dJx4a65c_grow_92f84_40 : decode cJx4a65c_grow_92f84 40 = .ok (.dup_x1, 1) := by decide +kernel
theorem dJx4a65c_grow_92f84_41 : decode cJx4a65c_grow_92f84 41 = .ok (.putfield 9, 3) := by decide +kernel
theorem dJx4a65c_grow_92f84_44 : decode cJx4a65c_grow_92f84 44 = .ok (.areturn, 1) := by decide +kernel
theorem dJx4a65c_grow_92f84_45 : decode cJx4a65c_grow_92f84 45 = .ok (.aload_n 0, 1) := by decide +kernel
theorem dJx4a65c_grow_92f84_46 : decode cJx4a65c_grow_92f84 46 = .ok (.bipush 10, 2) := by decide +kernel
theorem dJx4a65c_grow_92f84_48 : decode cJx4a65c_grow_92f84 48 = .ok (.iload_n 1, 1) := by decide +kernel
theorem dJx4a65c_grow_92f84_49 : decode cJx4a65c_grow_92f84 49 = .ok (.invokestatic 79, 3) := by decide +kernel
theorem dJx4a65c_grow_92f84_52 : decode cJx4a65c_grow_92f84 52 = .ok (.anewarray 7, 3) := by decide +kernel
theorem dJx4a65c_grow_92f84_55 : decode cJx4a65c_grow_92f84 55 = .ok (.dup_x1, 1) := by decide +kernel
theorem dJx4a65c_grow_92f84_56 : decode cJx4a65c_grow_92f84 56 = .ok (.putfield 9, 3) := by decide +kernel
theorem dJx4a65c_grow_92f84_59 : decode cJx4a65c_grow_92f84 59 = .ok (.areturn, 1) := by decide +kernel
theorem dJx4a65c_grow_d5877_0 : decode cJx4a65c_grow_d5877 0 = .ok (.aload_n 0, 1) := by decide +kernel
theorem dJx4a65c_grow_d5877_1 : decode cJx4a65c_grow_d5877 1 = .ok (.aload_n 0, 1) := by decide +kernel
theorem dJx4a65c_grow_d5877_2 : decode cJx4a65c_grow_d5877 2 = .ok (.getfield 48, 3) := by decide +kernel
theorem dJx4a65c_grow_d5877_5 : decode cJx4a65c_grow_d5877 5 = .ok (.iconst 1, 1) := by decide +kernel
theorem dJx4a65c_grow_d5877_6 : decode cJx4a65c_grow_d5877 6 = .ok (.iadd, 1) := by decide +kernel
theorem dJx4a65c_grow_d5877_7 : decode cJx4a65c_grow_d5877 7 = .ok (.invokevirtual 69, 3) := by decide +kernel
theorem dJx4a65c_grow_d5877_10 : decode cJx4a65c_grow_d5877 10 = .ok (.areturn, 1) := by decide +kernel
theorem dJx4a65c_size_8abf5_0 : decode cJx4a65c_size_8abf5 0 = .ok (.aload_n 0, 1) := by decide +kernel
theorem dJx4a65c_size_8abf5_1 : decode cJx4a65c_size_8abf5 1 = .ok (.getfield 48, 3) := by decide +kernel
theorem dJx4a65c_size_8abf5_4 : decode cJx4a65c_size_8abf5 4 = .ok (.ireturn, 1) := by decide +kernel
theorem dJx4a65c_isEmpty_aae02_0 : decode cJx4a65c_isEmpty_aae02 0 = .ok (.aload_n 0, 1) := by decide +kernel
theorem dJx4a65c_isEmpty_aae02_1 : decode cJx4a65c_isEmpty_aae02 1 = .ok (.getfield 48, 3) := by decide +kernel
theorem dJx4a65c_isEmpty_aae02_4 : decode cJx4a65c_isEmpty_aae02 4 = .ok (.ifCond .ne 7, 3) := by decide +kernel
theorem dJx4a65c_isEmpty_aae02_7 : decode cJx4a65c_isEmpty_aae02 7 = .ok (.iconst 1, 1) := by decide +kernel
theorem dJx4a65c_isEmpty_aae02_8 : decode cJx4a65c_isEmpty_aae02 8 = .ok (.goto 4, 3) := by decide +kernel
theorem dJx4a65c_isEmpty_aae02_11 : decode cJx4a65c_isEmpty_aae02 11 = .ok (.iconst 0, 1) := by decide +kernel
theorem dJx4a65c_isEmpty_aae02_12 : decode cJx4a65c_isEmpty_aae02 12 = .ok (.ireturn, 1) := by decide +kernel
theorem dJx4a65c_elementData_915e3_0 : decode cJx4a65c_elementData_915e3 0 = .ok (.aload_n 0, 1) := by decide +kernel
theorem dJx4a65c_elementData_915e3_1 : decode cJx4a65c_elementData_915e3 1 = .ok (.getfield 9, 3) := by decide +kernel
theorem dJx4a65c_elementData_915e3_4 : decode cJx4a65c_elementData_915e3 4 = .ok (.iload_n 1, 1) := by decide +kernel
theorem dJx4a65c_elementData_915e3_5 : decode cJx4a65c_elementData_915e3 5 = .ok (.aaload, 1) := by decide +kernel
theorem dJx4a65c_elementData_915e3_6 : decode cJx4a65c_elementData_915e3 6 = .ok (.areturn, 1) := by decide +kernel
theorem dJx4a65c_get_915e3_0 : decode cJx4a65c_get_915e3 0 = .ok (.iload_n 1, 1) := by decide +kernel
theorem dJx4a65c_get_915e3_1 : decode cJx4a65c_get_915e3 1 = .ok (.aload_n 0, 1) := by decide +kernel
theorem dJx4a65c_get_915e3_2 : decode cJx4a65c_get_915e3 2 = .ok (.getfield 48, 3) := by decide +kernel
theorem dJx4a65c_get_915e3_5 : decode cJx4a65c_get_915e3 5 = .ok (.invokestatic 118, 3) := by decide +kernel
theorem dJx4a65c_get_915e3_8 : decode cJx4a65c_get_915e3 8 = .ok (.pop, 1) := by decide +kernel
theorem dJx4a65c_get_915e3_9 : decode cJx4a65c_get_915e3 9 = .ok (.aload_n 0, 1) := by decide +kernel
theorem dJx4a65c_get_915e3_10 : decode cJx4a65c_get_915e3 10 = .ok (.iload_n 1, 1) := by decide +kernel
theorem dJx4a65c_get_915e3_11 : decode cJx4a65c_get_915e3 11 = .ok (.invokevirtual 123, 3) := by decide +kernel
theorem dJx4a65c_get_915e3_14 : decode cJx4a65c_get_915e3 14 = .ok (.areturn, 1) := by decide +kernel
theorem dJx4a65c_add_72be8_0 : decode cJx4a65c_add_72be8 0 = .ok (.iload_n 3, 1) := by decide +kernel
theorem dJx4a65c_add_72be8_1 : decode cJx4a65c_add_72be8 1 = .ok (.aload_n 2, 1) := by decide +kernel
theorem dJx4a65c_add_72be8_2 : decode cJx4a65c_add_72be8 2 = .ok (.arraylength, 1) := by decide +kernel
theorem dJx4a65c_add_72be8_3 : decode cJx4a65c_add_72be8 3 = .ok (.if_icmp .ne 8, 3) := by decide +kernel
theorem dJx4a65c_add_72be8_6 : decode cJx4a65c_add_72be8 6 = .ok (.aload_n 0, 1) := by decide +kernel
theorem dJx4a65c_add_72be8_7 : decode cJx4a65c_add_72be8 7 = .ok (.invokevirtual 129, 3) := by decide +kernel
theorem dJx4a65c_add_72be8_10 : decode cJx4a65c_add_72be8 10 = .ok (.astore_n 2, 1) := by decide +kernel
theorem dJx4a65c_add_72be8_11 : decode cJx4a65c_add_72be8 11 = .ok (.aload_n 2, 1) := by decide +kernel
theorem dJx4a65c_add_72be8_12 : decode cJx4a65c_add_72be8 12 = .ok (.iload_n 3, 1) := by decide +kernel
theorem dJx4a65c_add_72be8_13 : decode cJx4a65c_add_72be8 13 = .ok (.aload_n 1, 1) := by decide +kernel
theorem dJx4a65c_add_72be8_14 : decode cJx4a65c_add_72be8 14 = .ok (.aastore, 1) := by decide +kernel
theorem dJx4a65c_add_72be8_15 : decode cJx4a65c_add_72be8 15 = .ok (.aload_n 0, 1) := by decide +kernel
theorem dJx4a65c_add_72be8_16 : decode cJx4a65c_add_72be8 16 = .ok (.iload_n 3, 1) := by decide +kernel
theorem dJx4a65c_add_72be8_17 : decode cJx4a65c_add_72be8 17 = .ok (.iconst 1, 1) := by decide +kernel
theorem dJx4a65c_add_72be8_18 : decode cJx4a65c_add_72be8 18 = .ok (.iadd, 1) := by decide +kernel
theorem dJx4a65c_add_72be8_19 : decode cJx4a65c_add_72be8 19 = .ok (.putfield 48, 3) := by decide +kernel
theorem dJx4a65c_add_72be8_22 : decode cJx4a65c_add_72be8 22 = .ok (.return_, 1) := by decide +kernel
theorem dJx4a65c_add_9ea2d_0 : decode cJx4a65c_add_9ea2d 0 = .ok (.aload_n 0, 1) := by decide +kernel
theorem dJx4a65c_add_9ea2d_1 : decode cJx4a65c_add_9ea2d 1 = .ok (.dup, 1) := by decide +kernel
theorem dJx4a65c_add_9ea2d_2 : decode cJx4a65c_add_9ea2d 2 = .ok (.getfield 63, 3) := by decide +kernel
theorem dJx4a65c_add_9ea2d_5 : decode cJx4a65c_add_9ea2d 5 = .ok (.iconst 1, 1) := by decide +kernel
theorem dJx4a65c_add_9ea2d_6 : decode cJx4a65c_add_9ea2d 6 = .ok (.iadd, 1) := by decide +kernel
theorem dJx4a65c_add_9ea2d_7 : decode cJx4a65c_add_9ea2d 7 = .ok (.putfield 63, 3) := by decide +kernel
theorem dJx4a65c_add_9ea2d_10 : decode cJx4a65c_add_9ea2d 10 = .ok (.aload_n 0, 1) := by decide +kernel
theorem dJx4a65c_add_9ea2d_11 : decode cJx4a65c_add_9ea2d 11 = .ok (.aload_n 1, 1) := by decide +kernel
theorem dJx4a65c_add_9ea2d_12 : decode cJx4a65c_add_9ea2d 12 = .ok (.aload_n 0, 1) := by decide +kernel
theorem dJx4a65c_add_9ea2d_13 : decode cJx4a65c_add_9ea2d 13 = .ok (.getfield 9, 3) := by decide +kernel
theorem dJx4a65c_add_9ea2d_16 : decode cJx4a65c_add_9ea2d 16 = .ok (.aload_n 0, 1) := by decide +kernel
theorem dJx4a65c_add_9ea2d_17 : decode cJx4a65c_add_9ea2d 17 = .ok (.getfield 48, 3) := by decide +kernel
theorem dJx4a65c_add_9ea2d_20 : decode cJx4a65c_add_9ea2d 20 = .ok (.invokevirtual 131, 3) := by decide +kernel
theorem dJx4a65c_add_9ea2d_23 : decode cJx4a65c_add_9ea2d 23 = .ok (.iconst 1, 1) := by decide +kernel
theorem dJx4a65c_add_9ea2d_24 : decode cJx4a65c_add_9ea2d 24 = .ok (.ireturn, 1) := by decide +kernel
theorem dJx4a65c_add_7a177_0 : decode cJx4a65c_add_7a177 0 = .ok (.aload_n 0, 1) := by decide +kernel
theorem dJx4a65c_add_7a177_1 : decode cJx4a65c_add_7a177 1 = .ok (.iload_n 1, 1) := by decide +kernel
theorem dJx4a65c_add_7a177_2 : decode cJx4a65c_add_7a177 2 = .ok (.invokevirtual 135, 3) := by decide +kernel
theorem dJx4a65c_add_7a177_5 : decode cJx4a65c_add_7a177 5 = .ok (.aload_n 0, 1) := by decide +kernel
theorem dJx4a65c_add_7a177_6 : decode cJx4a65c_add_7a177 6 = .ok (.dup, 1) := by decide +kernel
theorem dJx4a65c_add_7a177_7 : decode cJx4a65c_add_7a177 7 = .ok (.getfield 63, 3) := by decide +kernel
theorem dJx4a65c_add_7a177_10 : decode cJx4a65c_add_7a177 10 = .ok (.iconst 1, 1) := by decide +kernel
theorem dJx4a65c_add_7a177_11 : decode cJx4a65c_add_7a177 11 = .ok (.iadd, 1) := by decide +kernel
theorem dJx4a65c_add_7a177_12 : decode cJx4a65c_add_7a177 12 = .ok (.putfield 63, 3) := by decide +kernel
theorem dJx4a65c_add_7a177_15 : decode cJx4a65c_add_7a177 15 = .ok (.aload_n 0, 1) := by decide +kernel
theorem dJx4a65c_add_7a177_16 : decode cJx4a65c_add_7a177 16 = .ok (.getfield 48, 3) := by decide +kernel
theorem dJx4a65c_add_7a177_19 : decode cJx4a65c_add_7a177 19 = .ok (.dup, 1) := by decide +kernel
theorem dJx4a65c_add_7a177_20 : decode cJx4a65c_add_7a177 20 = .ok (.istore_n 3, 1) := by decide +kernel
theorem dJx4a65c_add_7a177_21 : decode cJx4a65c_add_7a177 21 = .ok (.aload_n 0, 1) := by decide +kernel
theorem dJx4a65c_add_7a177_22 : decode cJx4a65c_add_7a177 22 = .ok (.getfield 9, 3) := by decide +kernel
theorem dJx4a65c_add_7a177_25 : decode cJx4a65c_add_7a177 25 = .ok (.dup, 1) := by decide +kernel
theorem dJx4a65c_add_7a177_26 : decode cJx4a65c_add_7a177 26 = .ok (.astore 4, 2) := by decide +kernel
theorem dJx4a65c_add_7a177_28 : decode cJx4a65c_add_7a177 28 = .ok (.arraylength, 1) := by decide +kernel
theorem dJx4a65c_add_7a177_29 : decode cJx4a65c_add_7a177 29 = .ok (.if_icmp .ne 9, 3) := by decide +kernel
theorem dJx4a65c_add_7a177_32 : decode cJx4a65c_add_7a177 32 = .ok (.aload_n 0, 1) := by decide +kernel
theorem dJx4a65c_add_7a177_33 : decode cJx4a65c_add_7a177 33 = .ok (.invokevirtual 129, 3) := by decide +kernel
theorem dJx4a65c_add_7a177_36 : decode cJx4a65c_add_7a177 36 = .ok (.astore 4, 2) := by decide +kernel
theorem dJx4a65c_add_7a177_38 : decode cJx4a65c_add_7a177 38 = .ok (.aload 4, 2) := by decide +kernel
theorem dJx4a65c_add_7a177_40 : decode cJx4a65c_add_7a177 40 = .ok (.iload_n 1, 1) := by decide +kernel
theorem dJx4a65c_add_7a177_41 : decode cJx4a65c_add_7a177 41 = .ok (.aload 4, 2) := by decide +kernel
theorem dJx4a65c_add_7a177_43 : decode cJx4a65c_add_7a177 43 = .ok (.iload_n 1, 1) := by decide +kernel
theorem dJx4a65c_add_7a177_44 : decode cJx4a65c_add_7a177 44 = .ok (.iconst 1, 1) := by decide +kernel
theorem dJx4a65c_add_7a177_45 : decode cJx4a65c_add_7a177 45 = .ok (.iadd, 1) := by decide +kernel
theorem dJx4a65c_add_7a177_46 : decode cJx4a65c_add_7a177 46 = .ok (.iload_n 3, 1) := by decide +kernel
theorem dJx4a65c_add_7a177_47 : decode cJx4a65c_add_7a177 47 = .ok (.iload_n 1, 1) := by decide +kernel
theorem dJx4a65c_add_7a177_48 : decode cJx4a65c_add_7a177 48 = .ok (.isub, 1) := by decide +kernel
theorem dJx4a65c_add_7a177_49 : decode cJx4a65c_add_7a177 49 = .ok (.invokestatic 112, 3) := by decide +kernel
theorem dJx4a65c_add_7a177_52 : decode cJx4a65c_add_7a177 52 = .ok (.aload 4, 2) := by decide +kernel
theorem dJx4a65c_add_7a177_54 : decode cJx4a65c_add_7a177 54 = .ok (.iload_n 1, 1) := by decide +kernel
theorem dJx4a65c_add_7a177_55 : decode cJx4a65c_add_7a177 55 = .ok (.aload_n 2, 1) := by decide +kernel
theorem dJx4a65c_add_7a177_56 : decode cJx4a65c_add_7a177 56 = .ok (.aastore, 1) := by decide +kernel
theorem dJx4a65c_add_7a177_57 : decode cJx4a65c_add_7a177 57 = .ok (.aload_n 0, 1) := by decide +kernel
theorem dJx4a65c_add_7a177_58 : decode cJx4a65c_add_7a177 58 = .ok (.iload_n 3, 1) := by decide +kernel
theorem dJx4a65c_add_7a177_59 : decode cJx4a65c_add_7a177 59 = .ok (.iconst 1, 1) := by decide +kernel
theorem dJx4a65c_add_7a177_60 : decode cJx4a65c_add_7a177 60 = .ok (.iadd, 1) := by decide +kernel
theorem dJx4a65c_add_7a177_61 : decode cJx4a65c_add_7a177 61 = .ok (.putfield 48, 3) := by decide +kernel
theorem dJx4a65c_add_7a177_64 : decode cJx4a65c_add_7a177 64 = .ok (.return_, 1) := by decide +kernel
theorem dJx4a65c_rangeCheckForAdd_d00df_0 : decode cJx4a65c_rangeCheckForAdd_d00df 0 = .ok (.iload_n 1, 1) := by decide +kernel
theorem dJx4a65c_rangeCheckForAdd_d00df_1 : decode cJx4a65c_rangeCheckForAdd_d00df 1 = .ok (.aload_n 0, 1) := by decide +kernel
theorem dJx4a65c_rangeCheckForAdd_d00df_2 : decode cJx4a65c_rangeCheckForAdd_d00df 2 = .ok (.getfield 48, 3) := by decide +kernel
theorem dJx4a65c_rangeCheckForAdd_d00df_5 : decode cJx4a65c_rangeCheckForAdd_d00df 5 = .ok (.if_icmp .gt 7, 3) := by decide +kernel
theorem dJx4a65c_rangeCheckForAdd_d00df_8 : decode cJx4a65c_rangeCheckForAdd_d00df 8 = .ok (.iload_n 1, 1) := by decide +kernel
theorem dJx4a65c_rangeCheckForAdd_d00df_9 : decode cJx4a65c_rangeCheckForAdd_d00df 9 = .ok (.ifCond .ge 16, 3) := by decide +kernel
theorem dJx4a65c_rangeCheckForAdd_d00df_12 : decode cJx4a65c_rangeCheckForAdd_d00df 12 = .ok (.new 187, 3) := by decide +kernel
theorem dJx4a65c_rangeCheckForAdd_d00df_15 : decode cJx4a65c_rangeCheckForAdd_d00df 15 = .ok (.dup, 1) := by decide +kernel
theorem dJx4a65c_rangeCheckForAdd_d00df_16 : decode cJx4a65c_rangeCheckForAdd_d00df 16 = .ok (.aload_n 0, 1) := by decide +kernel
theorem dJx4a65c_rangeCheckForAdd_d00df_17 : decode cJx4a65c_rangeCheckForAdd_d00df 17 = .ok (.iload_n 1, 1) := by decide +kernel
theorem dJx4a65c_rangeCheckForAdd_d00df_18 : decode cJx4a65c_rangeCheckForAdd_d00df 18 = .ok (.invokevirtual 198, 3) := by decide +kernel
theorem dJx4a65c_rangeCheckForAdd_d00df_21 : decode cJx4a65c_rangeCheckForAdd_d00df 21 = .ok (.invokespecial 193, 3) := by decide +kernel
theorem dJx4a65c_rangeCheckForAdd_d00df_24 : decode cJx4a65c_rangeCheckForAdd_d00df 24 = .ok (.athrow, 1) := by decide +kernel
theorem dJx4a65c_rangeCheckForAdd_d00df_25 : decode cJx4a65c_rangeCheckForAdd_d00df 25 = .ok (.return_, 1) := by decide +kernel
theorem dJx4a65c_outOfBoundsMsg_b52d3_0 : decode cJx4a65c_outOfBoundsMsg_b52d3 0 = .ok (.new 20, 3) := by decide +kernel
theorem dJx4a65c_outOfBoundsMsg_b52d3_3 : decode cJx4a65c_outOfBoundsMsg_b52d3 3 = .ok (.dup, 1) := by decide +kernel
theorem dJx4a65c_outOfBoundsMsg_b52d3_4 : decode cJx4a65c_outOfBoundsMsg_b52d3 4 = .ok (.invokespecial 22, 3) := by decide +kernel
theorem dJx4a65c_outOfBoundsMsg_b52d3_7 : decode cJx4a65c_outOfBoundsMsg_b52d3 7 = .ok (.ldc 201, 2) := by decide +kernel
theorem dJx4a65c_outOfBoundsMsg_b52d3_9 : decode cJx4a65c_outOfBoundsMsg_b52d3 9 = .ok (.invokevirtual 25, 3) := by decide +kernel
theorem dJx4a65c_outOfBoundsMsg_b52d3_12 : decode cJx4a65c_outOfBoundsMsg_b52d3 12 = .ok (.iload_n 1, 1) := by decide +kernel
theorem dJx4a65c_outOfBoundsMsg_b52d3_13 : decode cJx4a65c_outOfBoundsMsg_b52d3 13 = .ok (.invokevirtual 29, 3) := by decide +kernel
theorem dJx4a65c_outOfBoundsMsg_b52d3_16 : decode cJx4a65c_outOfBoundsMsg_b52d3 16 = .ok (.ldc 203, 2) := by decide +kernel
theorem dJx4a65c_outOfBoundsMsg_b52d3_18 : decode cJx4a65c_outOfBoundsMsg_b52d3 18 = .ok (.invokevirtual 25, 3) := by decide +kernel
theorem dJx4a65c_outOfBoundsMsg_b52d3_21 : decode cJx4a65c_outOfBoundsMsg_b52d3 21 = .ok (.aload_n 0, 1) := by decide +kernel
theorem dJx4a65c_outOfBoundsMsg_b52d3_22 : decode cJx4a65c_outOfBoundsMsg_b52d3 22 = .ok (.getfield 48, 3) := by decide +kernel
theorem dJx4a65c_outOfBoundsMsg_b52d3_25 : decode cJx4a65c_outOfBoundsMsg_b52d3 25 = .ok (.invokevirtual 29, 3) := by decide +kernel
theorem dJx4a65c_outOfBoundsMsg_b52d3_28 : decode cJx4a65c_outOfBoundsMsg_b52d3 28 = .ok (.invokevirtual 32, 3) := by decide +kernel
theorem dJx4a65c_outOfBoundsMsg_b52d3_31 : decode cJx4a65c_outOfBoundsMsg_b52d3 31 = .ok (.areturn, 1) := by decide +kernel
theorem dJ7_copyOf_1904c_0 : decode cJ7_copyOf_1904c 0 = .ok (.aload_n 0, 1) := by decide +kernel
theorem dJ7_copyOf_1904c_1 : decode cJ7_copyOf_1904c 1 = .ok (.iload_n 1, 1) := by decide +kernel
theorem dJ7_copyOf_1904c_2 : decode cJ7_copyOf_1904c 2 = .ok (.aload_n 0, 1) := by decide +kernel
theorem dJ7_copyOf_1904c_3 : decode cJ7_copyOf_1904c 3 = .ok (.invokevirtual 86, 3) := by decide +kernel
theorem dJ7_copyOf_1904c_6 : decode cJ7_copyOf_1904c 6 = .ok (.invokestatic 300, 3) := by decide +kernel
theorem dJ7_copyOf_1904c_9 : decode cJ7_copyOf_1904c 9 = .ok (.areturn, 1) := by decide +kernel
theorem dJ7_copyOf_6403c_0 : decode cJ7_copyOf_6403c 0 = .ok (.aload_n 2, 1) := by decide +kernel
theorem dJ7_copyOf_6403c_1 : decode cJ7_copyOf_6403c 1 = .ok (.ldc 110, 2) := by decide +kernel
theorem dJ7_copyOf_6403c_3 : decode cJ7_copyOf_6403c 3 = .ok (.if_acmp .ne 10, 3) := by decide +kernel
theorem dJ7_copyOf_6403c_6 : decode cJ7_copyOf_6403c 6 = .ok (.iload_n 1, 1) := by decide +kernel
theorem dJ7_copyOf_6403c_7 : decode cJ7_copyOf_6403c 7 = .ok (.anewarray 2, 3) := by decide +kernel
theorem dJ7_copyOf_6403c_10 : decode cJ7_copyOf_6403c 10 = .ok (.goto 14, 3) := by decide +kernel
theorem dJ7_copyOf_6403c_13 : decode cJ7_copyOf_6403c 13 = .ok (.aload_n 2, 1) := by decide +kernel
theorem dJ7_copyOf_6403c_14 : decode cJ7_copyOf_6403c 14 = .ok (.invokevirtual 90, 3) := by decide +kernel
theorem dJ7_copyOf_6403c_17 : decode cJ7_copyOf_6403c 17 = .ok (.iload_n 1, 1) := by decide +kernel
theorem dJ7_copyOf_6403c_18 : decode cJ7_copyOf_6403c 18 = .ok (.invokestatic 95, 3) := by decide +kernel
theorem dJ7_copyOf_6403c_21 : decode cJ7_copyOf_6403c 21 = .ok (.checkcast 110, 3) := by decide +kernel
theorem dJ7_copyOf_6403c_24 : decode cJ7_copyOf_6403c 24 = .ok (.astore_n 3, 1) := by decide +kernel
theorem dJ7_copyOf_6403c_25 : decode cJ7_copyOf_6403c 25 = .ok (.aload_n 0, 1) := by decide +kernel
theorem dJ7_copyOf_6403c_26 : decode cJ7_copyOf_6403c 26 = .ok (.iconst 0, 1) := by decide +kernel
theorem dJ7_copyOf_6403c_27 : decode cJ7_copyOf_6403c 27 = .ok (.aload_n 3, 1) := by decide +kernel
theorem dJ7_copyOf_6403c_28 : decode cJ7_copyOf_6403c 28 = .ok (.iconst 0, 1) := by decide +kernel
theorem dJ7_copyOf_6403c_29 : decode cJ7_copyOf_6403c 29 = .ok (.aload_n 0, 1) := by decide +kernel
theorem dJ7_copyOf_6403c_30 : decode cJ7_copyOf_6403c 30 = .ok (.arraylength, 1) := by decide +kernel
theorem dJ7_copyOf_6403c_31 : decode cJ7_copyOf_6403c 31 = .ok (.iload_n 1, 1) := by decide +kernel
theorem dJ7_copyOf_6403c_32 : decode cJ7_copyOf_6403c 32 = .ok (.invokestatic 304, 3) := by decide +kernel
theorem dJ7_copyOf_6403c_35 : decode cJ7_copyOf_6403c 35 = .ok (.invokestatic 150, 3) := by decide +kernel
theorem dJ7_copyOf_6403c_38 : decode cJ7_copyOf_6403c 38 = .ok (.aload_n 3, 1) := by decide +kernel
theorem dJ7_copyOf_6403c_39 : decode cJ7_copyOf_6403c 39 = .ok (.areturn, 1) := by decide +kernel
theorem dJ7_copyOf_9075b_0 : decode cJ7_copyOf_9075b 0 = .ok (.iload_n 1, 1) := by decide +kernel
theorem dJ7_copyOf_9075b_1 : decode cJ7_copyOf_9075b 1 = .ok (.aload_n 0, 1) := by decide +kernel
theorem dJ7_copyOf_9075b_2 : decode cJ7_copyOf_9075b 2 = .ok (.arraylength, 1) := by decide +kernel
theorem dJ7_copyOf_9075b_3 : decode cJ7_copyOf_9075b 3 = .ok (.if_icmp .ne 11, 3) := by decide +kernel
theorem dJ7_copyOf_9075b_6 : decode cJ7_copyOf_9075b 6 = .ok (.aload_n 0, 1) := by decide +kernel
theorem dJ7_copyOf_9075b_7 : decode cJ7_copyOf_9075b 7 = .ok (.invokevirtual 310, 3) := by decide +kernel
theorem dJ7_copyOf_9075b_10 : decode cJ7_copyOf_9075b 10 = .ok (.checkcast 311, 3) := by decide +kernel
theorem dJ7_copyOf_9075b_13 : decode cJ7_copyOf_9075b 13 = .ok (.areturn, 1) := by decide +kernel
theorem dJ7_copyOf_9075b_14 : decode cJ7_copyOf_9075b 14 = .ok (.iload_n 1, 1) := by decide +kernel
theorem dJ7_copyOf_9075b_15 : decode cJ7_copyOf_9075b 15 = .ok (.newarray .byte, 2) := by decide +kernel
theorem dJ7_copyOf_9075b_17 : decode cJ7_copyOf_9075b 17 = .ok (.astore_n 2, 1) := by decide +kernel
theorem dJ7_copyOf_9075b_18 : decode cJ7_copyOf_9075b 18 = .ok (.aload_n 0, 1) := by decide +kernel
theorem dJ7_copyOf_9075b_19 : decode cJ7_copyOf_9075b 19 = .ok (.iconst 0, 1) := by decide +kernel
theorem dJ7_copyOf_9075b_20 : decode cJ7_copyOf_9075b 20 = .ok (.aload_n 2, 1) := by decide +kernel
theorem dJ7_copyOf_9075b_21 : decode cJ7_copyOf_9075b 21 = .ok (.iconst 0, 1) := by decide +kernel
theorem dJ7_copyOf_9075b_22 : decode cJ7_copyOf_9075b 22 = .ok (.aload_n 0, 1) := by decide +kernel
theorem dJ7_copyOf_9075b_23 : decode cJ7_copyOf_9075b 23 = .ok (.arraylength, 1) := by decide +kernel
theorem dJ7_copyOf_9075b_24 : decode cJ7_copyOf_9075b 24 = .ok (.iload_n 1, 1) := by decide +kernel
theorem dJ7_copyOf_9075b_25 : decode cJ7_copyOf_9075b 25 = .ok (.invokestatic 304, 3) := by decide +kernel
theorem dJ7_copyOf_9075b_28 : decode cJ7_copyOf_9075b 28 = .ok (.invokestatic 150, 3) := by decide +kernel
theorem dJ7_copyOf_9075b_31 : decode cJ7_copyOf_9075b 31 = .ok (.aload_n 2, 1) := by decide +kernel
theorem dJ7_copyOf_9075b_32 : decode cJ7_copyOf_9075b 32 = .ok (.areturn, 1) := by decide +kernel
theorem dJ7_checkLength_df160_0 : decode cJ7_checkLength_df160 0 = .ok (.iload_n 1, 1) := by decide +kernel
theorem dJ7_checkLength_df160_1 : decode cJ7_checkLength_df160 1 = .ok (.iload_n 0, 1) := by decide +kernel
theorem dJ7_checkLength_df160_2 : decode cJ7_checkLength_df160 2 = .ok (.if_icmp .ge 35, 3) := by decide +kernel
theorem dJ7_checkLength_df160_5 : decode cJ7_checkLength_df160 5 = .ok (.new 43, 3) := by decide +kernel
theorem dJ7_checkLength_df160_8 : decode cJ7_checkLength_df160 8 = .ok (.dup, 1) := by decide +kernel
theorem dJ7_checkLength_df160_9 : decode cJ7_checkLength_df160 9 = .ok (.new 45, 3) := by decide +kernel
theorem dJ7_checkLength_df160_12 : decode cJ7_checkLength_df160 12 = .ok (.dup, 1) := by decide +kernel
theorem dJ7_checkLength_df160_13 : decode cJ7_checkLength_df160 13 = .ok (.invokespecial 47, 3) := by decide +kernel
theorem dJ7_checkLength_df160_16 : decode cJ7_checkLength_df160 16 = .ok (.iload_n 0, 1) := by decide +kernel
theorem dJ7_checkLength_df160_17 : decode cJ7_checkLength_df160 17 = .ok (.invokevirtual 54, 3) := by decide +kernel
theorem dJ7_checkLength_df160_20 : decode cJ7_checkLength_df160 20 = .ok (.ldc_w 337, 3) := by decide +kernel
theorem dJ7_checkLength_df160_23 : decode cJ7_checkLength_df160 23 = .ok (.invokevirtual 50, 3) := by decide +kernel
theorem dJ7_checkLength_df160_26 : decode cJ7_checkLength_df160 26 = .ok (.iload_n 1, 1) := by decide +kernel
theorem dJ7_checkLength_df160_27 : decode cJ7_checkLength_df160 27 = .ok (.invokevirtual 54, 3) := by decide +kernel
theorem dJ7_checkLength_df160_30 : decode cJ7_checkLength_df160 30 = .ok (.invokevirtual 61, 3) := by decide +kernel
theorem dJ7_checkLength_df160_33 : decode cJ7_checkLength_df160 33 = .ok (.invokespecial 65, 3) := by decide +kernel
theorem dJ7_checkLength_df160_36 : decode cJ7_checkLength_df160 36 = .ok (.athrow, 1) := by decide +kernel
theorem dJ7_checkLength_df160_37 : decode cJ7_checkLength_df160 37 = .ok (.return_, 1) := by decide +kernel
theorem dJ7_copyOfRange_39247_0 : decode cJ7_copyOfRange_39247 0 = .ok (.iload_n 1, 1) := by decide +kernel
theorem dJ7_copyOfRange_39247_1 : decode cJ7_copyOfRange_39247 1 = .ok (.ifCond .ne 9, 3) := by decide +kernel
theorem dJ7_copyOfRange_39247_4 : decode cJ7_copyOfRange_39247 4 = .ok (.iload_n 2, 1) := by decide +kernel
theorem dJ7_copyOfRange_39247_5 : decode cJ7_copyOfRange_39247 5 = .ok (.aload_n 0, 1) := by decide +kernel
theorem dJ7_copyOfRange_39247_6 : decode cJ7_copyOfRange_39247 6 = .ok (.arraylength, 1) := by decide +kernel
theorem dJ7_copyOfRange_39247_7 : decode cJ7_copyOfRange_39247 7 = .ok (.if_icmp .eq 10, 3) := by decide +kernel
theorem dJ7_copyOfRange_39247_10 : decode cJ7_copyOfRange_39247 10 = .ok (.aload_n 0, 1) := by decide +kernel
theorem dJ7_copyOfRange_39247_11 : decode cJ7_copyOfRange_39247 11 = .ok (.iload_n 1, 1) := by decide +kernel
theorem dJ7_copyOfRange_39247_12 : decode cJ7_copyOfRange_39247 12 = .ok (.iload_n 2, 1) := by decide +kernel
theorem dJ7_copyOfRange_39247_13 : decode cJ7_copyOfRange_39247 13 = .ok (.invokestatic 339, 3) := by decide +kernel
theorem dJ7_copyOfRange_39247_16 : decode cJ7_copyOfRange_39247 16 = .ok (.areturn, 1) := by decide +kernel
theorem dJ7_copyOfRange_39247_17 : decode cJ7_copyOfRange_39247 17 = .ok (.aload_n 0, 1) := by decide +kernel
theorem dJ7_copyOfRange_39247_18 : decode cJ7_copyOfRange_39247 18 = .ok (.invokevirtual 310, 3) := by decide +kernel
theorem dJ7_copyOfRange_39247_21 : decode cJ7_copyOfRange_39247 21 = .ok (.checkcast 311, 3) := by decide +kernel
theorem dJ7_copyOfRange_39247_24 : decode cJ7_copyOfRange_39247 24 = .ok (.areturn, 1) := by decide +kernel
theorem dJ7_copyOfRangeByte_39247_0 : decode cJ7_copyOfRangeByte_39247 0 = .ok (.iload_n 1, 1) := by decide +kernel
theorem dJ7_copyOfRangeByte_39247_1 : decode cJ7_copyOfRangeByte_39247 1 = .ok (.iload_n 2, 1) := by decide +kernel
theorem dJ7_copyOfRangeByte_39247_2 : decode cJ7_copyOfRangeByte_39247 2 = .ok (.invokestatic 343, 3) := by decide +kernel
theorem dJ7_copyOfRangeByte_39247_5 : decode cJ7_copyOfRangeByte_39247 5 = .ok (.iload_n 2, 1) := by decide +kernel
theorem dJ7_copyOfRangeByte_39247_6 : decode cJ7_copyOfRangeByte_39247 6 = .ok (.iload_n 1, 1) := by decide +kernel
theorem dJ7_copyOfRangeByte_39247_7 : decode cJ7_copyOfRangeByte_39247 7 = .ok (.isub, 1) := by decide +kernel
theorem dJ7_copyOfRangeByte_39247_8 : decode cJ7_copyOfRangeByte_39247 8 = .ok (.istore_n 3, 1) := by decide +kernel
theorem dJ7_copyOfRangeByte_39247_9 : decode cJ7_copyOfRangeByte_39247 9 = .ok (.iload_n 3, 1) := by decide +kernel
theorem dJ7_copyOfRangeByte_39247_10 : decode cJ7_copyOfRangeByte_39247 10 = .ok (.newarray .byte, 2) := by decide +kernel
theorem dJ7_copyOfRangeByte_39247_12 : decode cJ7_copyOfRangeByte_39247 12 = .ok (.astore 4, 2) := by decide +kernel
theorem dJ7_copyOfRangeByte_39247_14 : decode cJ7_copyOfRangeByte_39247 14 = .ok (.aload_n 0, 1) := by decide +kernel
theorem dJ7_copyOfRangeByte_39247_15 : decode cJ7_copyOfRangeByte_39247 15 = .ok (.iload_n 1, 1) := by decide +kernel
theorem dJ7_copyOfRangeByte_39247_16 : decode cJ7_copyOfRangeByte_39247 16 = .ok (.aload 4, 2) := by decide +kernel
theorem dJ7_copyOfRangeByte_39247_18 : decode cJ7_copyOfRangeByte_39247 18 = .ok (.iconst 0, 1) := by decide +kernel
theorem dJ7_copyOfRangeByte_39247_19 : decode cJ7_copyOfRangeByte_39247 19 = .ok (.aload_n 0, 1) := by decide +kernel
theorem dJ7_copyOfRangeByte_39247_20 : decode cJ7_copyOfRangeByte_39247 20 = .ok (.arraylength, 1) := by decide +kernel
theorem dJ7_copyOfRangeByte_39247_21 : decode cJ7_copyOfRangeByte_39247 21 = .ok (.iload_n 1, 1) := by decide +kernel
theorem dJ7_copyOfRangeByte_39247_22 : decode cJ7_copyOfRangeByte_39247 22 = .ok (.isub, 1) := by decide +kernel
theorem dJ7_copyOfRangeByte_39247_23 : decode cJ7_copyOfRangeByte_39247 23 = .ok (.iload_n 3, 1) := by decide +kernel
theorem dJ7_copyOfRangeByte_39247_24 : decode cJ7_copyOfRangeByte_39247 24 = .ok (.invokestatic 304, 3) := by decide +kernel
theorem dJ7_copyOfRangeByte_39247_27 : decode cJ7_copyOfRangeByte_39247 27 = .ok (.invokestatic 150, 3) := by decide +kernel
theorem dJ7_copyOfRangeByte_39247_30 : decode cJ7_copyOfRangeByte_39247 30 = .ok (.aload 4, 2) := by decide +kernel
theorem dJ7_copyOfRangeByte_39247_32 : decode cJ7_copyOfRangeByte_39247 32 = .ok (.areturn, 1) := by decide +kernel
theorem dJ15_checkIndex_7cf53_0 : decode cJ15_checkIndex_7cf53 0 = .ok (.iload_n 0, 1) := by decide +kernel
theorem dJ15_checkIndex_7cf53_1 : decode cJ15_checkIndex_7cf53 1 = .ok (.iload_n 1, 1) := by decide +kernel
theorem dJ15_checkIndex_7cf53_2 : decode cJ15_checkIndex_7cf53 2 = .ok (.aconst_null, 1) := by decide +kernel
theorem dJ15_checkIndex_7cf53_3 : decode cJ15_checkIndex_7cf53 3 = .ok (.invokestatic 105, 3) := by decide +kernel
theorem dJ15_checkIndex_7cf53_6 : decode cJ15_checkIndex_7cf53 6 = .ok (.ireturn, 1) := by decide +kernel
theorem dJ8_newLength_cabcc_0 : decode cJ8_newLength_cabcc 0 = .ok (.iload_n 0, 1) := by decide +kernel
theorem dJ8_newLength_cabcc_1 : decode cJ8_newLength_cabcc 1 = .ok (.iload_n 1, 1) := by decide +kernel
theorem dJ8_newLength_cabcc_2 : decode cJ8_newLength_cabcc 2 = .ok (.iload_n 2, 1) := by decide +kernel
theorem dJ8_newLength_cabcc_3 : decode cJ8_newLength_cabcc 3 = .ok (.invokestatic 194, 3) := by decide +kernel
theorem dJ8_newLength_cabcc_6 : decode cJ8_newLength_cabcc 6 = .ok (.iadd, 1) := by decide +kernel
theorem dJ8_newLength_cabcc_7 : decode cJ8_newLength_cabcc 7 = .ok (.istore_n 3, 1) := by decide +kernel
theorem dJ8_newLength_cabcc_8 : decode cJ8_newLength_cabcc 8 = .ok (.iconst 0, 1) := by decide +kernel
theorem dJ8_newLength_cabcc_9 : decode cJ8_newLength_cabcc 9 = .ok (.iload_n 3, 1) := by decide +kernel
theorem dJ8_newLength_cabcc_10 : decode cJ8_newLength_cabcc 10 = .ok (.if_icmp .ge 11, 3) := by decide +kernel
theorem dJ8_newLength_cabcc_13 : decode cJ8_newLength_cabcc 13 = .ok (.iload_n 3, 1) := by decide +kernel
theorem dJ8_newLength_cabcc_14 : decode cJ8_newLength_cabcc 14 = .ok (.ldc 200, 2) := by decide +kernel
theorem dJ8_newLength_cabcc_16 : decode cJ8_newLength_cabcc 16 = .ok (.if_icmp .gt 5, 3) := by decide +kernel
theorem dJ8_newLength_cabcc_19 : decode cJ8_newLength_cabcc 19 = .ok (.iload_n 3, 1) := by decide +kernel
theorem dJ8_newLength_cabcc_20 : decode cJ8_newLength_cabcc 20 = .ok (.ireturn, 1) := by decide +kernel
theorem dJ8_newLength_cabcc_21 : decode cJ8_newLength_cabcc 21 = .ok (.iload_n 0, 1) := by decide +kernel
theorem dJ8_newLength_cabcc_22 : decode cJ8_newLength_cabcc 22 = .ok (.iload_n 1, 1) := by decide +kernel
theorem dJ8_newLength_cabcc_23 : decode cJ8_newLength_cabcc 23 = .ok (.invokestatic 201, 3) := by decide +kernel
theorem dJ8_newLength_cabcc_26 : decode cJ8_newLength_cabcc 26 = .ok (.ireturn, 1) := by decide +kernel
theorem dJ8_hugeLength_7cf53_0 : decode cJ8_hugeLength_7cf53 0 = .ok (.iload_n 0, 1) := by decide +kernel
theorem dJ8_hugeLength_7cf53_1 : decode cJ8_hugeLength_7cf53 1 = .ok (.iload_n 1, 1) := by decide +kernel
theorem dJ8_hugeLength_7cf53_2 : decode cJ8_hugeLength_7cf53 2 = .ok (.iadd, 1) := by decide +kernel
theorem dJ8_hugeLength_7cf53_3 : decode cJ8_hugeLength_7cf53 3 = .ok (.istore_n 2, 1) := by decide +kernel
theorem dJ8_hugeLength_7cf53_4 : decode cJ8_hugeLength_7cf53 4 = .ok (.iload_n 2, 1) := by decide +kernel
theorem dJ8_hugeLength_7cf53_5 : decode cJ8_hugeLength_7cf53 5 = .ok (.ifCond .ge 44, 3) := by decide +kernel
theorem dJ8_hugeLength_7cf53_8 : decode cJ8_hugeLength_7cf53 8 = .ok (.new 204, 3) := by decide +kernel
theorem dJ8_hugeLength_7cf53_11 : decode cJ8_hugeLength_7cf53 11 = .ok (.dup, 1) := by decide +kernel
theorem dJ8_hugeLength_7cf53_12 : decode cJ8_hugeLength_7cf53 12 = .ok (.new 89, 3) := by decide +kernel
theorem dJ8_hugeLength_7cf53_15 : decode cJ8_hugeLength_7cf53 15 = .ok (.dup, 1) := by decide +kernel
theorem dJ8_hugeLength_7cf53_16 : decode cJ8_hugeLength_7cf53 16 = .ok (.invokespecial 91, 3) := by decide +kernel
theorem dJ8_hugeLength_7cf53_19 : decode cJ8_hugeLength_7cf53 19 = .ok (.ldc 206, 2) := by decide +kernel
theorem dJ8_hugeLength_7cf53_21 : decode cJ8_hugeLength_7cf53 21 = .ok (.invokevirtual 94, 3) := by decide +kernel
theorem dJ8_hugeLength_7cf53_24 : decode cJ8_hugeLength_7cf53 24 = .ok (.iload_n 0, 1) := by decide +kernel
theorem dJ8_hugeLength_7cf53_25 : decode cJ8_hugeLength_7cf53 25 = .ok (.invokevirtual 98, 3) := by decide +kernel
theorem dJ8_hugeLength_7cf53_28 : decode cJ8_hugeLength_7cf53 28 = .ok (.ldc 208, 2) := by decide +kernel
theorem dJ8_hugeLength_7cf53_30 : decode cJ8_hugeLength_7cf53 30 = .ok (.invokevirtual 94, 3) := by decide +kernel
theorem dJ8_hugeLength_7cf53_33 : decode cJ8_hugeLength_7cf53 33 = .ok (.iload_n 1, 1) := by decide +kernel
theorem dJ8_hugeLength_7cf53_34 : decode cJ8_hugeLength_7cf53 34 = .ok (.invokevirtual 98, 3) := by decide +kernel
theorem dJ8_hugeLength_7cf53_37 : decode cJ8_hugeLength_7cf53 37 = .ok (.ldc 210, 2) := by decide +kernel
theorem dJ8_hugeLength_7cf53_39 : decode cJ8_hugeLength_7cf53 39 = .ok (.invokevirtual 94, 3) := by decide +kernel
theorem dJ8_hugeLength_7cf53_42 : decode cJ8_hugeLength_7cf53 42 = .ok (.invokevirtual 101, 3) := by decide +kernel
theorem dJ8_hugeLength_7cf53_45 : decode cJ8_hugeLength_7cf53 45 = .ok (.invokespecial 212, 3) := by decide +kernel
theorem dJ8_hugeLength_7cf53_48 : decode cJ8_hugeLength_7cf53 48 = .ok (.athrow, 1) := by decide +kernel
theorem dJ8_hugeLength_7cf53_49 : decode cJ8_hugeLength_7cf53 49 = .ok (.iload_n 2, 1) := by decide +kernel
theorem dJ8_hugeLength_7cf53_50 : decode cJ8_hugeLength_7cf53 50 = .ok (.ldc 200, 2) := by decide +kernel
theorem dJ8_hugeLength_7cf53_52 : decode cJ8_hugeLength_7cf53 52 = .ok (.if_icmp .gt 6, 3) := by decide +kernel
theorem dJ8_hugeLength_7cf53_55 : decode cJ8_hugeLength_7cf53 55 = .ok (.ldc 200, 2) := by decide +kernel
theorem dJ8_hugeLength_7cf53_57 : decode cJ8_hugeLength_7cf53 57 = .ok (.ireturn, 1) := by decide +kernel
theorem dJ8_hugeLength_7cf53_58 : decode cJ8_hugeLength_7cf53 58 = .ok (.iload_n 2, 1) := by decide +kernel
theorem dJ8_hugeLength_7cf53_59 : decode cJ8_hugeLength_7cf53 59 = .ok (.ireturn, 1) := by decide +kernel
theorem dJ3_checkIndex_8e157_0 : decode cJ3_checkIndex_8e157 0 = .ok (.iload_n 0, 1) := by decide +kernel
theorem dJ3_checkIndex_8e157_1 : decode cJ3_checkIndex_8e157 1 = .ok (.ifCond .lt 8, 3) := by decide +kernel
theorem dJ3_checkIndex_8e157_4 : decode cJ3_checkIndex_8e157 4 = .ok (.iload_n 0, 1) := by decide +kernel
theorem dJ3_checkIndex_8e157_5 : decode cJ3_checkIndex_8e157 5 = .ok (.iload_n 1, 1) := by decide +kernel
theorem dJ3_checkIndex_8e157_6 : decode cJ3_checkIndex_8e157 6 = .ok (.if_icmp .lt 10, 3) := by decide +kernel
theorem dJ3_checkIndex_8e157_9 : decode cJ3_checkIndex_8e157 9 = .ok (.aload_n 2, 1) := by decide +kernel
theorem dJ3_checkIndex_8e157_10 : decode cJ3_checkIndex_8e157 10 = .ok (.iload_n 0, 1) := by decide +kernel
theorem dJ3_checkIndex_8e157_11 : decode cJ3_checkIndex_8e157 11 = .ok (.iload_n 1, 1) := by decide +kernel
theorem dJ3_checkIndex_8e157_12 : decode cJ3_checkIndex_8e157 12 = .ok (.invokestatic 95, 3) := by decide +kernel
theorem dJ3_checkIndex_8e157_15 : decode cJ3_checkIndex_8e157 15 = .ok (.athrow, 1) := by decide +kernel
theorem dJ3_checkIndex_8e157_16 : decode cJ3_checkIndex_8e157 16 = .ok (.iload_n 0, 1) := by decide +kernel
theorem dJ3_checkIndex_8e157_17 : decode cJ3_checkIndex_8e157 17 = .ok (.ireturn, 1) := by decide +kernel
theorem dJ3_checkFromToIndex_8c36e_0 : decode cJ3_checkFromToIndex_8c36e 0 = .ok (.iload_n 0, 1) := by decide +kernel
theorem dJ3_checkFromToIndex_8c36e_1 : decode cJ3_checkFromToIndex_8c36e 1 = .ok (.ifCond .lt 13, 3) := by decide +kernel
theorem dJ3_checkFromToIndex_8c36e_4 : decode cJ3_checkFromToIndex_8c36e 4 = .ok (.iload_n 0, 1) := by decide +kernel
theorem dJ3_checkFromToIndex_8c36e_5 : decode cJ3_checkFromToIndex_8c36e 5 = .ok (.iload_n 1, 1) := by decide +kernel
theorem dJ3_checkFromToIndex_8c36e_6 : decode cJ3_checkFromToIndex_8c36e 6 = .ok (.if_icmp .gt 8, 3) := by decide +kernel
theorem dJ3_checkFromToIndex_8c36e_9 : decode cJ3_checkFromToIndex_8c36e 9 = .ok (.iload_n 1, 1) := by decide +kernel
theorem dJ3_checkFromToIndex_8c36e_10 : decode cJ3_checkFromToIndex_8c36e 10 = .ok (.iload_n 2, 1) := by decide +kernel
theorem dJ3_checkFromToIndex_8c36e_11 : decode cJ3_checkFromToIndex_8c36e 11 = .ok (.if_icmp .le 11, 3) := by decide +kernel
theorem dJ3_checkFromToIndex_8c36e_14 : decode cJ3_checkFromToIndex_8c36e 14 = .ok (.aload_n 3, 1) := by decide +kernel
theorem dJ3_checkFromToIndex_8c36e_15 : decode cJ3_checkFromToIndex_8c36e 15 = .ok (.iload_n 0, 1) := by decide +kernel
theorem dJ3_checkFromToIndex_8c36e_16 : decode cJ3_checkFromToIndex_8c36e 16 = .ok (.iload_n 1, 1) := by decide +kernel
theorem dJ3_checkFromToIndex_8c36e_17 : decode cJ3_checkFromToIndex_8c36e 17 = .ok (.iload_n 2, 1) := by decide +kernel
theorem dJ3_checkFromToIndex_8c36e_18 : decode cJ3_checkFromToIndex_8c36e 18 = .ok (.invokestatic 99, 3) := by decide +kernel
theorem dJ3_checkFromToIndex_8c36e_21 : decode cJ3_checkFromToIndex_8c36e 21 = .ok (.athrow, 1) := by decide +kernel
theorem dJ3_checkFromToIndex_8c36e_22 : decode cJ3_checkFromToIndex_8c36e 22 = .ok (.iload_n 0, 1) := by decide +kernel
theorem dJ3_checkFromToIndex_8c36e_23 : decode cJ3_checkFromToIndex_8c36e 23 = .ok (.ireturn, 1) := by decide +kernel
theorem dJ3_checkFromIndexSize_8c36e_0 : decode cJ3_checkFromIndexSize_8c36e 0 = .ok (.iload_n 2, 1) := by decide +kernel
theorem dJ3_checkFromIndexSize_8c36e_1 : decode cJ3_checkFromIndexSize_8c36e 1 = .ok (.iload_n 0, 1) := by decide +kernel
theorem dJ3_checkFromIndexSize_8c36e_2 : decode cJ3_checkFromIndexSize_8c36e 2 = .ok (.ior, 1) := by decide +kernel
theorem dJ3_checkFromIndexSize_8c36e_3 : decode cJ3_checkFromIndexSize_8c36e 3 = .ok (.iload_n 1, 1) := by decide +kernel
theorem dJ3_checkFromIndexSize_8c36e_4 : decode cJ3_checkFromIndexSize_8c36e 4 = .ok (.ior, 1) := by decide +kernel
theorem dJ3_checkFromIndexSize_8c36e_5 : decode cJ3_checkFromIndexSize_8c36e 5 = .ok (.ifCond .lt 10, 3) := by decide +kernel
theorem dJ3_checkFromIndexSize_8c36e_8 : decode cJ3_checkFromIndexSize_8c36e 8 = .ok (.iload_n 1, 1) := by decide +kernel
theorem dJ3_checkFromIndexSize_8c36e_9 : decode cJ3_checkFromIndexSize_8c36e 9 = .ok (.iload_n 2, 1) := by decide +kernel
theorem dJ3_checkFromIndexSize_8c36e_10 : decode cJ3_checkFromIndexSize_8c36e 10 = .ok (.iload_n 0, 1) := by decide +kernel
theorem dJ3_checkFromIndexSize_8c36e_11 : decode cJ3_checkFromIndexSize_8c36e 11 = .ok (.isub, 1) := by decide +kernel
theorem dJ3_checkFromIndexSize_8c36e_12 : decode cJ3_checkFromIndexSize_8c36e 12 = .ok (.if_icmp .le 11, 3) := by decide +kernel
theorem dJ3_checkFromIndexSize_8c36e_15 : decode cJ3_checkFromIndexSize_8c36e 15 = .ok (.aload_n 3, 1) := by decide +kernel
theorem dJ3_checkFromIndexSize_8c36e_16 : decode cJ3_checkFromIndexSize_8c36e 16 = .ok (.iload_n 0, 1) := by decide +kernel
theorem dJ3_checkFromIndexSize_8c36e_17 : decode cJ3_checkFromIndexSize_8c36e 17 = .ok (.iload_n 1, 1) := by decide +kernel
theorem dJ3_checkFromIndexSize_8c36e_18 : decode cJ3_checkFromIndexSize_8c36e 18 = .ok (.iload_n 2, 1) := by decide +kernel
theorem dJ3_checkFromIndexSize_8c36e_19 : decode cJ3_checkFromIndexSize_8c36e 19 = .ok (.invokestatic 103, 3) := by decide +kernel
theorem dJ3_checkFromIndexSize_8c36e_22 : decode cJ3_checkFromIndexSize_8c36e 22 = .ok (.athrow, 1) := by decide +kernel
theorem dJ3_checkFromIndexSize_8c36e_23 : decode cJ3_checkFromIndexSize_8c36e 23 = .ok (.iload_n 0, 1) := by decide +kernel
theorem dJ3_checkFromIndexSize_8c36e_24 : decode cJ3_checkFromIndexSize_8c36e 24 = .ok (.ireturn, 1) := by decide +kernel
theorem dL_setZone_0 : decode cL_setZone 0 = .ok (.aload_n 3, 1) := by decide +kernel
theorem dL_setZone_1 : decode cL_setZone 1 = .ok (.iconst 0, 1) := by decide +kernel
theorem dL_setZone_2 : decode cL_setZone 2 = .ok (.aload_n 0, 1) := by decide +kernel
theorem dL_setZone_3 : decode cL_setZone 3 = .ok (.iload_n 1, 1) := by decide +kernel
theorem dL_setZone_4 : decode cL_setZone 4 = .ok (.iload_n 2, 1) := by decide +kernel
theorem dL_setZone_5 : decode cL_setZone 5 = .ok (.invokevirtual 7, 3) := by decide +kernel
theorem dL_setZone_8 : decode cL_setZone 8 = .ok (.i2l, 1) := by decide +kernel
theorem dL_setZone_9 : decode cL_setZone 9 = .ok (.lastore, 1) := by decide +kernel
theorem dL_setZone_10 : decode cL_setZone 10 = .ok (.goto 15, 3) := by decide +kernel
theorem dL_setZone_13 : decode cL_setZone 13 = .ok (.astore 4, 2) := by decide +kernel
theorem dL_setZone_15 : decode cL_setZone 15 = .ok (.iconst 1, 1) := by decide +kernel
theorem dL_setZone_16 : decode cL_setZone 16 = .ok (.ireturn, 1) := by decide +kernel
theorem dL_setZone_17 : decode cL_setZone 17 = .ok (.astore 4, 2) := by decide +kernel
theorem dL_setZone_19 : decode cL_setZone 19 = .ok (.iconst 2, 1) := by decide +kernel
theorem dL_setZone_20 : decode cL_setZone 20 = .ok (.ireturn, 1) := by decide +kernel
theorem dL_setZone_21 : decode cL_setZone 21 = .ok (.astore 4, 2) := by decide +kernel
theorem dL_setZone_23 : decode cL_setZone 23 = .ok (.iconst 3, 1) := by decide +kernel
theorem dL_setZone_24 : decode cL_setZone 24 = .ok (.ireturn, 1) := by decide +kernel
theorem dL_setZone_25 : decode cL_setZone 25 = .ok (.iconst 0, 1) := by decide +kernel
theorem dL_setZone_26 : decode cL_setZone 26 = .ok (.ireturn, 1) := by decide +kernel
theorem dL_setChannels_0 : decode cL_setChannels 0 = .ok (.aload 4, 2) := by decide +kernel
theorem dL_setChannels_2 : decode cL_setChannels 2 = .ok (.iconst 0, 1) := by decide +kernel
theorem dL_setChannels_3 : decode cL_setChannels 3 = .ok (.aload_n 0, 1) := by decide +kernel
theorem dL_setChannels_4 : decode cL_setChannels 4 = .ok (.iload_n 1, 1) := by decide +kernel
theorem dL_setChannels_5 : decode cL_setChannels 5 = .ok (.iload_n 2, 1) := by decide +kernel
theorem dL_setChannels_6 : decode cL_setChannels 6 = .ok (.iload_n 3, 1) := by decide +kernel
theorem dL_setChannels_7 : decode cL_setChannels 7 = .ok (.invokevirtual 19, 3) := by decide +kernel
theorem dL_setChannels_10 : decode cL_setChannels 10 = .ok (.i2l, 1) := by decide +kernel
theorem dL_setChannels_11 : decode cL_setChannels 11 = .ok (.lastore, 1) := by decide +kernel
theorem dL_setChannels_12 : decode cL_setChannels 12 = .ok (.goto 11, 3) := by decide +kernel
theorem dL_setChannels_15 : decode cL_setChannels 15 = .ok (.astore 5, 2) := by decide +kernel
theorem dL_setChannels_17 : decode cL_setChannels 17 = .ok (.iconst 1, 1) := by decide +kernel
theorem dL_setChannels_18 : decode cL_setChannels 18 = .ok (.ireturn, 1) := by decide +kernel
theorem dL_setChannels_19 : decode cL_setChannels 19 = .ok (.astore 5, 2) := by decide +kernel
theorem dL_setChannels_21 : decode cL_setChannels 21 = .ok (.iconst 2, 1) := by decide +kernel
theorem dL_setChannels_22 : decode cL_setChannels 22 = .ok (.ireturn, 1) := by decide +kernel
theorem dL_setChannels_23 : decode cL_setChannels 23 = .ok (.iconst 0, 1) := by decide +kernel
theorem dL_setChannels_24 : decode cL_setChannels 24 = .ok (.ireturn, 1) := by decide +kernel
theorem dL_setRate_0 : decode cL_setRate 0 = .ok (.aload 4, 2) := by decide +kernel
theorem dL_setRate_2 : decode cL_setRate 2 = .ok (.iconst 0, 1) := by decide +kernel
theorem dL_setRate_3 : decode cL_setRate 3 = .ok (.aload_n 0, 1) := by decide +kernel
theorem dL_setRate_4 : decode cL_setRate 4 = .ok (.iload_n 1, 1) := by decide +kernel
theorem dL_setRate_5 : decode cL_setRate 5 = .ok (.iload_n 2, 1) := by decide +kernel
theorem dL_setRate_6 : decode cL_setRate 6 = .ok (.iload_n 3, 1) := by decide +kernel
theorem dL_setRate_7 : decode cL_setRate 7 = .ok (.invokevirtual 23, 3) := by decide +kernel
theorem dL_setRate_10 : decode cL_setRate 10 = .ok (.i2l, 1) := by decide +kernel
theorem dL_setRate_11 : decode cL_setRate 11 = .ok (.lastore, 1) := by decide +kernel
theorem dL_setRate_12 : decode cL_setRate 12 = .ok (.goto 7, 3) := by decide +kernel
theorem dL_setRate_15 : decode cL_setRate 15 = .ok (.astore 5, 2) := by decide +kernel
theorem dL_setRate_17 : decode cL_setRate 17 = .ok (.iconst 1, 1) := by decide +kernel
theorem dL_setRate_18 : decode cL_setRate 18 = .ok (.ireturn, 1) := by decide +kernel
theorem dL_setRate_19 : decode cL_setRate 19 = .ok (.iconst 0, 1) := by decide +kernel
theorem dL_setRate_20 : decode cL_setRate 20 = .ok (.ireturn, 1) := by decide +kernel
theorem dL_setSlice_0 : decode cL_setSlice 0 = .ok (.aload_n 2, 1) := by decide +kernel
theorem dL_setSlice_1 : decode cL_setSlice 1 = .ok (.iconst 0, 1) := by decide +kernel
theorem dL_setSlice_2 : decode cL_setSlice 2 = .ok (.aload_n 0, 1) := by decide +kernel
theorem dL_setSlice_3 : decode cL_setSlice 3 = .ok (.iload_n 1, 1) := by decide +kernel
theorem dL_setSlice_4 : decode cL_setSlice 4 = .ok (.invokevirtual 27, 3) := by decide +kernel
theorem dL_setSlice_7 : decode cL_setSlice 7 = .ok (.i2l, 1) := by decide +kernel
theorem dL_setSlice_8 : decode cL_setSlice 8 = .ok (.lastore, 1) := by decide +kernel
theorem dL_setSlice_9 : decode cL_setSlice 9 = .ok (.goto 6, 3) := by decide +kernel
theorem dL_setSlice_12 : decode cL_setSlice 12 = .ok (.astore_n 3, 1) := by decide +kernel
theorem dL_setSlice_13 : decode cL_setSlice 13 = .ok (.iconst 1, 1) := by decide +kernel
theorem dL_setSlice_14 : decode cL_setSlice 14 = .ok (.ireturn, 1) := by decide +kernel
theorem dL_setSlice_15 : decode cL_setSlice 15 = .ok (.iconst 0, 1) := by decide +kernel
theorem dL_setSlice_16 : decode cL_setSlice 16 = .ok (.ireturn, 1) := by decide +kernel
theorem dL_setCap_0 : decode cL_setCap 0 = .ok (.aload_n 3, 1) := by decide +kernel
theorem dL_setCap_1 : decode cL_setCap 1 = .ok (.iconst 0, 1) := by decide +kernel
theorem dL_setCap_2 : decode cL_setCap 2 = .ok (.aload_n 0, 1) := by decide +kernel
theorem dL_setCap_3 : decode cL_setCap 3 = .ok (.iload_n 1, 1) := by decide +kernel
theorem dL_setCap_4 : decode cL_setCap 4 = .ok (.iload_n 2, 1) := by decide +kernel
theorem dL_setCap_5 : decode cL_setCap 5 = .ok (.invokevirtual 31, 3) := by decide +kernel
theorem dL_setCap_8 : decode cL_setCap 8 = .ok (.i2l, 1) := by decide +kernel
theorem dL_setCap_9 : decode cL_setCap 9 = .ok (.lastore, 1) := by decide +kernel
theorem dL_setCap_10 : decode cL_setCap 10 = .ok (.goto 11, 3) := by decide +kernel
theorem dL_setCap_13 : decode cL_setCap 13 = .ok (.astore 4, 2) := by decide +kernel
theorem dL_setCap_15 : decode cL_setCap 15 = .ok (.iconst 1, 1) := by decide +kernel
theorem dL_setCap_16 : decode cL_setCap 16 = .ok (.ireturn, 1) := by decide +kernel
theorem dL_setCap_17 : decode cL_setCap 17 = .ok (.astore 4, 2) := by decide +kernel
theorem dL_setCap_19 : decode cL_setCap 19 = .ok (.iconst 2, 1) := by decide +kernel
theorem dL_setCap_20 : decode cL_setCap 20 = .ok (.ireturn, 1) := by decide +kernel
theorem dL_setCap_21 : decode cL_setCap 21 = .ok (.iconst 0, 1) := by decide +kernel
theorem dL_setCap_22 : decode cL_setCap 22 = .ok (.ireturn, 1) := by decide +kernel
theorem dL_setWallet_0 : decode cL_setWallet 0 = .ok (.aload_n 3, 1) := by decide +kernel
theorem dL_setWallet_1 : decode cL_setWallet 1 = .ok (.iconst 0, 1) := by decide +kernel
theorem dL_setWallet_2 : decode cL_setWallet 2 = .ok (.aload_n 0, 1) := by decide +kernel
theorem dL_setWallet_3 : decode cL_setWallet 3 = .ok (.iload_n 1, 1) := by decide +kernel
theorem dL_setWallet_4 : decode cL_setWallet 4 = .ok (.iload_n 2, 1) := by decide +kernel
theorem dL_setWallet_5 : decode cL_setWallet 5 = .ok (.invokevirtual 34, 3) := by decide +kernel
theorem dL_setWallet_8 : decode cL_setWallet 8 = .ok (.i2l, 1) := by decide +kernel
theorem dL_setWallet_9 : decode cL_setWallet 9 = .ok (.lastore, 1) := by decide +kernel
theorem dL_setWallet_10 : decode cL_setWallet 10 = .ok (.goto 11, 3) := by decide +kernel
theorem dL_setWallet_13 : decode cL_setWallet 13 = .ok (.astore 4, 2) := by decide +kernel
theorem dL_setWallet_15 : decode cL_setWallet 15 = .ok (.iconst 1, 1) := by decide +kernel
theorem dL_setWallet_16 : decode cL_setWallet 16 = .ok (.ireturn, 1) := by decide +kernel
theorem dL_setWallet_17 : decode cL_setWallet 17 = .ok (.astore 4, 2) := by decide +kernel
theorem dL_setWallet_19 : decode cL_setWallet 19 = .ok (.iconst 2, 1) := by decide +kernel
theorem dL_setWallet_20 : decode cL_setWallet 20 = .ok (.ireturn, 1) := by decide +kernel
theorem dL_setWallet_21 : decode cL_setWallet 21 = .ok (.iconst 0, 1) := by decide +kernel
theorem dL_setWallet_22 : decode cL_setWallet 22 = .ok (.ireturn, 1) := by decide +kernel
theorem dL_top_0 : decode cL_top 0 = .ok (.aload_n 3, 1) := by decide +kernel
theorem dL_top_1 : decode cL_top 1 = .ok (.iconst 0, 1) := by decide +kernel
theorem dL_top_2 : decode cL_top 2 = .ok (.aload_n 0, 1) := by decide +kernel
theorem dL_top_3 : decode cL_top 3 = .ok (.iload_n 1, 1) := by decide +kernel
theorem dL_top_4 : decode cL_top 4 = .ok (.iload_n 2, 1) := by decide +kernel
theorem dL_top_5 : decode cL_top 5 = .ok (.invokevirtual 37, 3) := by decide +kernel
theorem dL_top_8 : decode cL_top 8 = .ok (.i2l, 1) := by decide +kernel
theorem dL_top_9 : decode cL_top 9 = .ok (.lastore, 1) := by decide +kernel
theorem dL_top_10 : decode cL_top 10 = .ok (.goto 11, 3) := by decide +kernel
theorem dL_top_13 : decode cL_top 13 = .ok (.astore 4, 2) := by decide +kernel
theorem dL_top_15 : decode cL_top 15 = .ok (.iconst 1, 1) := by decide +kernel
theorem dL_top_16 : decode cL_top 16 = .ok (.ireturn, 1) := by decide +kernel
theorem dL_top_17 : decode cL_top 17 = .ok (.astore 4, 2) := by decide +kernel
theorem dL_top_19 : decode cL_top 19 = .ok (.iconst 2, 1) := by decide +kernel
theorem dL_top_20 : decode cL_top 20 = .ok (.ireturn, 1) := by decide +kernel
theorem dL_top_21 : decode cL_top 21 = .ok (.iconst 0, 1) := by decide +kernel
theorem dL_top_22 : decode cL_top 22 = .ok (.ireturn, 1) := by decide +kernel
theorem dL_give_0 : decode cL_give 0 = .ok (.aload 4, 2) := by decide +kernel
theorem dL_give_2 : decode cL_give 2 = .ok (.iconst 0, 1) := by decide +kernel
theorem dL_give_3 : decode cL_give 3 = .ok (.aload_n 0, 1) := by decide +kernel
theorem dL_give_4 : decode cL_give 4 = .ok (.iload_n 1, 1) := by decide +kernel
theorem dL_give_5 : decode cL_give 5 = .ok (.iload_n 2, 1) := by decide +kernel
theorem dL_give_6 : decode cL_give 6 = .ok (.iload_n 3, 1) := by decide +kernel
theorem dL_give_7 : decode cL_give 7 = .ok (.invokevirtual 40, 3) := by decide +kernel
theorem dL_give_10 : decode cL_give 10 = .ok (.i2l, 1) := by decide +kernel
theorem dL_give_11 : decode cL_give 11 = .ok (.lastore, 1) := by decide +kernel
theorem dL_give_12 : decode cL_give 12 = .ok (.goto 15, 3) := by decide +kernel
theorem dL_give_15 : decode cL_give 15 = .ok (.astore 5, 2) := by decide +kernel
theorem dL_give_17 : decode cL_give 17 = .ok (.iconst 1, 1) := by decide +kernel
theorem dL_give_18 : decode cL_give 18 = .ok (.ireturn, 1) := by decide +kernel
theorem dL_give_19 : decode cL_give 19 = .ok (.astore 5, 2) := by decide +kernel
theorem dL_give_21 : decode cL_give 21 = .ok (.iconst 2, 1) := by decide +kernel
theorem dL_give_22 : decode cL_give 22 = .ok (.ireturn, 1) := by decide +kernel
theorem dL_give_23 : decode cL_give 23 = .ok (.astore 5, 2) := by decide +kernel
theorem dL_give_25 : decode cL_give 25 = .ok (.iconst 3, 1) := by decide +kernel
theorem dL_give_26 : decode cL_give 26 = .ok (.ireturn, 1) := by decide +kernel
theorem dL_give_27 : decode cL_give 27 = .ok (.iconst 0, 1) := by decide +kernel
theorem dL_give_28 : decode cL_give 28 = .ok (.ireturn, 1) := by decide +kernel
theorem dL_buy_0 : decode cL_buy 0 = .ok (.aload 7, 2) := by decide +kernel
theorem dL_buy_2 : decode cL_buy 2 = .ok (.iconst 0, 1) := by decide +kernel
theorem dL_buy_3 : decode cL_buy 3 = .ok (.aload_n 0, 1) := by decide +kernel
theorem dL_buy_4 : decode cL_buy 4 = .ok (.iload_n 1, 1) := by decide +kernel
theorem dL_buy_5 : decode cL_buy 5 = .ok (.iload_n 2, 1) := by decide +kernel
theorem dL_buy_6 : decode cL_buy 6 = .ok (.iload_n 3, 1) := by decide +kernel
theorem dL_buy_7 : decode cL_buy 7 = .ok (.iload 4, 2) := by decide +kernel
theorem dL_buy_9 : decode cL_buy 9 = .ok (.iload 5, 2) := by decide +kernel
theorem dL_buy_11 : decode cL_buy 11 = .ok (.iload 6, 2) := by decide +kernel
theorem dL_buy_13 : decode cL_buy 13 = .ok (.invokevirtual 43, 3) := by decide +kernel
theorem dL_buy_16 : decode cL_buy 16 = .ok (.i2l, 1) := by decide +kernel
theorem dL_buy_17 : decode cL_buy 17 = .ok (.lastore, 1) := by decide +kernel
theorem dL_buy_18 : decode cL_buy 18 = .ok (.goto 15, 3) := by decide +kernel
theorem dL_buy_21 : decode cL_buy 21 = .ok (.astore 8, 2) := by decide +kernel
theorem dL_buy_23 : decode cL_buy 23 = .ok (.iconst 1, 1) := by decide +kernel
theorem dL_buy_24 : decode cL_buy 24 = .ok (.ireturn, 1) := by decide +kernel
theorem dL_buy_25 : decode cL_buy 25 = .ok (.astore 8, 2) := by decide +kernel
theorem dL_buy_27 : decode cL_buy 27 = .ok (.iconst 2, 1) := by decide +kernel
theorem dL_buy_28 : decode cL_buy 28 = .ok (.ireturn, 1) := by decide +kernel
theorem dL_buy_29 : decode cL_buy 29 = .ok (.astore 8, 2) := by decide +kernel
theorem dL_buy_31 : decode cL_buy 31 = .ok (.iconst 3, 1) := by decide +kernel
theorem dL_buy_32 : decode cL_buy 32 = .ok (.ireturn, 1) := by decide +kernel
theorem dL_buy_33 : decode cL_buy 33 = .ok (.iconst 0, 1) := by decide +kernel
theorem dL_buy_34 : decode cL_buy 34 = .ok (.ireturn, 1) := by decide +kernel
theorem dL_free_0 : decode cL_free 0 = .ok (.aload_n 2, 1) := by decide +kernel
theorem dL_free_1 : decode cL_free 1 = .ok (.iconst 0, 1) := by decide +kernel
theorem dL_free_2 : decode cL_free 2 = .ok (.aload_n 0, 1) := by decide +kernel
theorem dL_free_3 : decode cL_free 3 = .ok (.iload_n 1, 1) := by decide +kernel
theorem dL_free_4 : decode cL_free 4 = .ok (.invokevirtual 47, 3) := by decide +kernel
theorem dL_free_7 : decode cL_free 7 = .ok (.i2l, 1) := by decide +kernel
theorem dL_free_8 : decode cL_free 8 = .ok (.lastore, 1) := by decide +kernel
theorem dL_free_9 : decode cL_free 9 = .ok (.goto 6, 3) := by decide +kernel
theorem dL_free_12 : decode cL_free 12 = .ok (.astore_n 3, 1) := by decide +kernel
theorem dL_free_13 : decode cL_free 13 = .ok (.iconst 1, 1) := by decide +kernel
theorem dL_free_14 : decode cL_free 14 = .ok (.ireturn, 1) := by decide +kernel
theorem dL_free_15 : decode cL_free 15 = .ok (.iconst 0, 1) := by decide +kernel
theorem dL_free_16 : decode cL_free 16 = .ok (.ireturn, 1) := by decide +kernel
theorem dL_aside_0 : decode cL_aside 0 = .ok (.aload_n 2, 1) := by decide +kernel
theorem dL_aside_1 : decode cL_aside 1 = .ok (.iconst 0, 1) := by decide +kernel
theorem dL_aside_2 : decode cL_aside 2 = .ok (.aload_n 0, 1) := by decide +kernel
theorem dL_aside_3 : decode cL_aside 3 = .ok (.iload_n 1, 1) := by decide +kernel
theorem dL_aside_4 : decode cL_aside 4 = .ok (.invokevirtual 50, 3) := by decide +kernel
theorem dL_aside_7 : decode cL_aside 7 = .ok (.i2l, 1) := by decide +kernel
theorem dL_aside_8 : decode cL_aside 8 = .ok (.lastore, 1) := by decide +kernel
theorem dL_aside_9 : decode cL_aside 9 = .ok (.goto 6, 3) := by decide +kernel
theorem dL_aside_12 : decode cL_aside 12 = .ok (.astore_n 3, 1) := by decide +kernel
theorem dL_aside_13 : decode cL_aside 13 = .ok (.iconst 1, 1) := by decide +kernel
theorem dL_aside_14 : decode cL_aside 14 = .ok (.ireturn, 1) := by decide +kernel
theorem dL_aside_15 : decode cL_aside 15 = .ok (.iconst 0, 1) := by decide +kernel
theorem dL_aside_16 : decode cL_aside 16 = .ok (.ireturn, 1) := by decide +kernel
theorem dL_spent_0 : decode cL_spent 0 = .ok (.aload_n 2, 1) := by decide +kernel
theorem dL_spent_1 : decode cL_spent 1 = .ok (.iconst 0, 1) := by decide +kernel
theorem dL_spent_2 : decode cL_spent 2 = .ok (.aload_n 0, 1) := by decide +kernel
theorem dL_spent_3 : decode cL_spent 3 = .ok (.iload_n 1, 1) := by decide +kernel
theorem dL_spent_4 : decode cL_spent 4 = .ok (.invokevirtual 53, 3) := by decide +kernel
theorem dL_spent_7 : decode cL_spent 7 = .ok (.i2l, 1) := by decide +kernel
theorem dL_spent_8 : decode cL_spent 8 = .ok (.lastore, 1) := by decide +kernel
theorem dL_spent_9 : decode cL_spent 9 = .ok (.goto 6, 3) := by decide +kernel
theorem dL_spent_12 : decode cL_spent 12 = .ok (.astore_n 3, 1) := by decide +kernel
theorem dL_spent_13 : decode cL_spent 13 = .ok (.iconst 1, 1) := by decide +kernel
theorem dL_spent_14 : decode cL_spent 14 = .ok (.ireturn, 1) := by decide +kernel
theorem dL_spent_15 : decode cL_spent 15 = .ok (.iconst 0, 1) := by decide +kernel
theorem dL_spent_16 : decode cL_spent 16 = .ok (.ireturn, 1) := by decide +kernel
theorem dL_left_0 : decode cL_left 0 = .ok (.aload_n 2, 1) := by decide +kernel
theorem dL_left_1 : decode cL_left 1 = .ok (.iconst 0, 1) := by decide +kernel
theorem dL_left_2 : decode cL_left 2 = .ok (.aload_n 0, 1) := by decide +kernel
theorem dL_left_3 : decode cL_left 3 = .ok (.iload_n 1, 1) := by decide +kernel
theorem dL_left_4 : decode cL_left 4 = .ok (.invokevirtual 56, 3) := by decide +kernel
theorem dL_left_7 : decode cL_left 7 = .ok (.i2l, 1) := by decide +kernel
theorem dL_left_8 : decode cL_left 8 = .ok (.lastore, 1) := by decide +kernel
theorem dL_left_9 : decode cL_left 9 = .ok (.goto 6, 3) := by decide +kernel
theorem dL_left_12 : decode cL_left 12 = .ok (.astore_n 3, 1) := by decide +kernel
theorem dL_left_13 : decode cL_left 13 = .ok (.iconst 1, 1) := by decide +kernel
theorem dL_left_14 : decode cL_left 14 = .ok (.ireturn, 1) := by decide +kernel
theorem dL_left_15 : decode cL_left 15 = .ok (.iconst 0, 1) := by decide +kernel
theorem dL_left_16 : decode cL_left 16 = .ok (.ireturn, 1) := by decide +kernel
theorem dL_begin_0 : decode cL_begin 0 = .ok (.aload 4, 2) := by decide +kernel
theorem dL_begin_2 : decode cL_begin 2 = .ok (.iconst 0, 1) := by decide +kernel
theorem dL_begin_3 : decode cL_begin 3 = .ok (.aload_n 0, 1) := by decide +kernel
theorem dL_begin_4 : decode cL_begin 4 = .ok (.iload_n 1, 1) := by decide +kernel
theorem dL_begin_5 : decode cL_begin 5 = .ok (.iload_n 2, 1) := by decide +kernel
theorem dL_begin_6 : decode cL_begin 6 = .ok (.iload_n 3, 1) := by decide +kernel
theorem dL_begin_7 : decode cL_begin 7 = .ok (.invokevirtual 59, 3) := by decide +kernel
theorem dL_begin_10 : decode cL_begin 10 = .ok (.i2l, 1) := by decide +kernel
theorem dL_begin_11 : decode cL_begin 11 = .ok (.lastore, 1) := by decide +kernel
theorem dL_begin_12 : decode cL_begin 12 = .ok (.goto 15, 3) := by decide +kernel
theorem dL_begin_15 : decode cL_begin 15 = .ok (.astore 5, 2) := by decide +kernel
theorem dL_begin_17 : decode cL_begin 17 = .ok (.iconst 1, 1) := by decide +kernel
theorem dL_begin_18 : decode cL_begin 18 = .ok (.ireturn, 1) := by decide +kernel
theorem dL_begin_19 : decode cL_begin 19 = .ok (.astore 5, 2) := by decide +kernel
theorem dL_begin_21 : decode cL_begin 21 = .ok (.iconst 2, 1) := by decide +kernel
theorem dL_begin_22 : decode cL_begin 22 = .ok (.ireturn, 1) := by decide +kernel
theorem dL_begin_23 : decode cL_begin 23 = .ok (.astore 5, 2) := by decide +kernel
theorem dL_begin_25 : decode cL_begin 25 = .ok (.iconst 3, 1) := by decide +kernel
theorem dL_begin_26 : decode cL_begin 26 = .ok (.ireturn, 1) := by decide +kernel
theorem dL_begin_27 : decode cL_begin 27 = .ok (.iconst 0, 1) := by decide +kernel
theorem dL_begin_28 : decode cL_begin 28 = .ok (.ireturn, 1) := by decide +kernel
theorem dL_join_0 : decode cL_join 0 = .ok (.aload 4, 2) := by decide +kernel
theorem dL_join_2 : decode cL_join 2 = .ok (.iconst 0, 1) := by decide +kernel
theorem dL_join_3 : decode cL_join 3 = .ok (.aload_n 0, 1) := by decide +kernel
theorem dL_join_4 : decode cL_join 4 = .ok (.iload_n 1, 1) := by decide +kernel
theorem dL_join_5 : decode cL_join 5 = .ok (.iload_n 2, 1) := by decide +kernel
theorem dL_join_6 : decode cL_join 6 = .ok (.iload_n 3, 1) := by decide +kernel
theorem dL_join_7 : decode cL_join 7 = .ok (.invokevirtual 63, 3) := by decide +kernel
theorem dL_join_10 : decode cL_join 10 = .ok (.i2l, 1) := by decide +kernel
theorem dL_join_11 : decode cL_join 11 = .ok (.lastore, 1) := by decide +kernel
theorem dL_join_12 : decode cL_join 12 = .ok (.goto 11, 3) := by decide +kernel
theorem dL_join_15 : decode cL_join 15 = .ok (.astore 5, 2) := by decide +kernel
theorem dL_join_17 : decode cL_join 17 = .ok (.iconst 1, 1) := by decide +kernel
theorem dL_join_18 : decode cL_join 18 = .ok (.ireturn, 1) := by decide +kernel
theorem dL_join_19 : decode cL_join 19 = .ok (.astore 5, 2) := by decide +kernel
theorem dL_join_21 : decode cL_join 21 = .ok (.iconst 2, 1) := by decide +kernel
theorem dL_join_22 : decode cL_join 22 = .ok (.ireturn, 1) := by decide +kernel
theorem dL_join_23 : decode cL_join 23 = .ok (.iconst 0, 1) := by decide +kernel
theorem dL_join_24 : decode cL_join 24 = .ok (.ireturn, 1) := by decide +kernel
theorem dL_leave_0 : decode cL_leave 0 = .ok (.aload_n 2, 1) := by decide +kernel
theorem dL_leave_1 : decode cL_leave 1 = .ok (.iconst 0, 1) := by decide +kernel
theorem dL_leave_2 : decode cL_leave 2 = .ok (.aload_n 0, 1) := by decide +kernel
theorem dL_leave_3 : decode cL_leave 3 = .ok (.iload_n 1, 1) := by decide +kernel
theorem dL_leave_4 : decode cL_leave 4 = .ok (.invokevirtual 66, 3) := by decide +kernel
theorem dL_leave_7 : decode cL_leave 7 = .ok (.i2l, 1) := by decide +kernel
theorem dL_leave_8 : decode cL_leave 8 = .ok (.lastore, 1) := by decide +kernel
theorem dL_leave_9 : decode cL_leave 9 = .ok (.goto 9, 3) := by decide +kernel
theorem dL_leave_12 : decode cL_leave 12 = .ok (.astore_n 3, 1) := by decide +kernel
theorem dL_leave_13 : decode cL_leave 13 = .ok (.iconst 1, 1) := by decide +kernel
theorem dL_leave_14 : decode cL_leave 14 = .ok (.ireturn, 1) := by decide +kernel
theorem dL_leave_15 : decode cL_leave 15 = .ok (.astore_n 3, 1) := by decide +kernel
theorem dL_leave_16 : decode cL_leave 16 = .ok (.iconst 2, 1) := by decide +kernel
theorem dL_leave_17 : decode cL_leave 17 = .ok (.ireturn, 1) := by decide +kernel
theorem dL_leave_18 : decode cL_leave 18 = .ok (.iconst 0, 1) := by decide +kernel
theorem dL_leave_19 : decode cL_leave 19 = .ok (.ireturn, 1) := by decide +kernel
theorem dL_move_0 : decode cL_move 0 = .ok (.aload_n 3, 1) := by decide +kernel
theorem dL_move_1 : decode cL_move 1 = .ok (.iconst 0, 1) := by decide +kernel
theorem dL_move_2 : decode cL_move 2 = .ok (.aload_n 0, 1) := by decide +kernel
theorem dL_move_3 : decode cL_move 3 = .ok (.iload_n 1, 1) := by decide +kernel
theorem dL_move_4 : decode cL_move 4 = .ok (.iload_n 2, 1) := by decide +kernel
theorem dL_move_5 : decode cL_move 5 = .ok (.invokevirtual 69, 3) := by decide +kernel
theorem dL_move_8 : decode cL_move 8 = .ok (.ifCond .eq 7, 3) := by decide +kernel
theorem dL_move_11 : decode cL_move 11 = .ok (.lconst 1, 1) := by decide +kernel
theorem dL_move_12 : decode cL_move 12 = .ok (.goto 4, 3) := by decide +kernel
theorem dL_move_15 : decode cL_move 15 = .ok (.lconst 0, 1) := by decide +kernel
theorem dL_move_16 : decode cL_move 16 = .ok (.lastore, 1) := by decide +kernel
theorem dL_move_17 : decode cL_move 17 = .ok (.goto 7, 3) := by decide +kernel
theorem dL_move_20 : decode cL_move 20 = .ok (.astore 4, 2) := by decide +kernel
theorem dL_move_22 : decode cL_move 22 = .ok (.iconst 1, 1) := by decide +kernel
theorem dL_move_23 : decode cL_move 23 = .ok (.ireturn, 1) := by decide +kernel
theorem dL_move_24 : decode cL_move 24 = .ok (.iconst 0, 1) := by decide +kernel
theorem dL_move_25 : decode cL_move 25 = .ok (.ireturn, 1) := by decide +kernel
theorem dL_pass_0 : decode cL_pass 0 = .ok (.aload_n 2, 1) := by decide +kernel
theorem dL_pass_1 : decode cL_pass 1 = .ok (.iconst 0, 1) := by decide +kernel
theorem dL_pass_2 : decode cL_pass 2 = .ok (.aload_n 0, 1) := by decide +kernel
theorem dL_pass_3 : decode cL_pass 3 = .ok (.iload_n 1, 1) := by decide +kernel
theorem dL_pass_4 : decode cL_pass 4 = .ok (.invokevirtual 73, 3) := by decide +kernel
theorem dL_pass_7 : decode cL_pass 7 = .ok (.i2l, 1) := by decide +kernel
theorem dL_pass_8 : decode cL_pass 8 = .ok (.lastore, 1) := by decide +kernel
theorem dL_pass_9 : decode cL_pass 9 = .ok (.goto 9, 3) := by decide +kernel
theorem dL_pass_12 : decode cL_pass 12 = .ok (.astore_n 3, 1) := by decide +kernel
theorem dL_pass_13 : decode cL_pass 13 = .ok (.iconst 1, 1) := by decide +kernel
theorem dL_pass_14 : decode cL_pass 14 = .ok (.ireturn, 1) := by decide +kernel
theorem dL_pass_15 : decode cL_pass 15 = .ok (.astore_n 3, 1) := by decide +kernel
theorem dL_pass_16 : decode cL_pass 16 = .ok (.iconst 2, 1) := by decide +kernel
theorem dL_pass_17 : decode cL_pass 17 = .ok (.ireturn, 1) := by decide +kernel
theorem dL_pass_18 : decode cL_pass 18 = .ok (.iconst 0, 1) := by decide +kernel
theorem dL_pass_19 : decode cL_pass 19 = .ok (.ireturn, 1) := by decide +kernel
theorem dL_cellOf_0 : decode cL_cellOf 0 = .ok (.aload_n 2, 1) := by decide +kernel
theorem dL_cellOf_1 : decode cL_cellOf 1 = .ok (.iconst 0, 1) := by decide +kernel
theorem dL_cellOf_2 : decode cL_cellOf 2 = .ok (.aload_n 0, 1) := by decide +kernel
theorem dL_cellOf_3 : decode cL_cellOf 3 = .ok (.iload_n 1, 1) := by decide +kernel
theorem dL_cellOf_4 : decode cL_cellOf 4 = .ok (.invokevirtual 76, 3) := by decide +kernel
theorem dL_cellOf_7 : decode cL_cellOf 7 = .ok (.i2l, 1) := by decide +kernel
theorem dL_cellOf_8 : decode cL_cellOf 8 = .ok (.lastore, 1) := by decide +kernel
theorem dL_cellOf_9 : decode cL_cellOf 9 = .ok (.goto 6, 3) := by decide +kernel
theorem dL_cellOf_12 : decode cL_cellOf 12 = .ok (.astore_n 3, 1) := by decide +kernel
theorem dL_cellOf_13 : decode cL_cellOf 13 = .ok (.iconst 1, 1) := by decide +kernel
theorem dL_cellOf_14 : decode cL_cellOf 14 = .ok (.ireturn, 1) := by decide +kernel
theorem dL_cellOf_15 : decode cL_cellOf 15 = .ok (.iconst 0, 1) := by decide +kernel
theorem dL_cellOf_16 : decode cL_cellOf 16 = .ok (.ireturn, 1) := by decide +kernel
theorem dL_rateOf_0 : decode cL_rateOf 0 = .ok (.aload_n 2, 1) := by decide +kernel
theorem dL_rateOf_1 : decode cL_rateOf 1 = .ok (.iconst 0, 1) := by decide +kernel
theorem dL_rateOf_2 : decode cL_rateOf 2 = .ok (.aload_n 0, 1) := by decide +kernel
theorem dL_rateOf_3 : decode cL_rateOf 3 = .ok (.iload_n 1, 1) := by decide +kernel
theorem dL_rateOf_4 : decode cL_rateOf 4 = .ok (.invokevirtual 79, 3) := by decide +kernel
theorem dL_rateOf_7 : decode cL_rateOf 7 = .ok (.i2l, 1) := by decide +kernel
theorem dL_rateOf_8 : decode cL_rateOf 8 = .ok (.lastore, 1) := by decide +kernel
theorem dL_rateOf_9 : decode cL_rateOf 9 = .ok (.goto 6, 3) := by decide +kernel
theorem dL_rateOf_12 : decode cL_rateOf 12 = .ok (.astore_n 3, 1) := by decide +kernel
theorem dL_rateOf_13 : decode cL_rateOf 13 = .ok (.iconst 1, 1) := by decide +kernel
theorem dL_rateOf_14 : decode cL_rateOf 14 = .ok (.ireturn, 1) := by decide +kernel
theorem dL_rateOf_15 : decode cL_rateOf 15 = .ok (.iconst 0, 1) := by decide +kernel
theorem dL_rateOf_16 : decode cL_rateOf 16 = .ok (.ireturn, 1) := by decide +kernel
theorem dL_legOf_0 : decode cL_legOf 0 = .ok (.aload_n 2, 1) := by decide +kernel
theorem dL_legOf_1 : decode cL_legOf 1 = .ok (.iconst 0, 1) := by decide +kernel
theorem dL_legOf_2 : decode cL_legOf 2 = .ok (.aload_n 0, 1) := by decide +kernel
theorem dL_legOf_3 : decode cL_legOf 3 = .ok (.iload_n 1, 1) := by decide +kernel
theorem dL_legOf_4 : decode cL_legOf 4 = .ok (.invokevirtual 82, 3) := by decide +kernel
theorem dL_legOf_7 : decode cL_legOf 7 = .ok (.i2l, 1) := by decide +kernel
theorem dL_legOf_8 : decode cL_legOf 8 = .ok (.lastore, 1) := by decide +kernel
theorem dL_legOf_9 : decode cL_legOf 9 = .ok (.goto 6, 3) := by decide +kernel
theorem dL_legOf_12 : decode cL_legOf 12 = .ok (.astore_n 3, 1) := by decide +kernel
theorem dL_legOf_13 : decode cL_legOf 13 = .ok (.iconst 1, 1) := by decide +kernel
theorem dL_legOf_14 : decode cL_legOf 14 = .ok (.ireturn, 1) := by decide +kernel
theorem dL_legOf_15 : decode cL_legOf 15 = .ok (.iconst 0, 1) := by decide +kernel
theorem dL_legOf_16 : decode cL_legOf 16 = .ok (.ireturn, 1) := by decide +kernel
theorem dL_sliceOf_0 : decode cL_sliceOf 0 = .ok (.aload_n 2, 1) := by decide +kernel
theorem dL_sliceOf_1 : decode cL_sliceOf 1 = .ok (.iconst 0, 1) := by decide +kernel
theorem dL_sliceOf_2 : decode cL_sliceOf 2 = .ok (.aload_n 0, 1) := by decide +kernel
theorem dL_sliceOf_3 : decode cL_sliceOf 3 = .ok (.iload_n 1, 1) := by decide +kernel
theorem dL_sliceOf_4 : decode cL_sliceOf 4 = .ok (.invokevirtual 85, 3) := by decide +kernel
theorem dL_sliceOf_7 : decode cL_sliceOf 7 = .ok (.i2l, 1) := by decide +kernel
theorem dL_sliceOf_8 : decode cL_sliceOf 8 = .ok (.lastore, 1) := by decide +kernel
theorem dL_sliceOf_9 : decode cL_sliceOf 9 = .ok (.goto 6, 3) := by decide +kernel
theorem dL_sliceOf_12 : decode cL_sliceOf 12 = .ok (.astore_n 3, 1) := by decide +kernel
theorem dL_sliceOf_13 : decode cL_sliceOf 13 = .ok (.iconst 1, 1) := by decide +kernel
theorem dL_sliceOf_14 : decode cL_sliceOf 14 = .ok (.ireturn, 1) := by decide +kernel
theorem dL_sliceOf_15 : decode cL_sliceOf 15 = .ok (.iconst 0, 1) := by decide +kernel
theorem dL_sliceOf_16 : decode cL_sliceOf 16 = .ok (.ireturn, 1) := by decide +kernel
theorem dL_parties_0 : decode cL_parties 0 = .ok (.aload_n 2, 1) := by decide +kernel
theorem dL_parties_1 : decode cL_parties 1 = .ok (.iconst 0, 1) := by decide +kernel
theorem dL_parties_2 : decode cL_parties 2 = .ok (.aload_n 0, 1) := by decide +kernel
theorem dL_parties_3 : decode cL_parties 3 = .ok (.iload_n 1, 1) := by decide +kernel
theorem dL_parties_4 : decode cL_parties 4 = .ok (.invokevirtual 88, 3) := by decide +kernel
theorem dL_parties_7 : decode cL_parties 7 = .ok (.i2l, 1) := by decide +kernel
theorem dL_parties_8 : decode cL_parties 8 = .ok (.lastore, 1) := by decide +kernel
theorem dL_parties_9 : decode cL_parties 9 = .ok (.goto 6, 3) := by decide +kernel
theorem dL_parties_12 : decode cL_parties 12 = .ok (.astore_n 3, 1) := by decide +kernel
theorem dL_parties_13 : decode cL_parties 13 = .ok (.iconst 1, 1) := by decide +kernel
theorem dL_parties_14 : decode cL_parties 14 = .ok (.ireturn, 1) := by decide +kernel
theorem dL_parties_15 : decode cL_parties 15 = .ok (.iconst 0, 1) := by decide +kernel
theorem dL_parties_16 : decode cL_parties 16 = .ok (.ireturn, 1) := by decide +kernel
theorem dL_stateOf_0 : decode cL_stateOf 0 = .ok (.aload_n 2, 1) := by decide +kernel
theorem dL_stateOf_1 : decode cL_stateOf 1 = .ok (.iconst 0, 1) := by decide +kernel
theorem dL_stateOf_2 : decode cL_stateOf 2 = .ok (.aload_n 0, 1) := by decide +kernel
theorem dL_stateOf_3 : decode cL_stateOf 3 = .ok (.iload_n 1, 1) := by decide +kernel
theorem dL_stateOf_4 : decode cL_stateOf 4 = .ok (.invokevirtual 91, 3) := by decide +kernel
theorem dL_stateOf_7 : decode cL_stateOf 7 = .ok (.i2l, 1) := by decide +kernel
theorem dL_stateOf_8 : decode cL_stateOf 8 = .ok (.lastore, 1) := by decide +kernel
theorem dL_stateOf_9 : decode cL_stateOf 9 = .ok (.goto 6, 3) := by decide +kernel
theorem dL_stateOf_12 : decode cL_stateOf 12 = .ok (.astore_n 3, 1) := by decide +kernel
theorem dL_stateOf_13 : decode cL_stateOf 13 = .ok (.iconst 1, 1) := by decide +kernel
theorem dL_stateOf_14 : decode cL_stateOf 14 = .ok (.ireturn, 1) := by decide +kernel
theorem dL_stateOf_15 : decode cL_stateOf 15 = .ok (.iconst 0, 1) := by decide +kernel
theorem dL_stateOf_16 : decode cL_stateOf 16 = .ok (.ireturn, 1) := by decide +kernel
theorem dL_seconds_0 : decode cL_seconds 0 = .ok (.aload_n 2, 1) := by decide +kernel
theorem dL_seconds_1 : decode cL_seconds 1 = .ok (.iconst 0, 1) := by decide +kernel
theorem dL_seconds_2 : decode cL_seconds 2 = .ok (.aload_n 0, 1) := by decide +kernel
theorem dL_seconds_3 : decode cL_seconds 3 = .ok (.iload_n 1, 1) := by decide +kernel
theorem dL_seconds_4 : decode cL_seconds 4 = .ok (.invokevirtual 94, 3) := by decide +kernel
theorem dL_seconds_7 : decode cL_seconds 7 = .ok (.i2l, 1) := by decide +kernel
theorem dL_seconds_8 : decode cL_seconds 8 = .ok (.lastore, 1) := by decide +kernel
theorem dL_seconds_9 : decode cL_seconds 9 = .ok (.goto 6, 3) := by decide +kernel
theorem dL_seconds_12 : decode cL_seconds 12 = .ok (.astore_n 3, 1) := by decide +kernel
theorem dL_seconds_13 : decode cL_seconds 13 = .ok (.iconst 1, 1) := by decide +kernel
theorem dL_seconds_14 : decode cL_seconds 14 = .ok (.ireturn, 1) := by decide +kernel
theorem dL_seconds_15 : decode cL_seconds 15 = .ok (.iconst 0, 1) := by decide +kernel
theorem dL_seconds_16 : decode cL_seconds 16 = .ok (.ireturn, 1) := by decide +kernel
theorem dL_charged_0 : decode cL_charged 0 = .ok (.aload_n 2, 1) := by decide +kernel
theorem dL_charged_1 : decode cL_charged 1 = .ok (.iconst 0, 1) := by decide +kernel
theorem dL_charged_2 : decode cL_charged 2 = .ok (.aload_n 0, 1) := by decide +kernel
theorem dL_charged_3 : decode cL_charged 3 = .ok (.iload_n 1, 1) := by decide +kernel
theorem dL_charged_4 : decode cL_charged 4 = .ok (.invokevirtual 97, 3) := by decide +kernel
theorem dL_charged_7 : decode cL_charged 7 = .ok (.i2l, 1) := by decide +kernel
theorem dL_charged_8 : decode cL_charged 8 = .ok (.lastore, 1) := by decide +kernel
theorem dL_charged_9 : decode cL_charged 9 = .ok (.goto 6, 3) := by decide +kernel
theorem dL_charged_12 : decode cL_charged 12 = .ok (.astore_n 3, 1) := by decide +kernel
theorem dL_charged_13 : decode cL_charged 13 = .ok (.iconst 1, 1) := by decide +kernel
theorem dL_charged_14 : decode cL_charged 14 = .ok (.ireturn, 1) := by decide +kernel
theorem dL_charged_15 : decode cL_charged 15 = .ok (.iconst 0, 1) := by decide +kernel
theorem dL_charged_16 : decode cL_charged 16 = .ok (.ireturn, 1) := by decide +kernel
theorem dL_covered_0 : decode cL_covered 0 = .ok (.aload_n 2, 1) := by decide +kernel
theorem dL_covered_1 : decode cL_covered 1 = .ok (.iconst 0, 1) := by decide +kernel
theorem dL_covered_2 : decode cL_covered 2 = .ok (.aload_n 0, 1) := by decide +kernel
theorem dL_covered_3 : decode cL_covered 3 = .ok (.iload_n 1, 1) := by decide +kernel
theorem dL_covered_4 : decode cL_covered 4 = .ok (.invokevirtual 100, 3) := by decide +kernel
theorem dL_covered_7 : decode cL_covered 7 = .ok (.i2l, 1) := by decide +kernel
theorem dL_covered_8 : decode cL_covered 8 = .ok (.lastore, 1) := by decide +kernel
theorem dL_covered_9 : decode cL_covered 9 = .ok (.goto 6, 3) := by decide +kernel
theorem dL_covered_12 : decode cL_covered 12 = .ok (.astore_n 3, 1) := by decide +kernel
theorem dL_covered_13 : decode cL_covered 13 = .ok (.iconst 1, 1) := by decide +kernel
theorem dL_covered_14 : decode cL_covered 14 = .ok (.ireturn, 1) := by decide +kernel
theorem dL_covered_15 : decode cL_covered 15 = .ok (.iconst 0, 1) := by decide +kernel
theorem dL_covered_16 : decode cL_covered 16 = .ok (.ireturn, 1) := by decide +kernel
theorem dL_ratedByEvents_0 : decode cL_ratedByEvents 0 = .ok (.aload_n 2, 1) := by decide +kernel
theorem dL_ratedByEvents_1 : decode cL_ratedByEvents 1 = .ok (.iconst 0, 1) := by decide +kernel
theorem dL_ratedByEvents_2 : decode cL_ratedByEvents 2 = .ok (.aload_n 0, 1) := by decide +kernel
theorem dL_ratedByEvents_3 : decode cL_ratedByEvents 3 = .ok (.iload_n 1, 1) := by decide +kernel
theorem dL_ratedByEvents_4 : decode cL_ratedByEvents 4 = .ok (.invokevirtual 103, 3) := by decide +kernel
theorem dL_ratedByEvents_7 : decode cL_ratedByEvents 7 = .ok (.i2l, 1) := by decide +kernel
theorem dL_ratedByEvents_8 : decode cL_ratedByEvents 8 = .ok (.lastore, 1) := by decide +kernel
theorem dL_ratedByEvents_9 : decode cL_ratedByEvents 9 = .ok (.goto 6, 3) := by decide +kernel
theorem dL_ratedByEvents_12 : decode cL_ratedByEvents 12 = .ok (.astore_n 3, 1) := by decide +kernel
theorem dL_ratedByEvents_13 : decode cL_ratedByEvents 13 = .ok (.iconst 1, 1) := by decide +kernel
theorem dL_ratedByEvents_14 : decode cL_ratedByEvents 14 = .ok (.ireturn, 1) := by decide +kernel
theorem dL_ratedByEvents_15 : decode cL_ratedByEvents 15 = .ok (.iconst 0, 1) := by decide +kernel
theorem dL_ratedByEvents_16 : decode cL_ratedByEvents 16 = .ok (.ireturn, 1) := by decide +kernel
theorem dL_tag_0 : decode cL_tag 0 = .ok (.aload_n 2, 1) := by decide +kernel
theorem dL_tag_1 : decode cL_tag 1 = .ok (.iconst 0, 1) := by decide +kernel
theorem dL_tag_2 : decode cL_tag 2 = .ok (.aload_n 0, 1) := by decide +kernel
theorem dL_tag_3 : decode cL_tag 3 = .ok (.iload_n 1, 1) := by decide +kernel
theorem dL_tag_4 : decode cL_tag 4 = .ok (.invokevirtual 106, 3) := by decide +kernel
theorem dL_tag_7 : decode cL_tag 7 = .ok (.i2l, 1) := by decide +kernel
theorem dL_tag_8 : decode cL_tag 8 = .ok (.lastore, 1) := by decide +kernel
theorem dL_tag_9 : decode cL_tag 9 = .ok (.goto 6, 3) := by decide +kernel
theorem dL_tag_12 : decode cL_tag 12 = .ok (.astore_n 3, 1) := by decide +kernel
theorem dL_tag_13 : decode cL_tag 13 = .ok (.iconst 1, 1) := by decide +kernel
theorem dL_tag_14 : decode cL_tag 14 = .ok (.ireturn, 1) := by decide +kernel
theorem dL_tag_15 : decode cL_tag 15 = .ok (.iconst 0, 1) := by decide +kernel
theorem dL_tag_16 : decode cL_tag 16 = .ok (.ireturn, 1) := by decide +kernel
theorem dL_seal_0 : decode cL_seal 0 = .ok (.aload_n 2, 1) := by decide +kernel
theorem dL_seal_1 : decode cL_seal 1 = .ok (.iconst 0, 1) := by decide +kernel
theorem dL_seal_2 : decode cL_seal 2 = .ok (.aload_n 0, 1) := by decide +kernel
theorem dL_seal_3 : decode cL_seal 3 = .ok (.iload_n 1, 1) := by decide +kernel
theorem dL_seal_4 : decode cL_seal 4 = .ok (.invokevirtual 109, 3) := by decide +kernel
theorem dL_seal_7 : decode cL_seal 7 = .ok (.i2l, 1) := by decide +kernel
theorem dL_seal_8 : decode cL_seal 8 = .ok (.lastore, 1) := by decide +kernel
theorem dL_seal_9 : decode cL_seal 9 = .ok (.goto 6, 3) := by decide +kernel
theorem dL_seal_12 : decode cL_seal 12 = .ok (.astore_n 3, 1) := by decide +kernel
theorem dL_seal_13 : decode cL_seal 13 = .ok (.iconst 1, 1) := by decide +kernel
theorem dL_seal_14 : decode cL_seal 14 = .ok (.ireturn, 1) := by decide +kernel
theorem dL_seal_15 : decode cL_seal 15 = .ok (.iconst 0, 1) := by decide +kernel
theorem dL_seal_16 : decode cL_seal 16 = .ok (.ireturn, 1) := by decide +kernel
theorem dL_stamp_0 : decode cL_stamp 0 = .ok (.aload_n 2, 1) := by decide +kernel
theorem dL_stamp_1 : decode cL_stamp 1 = .ok (.iconst 0, 1) := by decide +kernel
theorem dL_stamp_2 : decode cL_stamp 2 = .ok (.aload_n 0, 1) := by decide +kernel
theorem dL_stamp_3 : decode cL_stamp 3 = .ok (.iload_n 1, 1) := by decide +kernel
theorem dL_stamp_4 : decode cL_stamp 4 = .ok (.invokevirtual 112, 3) := by decide +kernel
theorem dL_stamp_7 : decode cL_stamp 7 = .ok (.i2l, 1) := by decide +kernel
theorem dL_stamp_8 : decode cL_stamp 8 = .ok (.lastore, 1) := by decide +kernel
theorem dL_stamp_9 : decode cL_stamp 9 = .ok (.goto 6, 3) := by decide +kernel
theorem dL_stamp_12 : decode cL_stamp 12 = .ok (.astore_n 3, 1) := by decide +kernel
theorem dL_stamp_13 : decode cL_stamp 13 = .ok (.iconst 1, 1) := by decide +kernel
theorem dL_stamp_14 : decode cL_stamp 14 = .ok (.ireturn, 1) := by decide +kernel
theorem dL_stamp_15 : decode cL_stamp 15 = .ok (.iconst 0, 1) := by decide +kernel
theorem dL_stamp_16 : decode cL_stamp 16 = .ok (.ireturn, 1) := by decide +kernel
theorem dL_lineAt_0 : decode cL_lineAt 0 = .ok (.aload_n 3, 1) := by decide +kernel
theorem dL_lineAt_1 : decode cL_lineAt 1 = .ok (.iconst 0, 1) := by decide +kernel
theorem dL_lineAt_2 : decode cL_lineAt 2 = .ok (.aload_n 0, 1) := by decide +kernel
theorem dL_lineAt_3 : decode cL_lineAt 3 = .ok (.iload_n 1, 1) := by decide +kernel
theorem dL_lineAt_4 : decode cL_lineAt 4 = .ok (.iload_n 2, 1) := by decide +kernel
theorem dL_lineAt_5 : decode cL_lineAt 5 = .ok (.invokevirtual 115, 3) := by decide +kernel
theorem dL_lineAt_8 : decode cL_lineAt 8 = .ok (.i2l, 1) := by decide +kernel
theorem dL_lineAt_9 : decode cL_lineAt 9 = .ok (.lastore, 1) := by decide +kernel
theorem dL_lineAt_10 : decode cL_lineAt 10 = .ok (.goto 7, 3) := by decide +kernel
theorem dL_lineAt_13 : decode cL_lineAt 13 = .ok (.astore 4, 2) := by decide +kernel
theorem dL_lineAt_15 : decode cL_lineAt 15 = .ok (.iconst 1, 1) := by decide +kernel
theorem dL_lineAt_16 : decode cL_lineAt 16 = .ok (.ireturn, 1) := by decide +kernel
theorem dL_lineAt_17 : decode cL_lineAt 17 = .ok (.iconst 0, 1) := by decide +kernel
theorem dL_lineAt_18 : decode cL_lineAt 18 = .ok (.ireturn, 1) := by decide +kernel
theorem dL_law_0 : decode cL_law 0 = .ok (.new 8, 3) := by decide +kernel
theorem dL_law_3 : decode cL_law 3 = .ok (.dup, 1) := by decide +kernel
theorem dL_law_4 : decode cL_law 4 = .ok (.invokespecial 118, 3) := by decide +kernel
theorem dL_law_7 : decode cL_law 7 = .ok (.astore_n 1, 1) := by decide +kernel
theorem dL_law_8 : decode cL_law 8 = .ok (.new 119, 3) := by decide +kernel
theorem dL_law_11 : decode cL_law 11 = .ok (.dup, 1) := by decide +kernel
theorem dL_law_12 : decode cL_law 12 = .ok (.invokespecial 121, 3) := by decide +kernel
theorem dL_law_15 : decode cL_law 15 = .ok (.astore_n 2, 1) := by decide +kernel
theorem dL_law_16 : decode cL_law 16 = .ok (.iconst 1, 1) := by decide +kernel
theorem dL_law_17 : decode cL_law 17 = .ok (.newarray .long, 2) := by decide +kernel
theorem dL_law_19 : decode cL_law 19 = .ok (.astore_n 3, 1) := by decide +kernel
theorem dL_law_20 : decode cL_law 20 = .ok (.iconst 0, 1) := by decide +kernel
theorem dL_law_21 : decode cL_law 21 = .ok (.istore 4, 2) := by decide +kernel
theorem dL_law_23 : decode cL_law 23 = .ok (.iload 4, 2) := by decide +kernel
theorem dL_law_25 : decode cL_law 25 = .ok (.aload_n 0, 1) := by decide +kernel
theorem dL_law_26 : decode cL_law 26 = .ok (.arraylength, 1) := by decide +kernel
theorem dL_law_27 : decode cL_law 27 = .ok (.bipush 7, 2) := by decide +kernel
theorem dL_law_29 : decode cL_law 29 = .ok (.isub, 1) := by decide +kernel
theorem dL_law_30 : decode cL_law 30 = .ok (.if_icmp .gt 2295, 3) := by decide +kernel
theorem dL_law_33 : decode cL_law 33 = .ok (.aload_n 0, 1) := by decide +kernel
theorem dL_law_34 : decode cL_law 34 = .ok (.iload 4, 2) := by decide +kernel
theorem dL_law_36 : decode cL_law 36 = .ok (.iaload, 1) := by decide +kernel
theorem dL_law_37 : decode cL_law 37 = .ok (.bipush 63, 2) := by decide +kernel
theorem dL_law_39 : decode cL_law 39 = .ok (.iand, 1) := by decide +kernel
theorem dL_law_40 : decode cL_law 40 = .ok (.tableswitch 2279 0 33 #[152, 220, 300, 396, 452, 520, 588, 656, 736, 854, 910, 966, 1022, 1078, 1174, 1270, 1326, 1401, 1457, 1470, 1526, 1582, 1638, 1694, 1750, 1763, 1819, 1875, 1931, 1987, 2043, 2099, 2155, 2211], 152) := by decide +kernel
theorem dL_law_192 : decode cL_law 192 = .ok (.aload_n 1, 1) := by decide +kernel
theorem dL_law_193 : decode cL_law 193 = .ok (.aload_n 0, 1) := by decide +kernel
theorem dL_law_194 : decode cL_law 194 = .ok (.iload 4, 2) := by decide +kernel
theorem dL_law_196 : decode cL_law 196 = .ok (.iconst 1, 1) := by decide +kernel
theorem dL_law_197 : decode cL_law 197 = .ok (.iadd, 1) := by decide +kernel
theorem dL_law_198 : decode cL_law 198 = .ok (.iaload, 1) := by decide +kernel
theorem dL_law_199 : decode cL_law 199 = .ok (.aload_n 0, 1) := by decide +kernel
theorem dL_law_200 : decode cL_law 200 = .ok (.iload 4, 2) := by decide +kernel
theorem dL_law_202 : decode cL_law 202 = .ok (.iconst 2, 1) := by decide +kernel
theorem dL_law_203 : decode cL_law 203 = .ok (.iadd, 1) := by decide +kernel
theorem dL_law_204 : decode cL_law 204 = .ok (.iaload, 1) := by decide +kernel
theorem dL_law_205 : decode cL_law 205 = .ok (.aload_n 3, 1) := by decide +kernel
theorem dL_law_206 : decode cL_law 206 = .ok (.invokestatic 122, 3) := by decide +kernel
theorem dL_law_209 : decode cL_law 209 = .ok (.istore 5, 2) := by decide +kernel
theorem dL_law_211 : decode cL_law 211 = .ok (.aload_n 2, 1) := by decide +kernel
theorem dL_law_212 : decode cL_law 212 = .ok (.aload_n 0, 1) := by decide +kernel
theorem dL_law_213 : decode cL_law 213 = .ok (.iload 4, 2) := by decide +kernel
theorem dL_law_215 : decode cL_law 215 = .ok (.iconst 1, 1) := by decide +kernel
theorem dL_law_216 : decode cL_law 216 = .ok (.iadd, 1) := by decide +kernel
theorem dL_law_217 : decode cL_law 217 = .ok (.iaload, 1) := by decide +kernel
theorem dL_law_218 : decode cL_law 218 = .ok (.aload_n 0, 1) := by decide +kernel
theorem dL_law_219 : decode cL_law 219 = .ok (.iload 4, 2) := by decide +kernel
theorem dL_law_221 : decode cL_law 221 = .ok (.iconst 2, 1) := by decide +kernel
theorem dL_law_222 : decode cL_law 222 = .ok (.iadd, 1) := by decide +kernel
theorem dL_law_223 : decode cL_law 223 = .ok (.iaload, 1) := by decide +kernel
theorem dL_law_224 : decode cL_law 224 = .ok (.invokevirtual 127, 3) := by decide +kernel
theorem dL_law_227 : decode cL_law 227 = .ok (.istore 6, 2) := by decide +kernel
theorem dL_law_229 : decode cL_law 229 = .ok (.aload_n 2, 1) := by decide +kernel
theorem dL_law_230 : decode cL_law 230 = .ok (.invokevirtual 128, 3) := by decide +kernel
theorem dL_law_233 : decode cL_law 233 = .ok (.iload 5, 2) := by decide +kernel
theorem dL_law_235 : decode cL_law 235 = .ok (.if_icmp .eq 5, 3) := by decide +kernel
theorem dL_law_238 : decode cL_law 238 = .ok (.iconst 0, 1) := by decide +kernel
theorem dL_law_239 : decode cL_law 239 = .ok (.ireturn, 1) := by decide +kernel
theorem dL_law_240 : decode cL_law 240 = .ok (.iload 5, 2) := by decide +kernel
theorem dL_law_242 : decode cL_law 242 = .ok (.ifCond .ne 15, 3) := by decide +kernel
theorem dL_law_245 : decode cL_law 245 = .ok (.aload_n 3, 1) := by decide +kernel
theorem dL_law_246 : decode cL_law 246 = .ok (.iconst 0, 1) := by decide +kernel
theorem dL_law_247 : decode cL_law 247 = .ok (.laload, 1) := by decide +kernel
theorem dL_law_248 : decode cL_law 248 = .ok (.iload 6, 2) := by decide +kernel
theorem dL_law_250 : decode cL_law 250 = .ok (.i2l, 1) := by decide +kernel
theorem dL_law_251 : decode cL_law 251 = .ok (.lcmp, 1) := by decide +kernel
theorem dL_law_252 : decode cL_law 252 = .ok (.ifCond .eq 5, 3) := by decide +kernel
theorem dL_law_255 : decode cL_law 255 = .ok (.iconst 0, 1) := by decide +kernel
theorem dL_law_256 : decode cL_law 256 = .ok (.ireturn, 1) := by decide +kernel
theorem dL_law_257 : decode cL_law 257 = .ok (.goto 2062, 3) := by decide +kernel
theorem dL_law_260 : decode cL_law 260 = .ok (.aload_n 1, 1) := by decide +kernel
theorem dL_law_261 : decode cL_law 261 = .ok (.aload_n 0, 1) := by decide +kernel
theorem dL_law_262 : decode cL_law 262 = .ok (.iload 4, 2) := by decide +kernel
theorem dL_law_264 : decode cL_law 264 = .ok (.iconst 1, 1) := by decide +kernel
theorem dL_law_265 : decode cL_law 265 = .ok (.iadd, 1) := by decide +kernel
theorem dL_law_266 : decode cL_law 266 = .ok (.iaload, 1) := by decide +kernel
theorem dL_law_267 : decode cL_law 267 = .ok (.aload_n 0, 1) := by decide +kernel
theorem dL_law_268 : decode cL_law 268 = .ok (.iload 4, 2) := by decide +kernel
theorem dL_law_270 : decode cL_law 270 = .ok (.iconst 2, 1) := by decide +kernel
theorem dL_law_271 : decode cL_law 271 = .ok (.iadd, 1) := by decide +kernel
theorem dL_law_272 : decode cL_law 272 = .ok (.iaload, 1) := by decide +kernel
theorem dL_law_273 : decode cL_law 273 = .ok (.aload_n 0, 1) := by decide +kernel
theorem dL_law_274 : decode cL_law 274 = .ok (.iload 4, 2) := by decide +kernel
theorem dL_law_276 : decode cL_law 276 = .ok (.iconst 3, 1) := by decide +kernel
theorem dL_law_277 : decode cL_law 277 = .ok (.iadd, 1) := by decide +kernel
theorem dL_law_278 : decode cL_law 278 = .ok (.iaload, 1) := by decide +kernel
theorem dL_law_279 : decode cL_law 279 = .ok (.aload_n 3, 1) := by decide +kernel
theorem dL_law_280 : decode cL_law 280 = .ok (.invokestatic 132, 3) := by decide +kernel
theorem dL_law_283 : decode cL_law 283 = .ok (.istore 5, 2) := by decide +kernel
theorem dL_law_285 : decode cL_law 285 = .ok (.aload_n 2, 1) := by decide +kernel
theorem dL_law_286 : decode cL_law 286 = .ok (.aload_n 0, 1) := by decide +kernel
theorem dL_law_287 : decode cL_law 287 = .ok (.iload 4, 2) := by decide +kernel
theorem dL_law_289 : decode cL_law 289 = .ok (.iconst 1, 1) := by decide +kernel
theorem dL_law_290 : decode cL_law 290 = .ok (.iadd, 1) := by decide +kernel
theorem dL_law_291 : decode cL_law 291 = .ok (.iaload, 1) := by decide +kernel
theorem dL_law_292 : decode cL_law 292 = .ok (.aload_n 0, 1) := by decide +kernel
theorem dL_law_293 : decode cL_law 293 = .ok (.iload 4, 2) := by decide +kernel
theorem dL_law_295 : decode cL_law 295 = .ok (.iconst 2, 1) := by decide +kernel
theorem dL_law_296 : decode cL_law 296 = .ok (.iadd, 1) := by decide +kernel
theorem dL_law_297 : decode cL_law 297 = .ok (.iaload, 1) := by decide +kernel
theorem dL_law_298 : decode cL_law 298 = .ok (.aload_n 0, 1) := by decide +kernel
theorem dL_law_299 : decode cL_law 299 = .ok (.iload 4, 2) := by decide +kernel
theorem dL_law_301 : decode cL_law 301 = .ok (.iconst 3, 1) := by decide +kernel
theorem dL_law_302 : decode cL_law 302 = .ok (.iadd, 1) := by decide +kernel
theorem dL_law_303 : decode cL_law 303 = .ok (.iaload, 1) := by decide +kernel
theorem dL_law_304 : decode cL_law 304 = .ok (.invokevirtual 135, 3) := by decide +kernel
theorem dL_law_307 : decode cL_law 307 = .ok (.istore 6, 2) := by decide +kernel
theorem dL_law_309 : decode cL_law 309 = .ok (.aload_n 2, 1) := by decide +kernel
theorem dL_law_310 : decode cL_law 310 = .ok (.invokevirtual 128, 3) := by decide +kernel
theorem dL_law_313 : decode cL_law 313 = .ok (.iload 5, 2) := by decide +kernel
theorem dL_law_315 : decode cL_law 315 = .ok (.if_icmp .eq 5, 3) := by decide +kernel
theorem dL_law_318 : decode cL_law 318 = .ok (.iconst 0, 1) := by decide +kernel
theorem dL_law_319 : decode cL_law 319 = .ok (.ireturn, 1) := by decide +kernel
theorem dL_law_320 : decode cL_law 320 = .ok (.iload 5, 2) := by decide +kernel
theorem dL_law_322 : decode cL_law 322 = .ok (.ifCond .ne 15, 3) := by decide +kernel
theorem dL_law_325 : decode cL_law 325 = .ok (.aload_n 3, 1) := by decide +kernel
theorem dL_law_326 : decode cL_law 326 = .ok (.iconst 0, 1) := by decide +kernel
theorem dL_law_327 : decode cL_law 327 = .ok (.laload, 1) := by decide +kernel
theorem dL_law_328 : decode cL_law 328 = .ok (.iload 6, 2) := by decide +kernel
theorem dL_law_330 : decode cL_law 330 = .ok (.i2l, 1) := by decide +kernel
theorem dL_law_331 : decode cL_law 331 = .ok (.lcmp, 1) := by decide +kernel
theorem dL_law_332 : decode cL_law 332 = .ok (.ifCond .eq 5, 3) := by decide +kernel
theorem dL_law_335 : decode cL_law 335 = .ok (.iconst 0, 1) := by decide +kernel
theorem dL_law_336 : decode cL_law 336 = .ok (.ireturn, 1) := by decide +kernel
theorem dL_law_337 : decode cL_law 337 = .ok (.goto 1982, 3) := by decide +kernel
theorem dL_law_340 : decode cL_law 340 = .ok (.aload_n 1, 1) := by decide +kernel
theorem dL_law_341 : decode cL_law 341 = .ok (.aload_n 0, 1) := by decide +kernel
theorem dL_law_342 : decode cL_law 342 = .ok (.iload 4, 2) := by decide +kernel
theorem dL_law_344 : decode cL_law 344 = .ok (.iconst 1, 1) := by decide +kernel
theorem dL_law_345 : decode cL_law 345 = .ok (.iadd, 1) := by decide +kernel
theorem dL_law_346 : decode cL_law 346 = .ok (.iaload, 1) := by decide +kernel
theorem dL_law_347 : decode cL_law 347 = .ok (.aload_n 0, 1) := by decide +kernel
theorem dL_law_348 : decode cL_law 348 = .ok (.iload 4, 2) := by decide +kernel
theorem dL_law_350 : decode cL_law 350 = .ok (.iconst 2, 1) := by decide +kernel
theorem dL_law_351 : decode cL_law 351 = .ok (.iadd, 1) := by decide +kernel
theorem dL_law_352 : decode cL_law 352 = .ok (.iaload, 1) := by decide +kernel
theorem dL_law_353 : decode cL_law 353 = .ok (.ifCond .eq 7, 3) := by decide +kernel
theorem dL_law_356 : decode cL_law 356 = .ok (.iconst 1, 1) := by decide +kernel
theorem dL_law_357 : decode cL_law 357 = .ok (.goto 4, 3) := by decide +kernel
theorem dL_law_360 : decode cL_law 360 = .ok (.iconst 0, 1) := by decide +kernel
theorem dL_law_361 : decode cL_law 361 = .ok (.aload_n 0, 1) := by decide +kernel
theorem dL_law_362 : decode cL_law 362 = .ok (.iload 4, 2) := by decide +kernel
theorem dL_law_364 : decode cL_law 364 = .ok (.iconst 3, 1) := by decide +kernel
theorem dL_law_365 : decode cL_law 365 = .ok (.iadd, 1) := by decide +kernel
theorem dL_law_366 : decode cL_law 366 = .ok (.iaload, 1) := by decide +kernel
theorem dL_law_367 : decode cL_law 367 = .ok (.aload_n 3, 1) := by decide +kernel
theorem dL_law_368 : decode cL_law 368 = .ok (.invokestatic 136, 3) := by decide +kernel
theorem dL_law_371 : decode cL_law 371 = .ok (.istore 5, 2) := by decide +kernel
theorem dL_law_373 : decode cL_law 373 = .ok (.aload_n 2, 1) := by decide +kernel
theorem dL_law_374 : decode cL_law 374 = .ok (.aload_n 0, 1) := by decide +kernel
theorem dL_law_375 : decode cL_law 375 = .ok (.iload 4, 2) := by decide +kernel
theorem dL_law_377 : decode cL_law 377 = .ok (.iconst 1, 1) := by decide +kernel
theorem dL_law_378 : decode cL_law 378 = .ok (.iadd, 1) := by decide +kernel
theorem dL_law_379 : decode cL_law 379 = .ok (.iaload, 1) := by decide +kernel
theorem dL_law_380 : decode cL_law 380 = .ok (.aload_n 0, 1) := by decide +kernel
theorem dL_law_381 : decode cL_law 381 = .ok (.iload 4, 2) := by decide +kernel
theorem dL_law_383 : decode cL_law 383 = .ok (.iconst 2, 1) := by decide +kernel
theorem dL_law_384 : decode cL_law 384 = .ok (.iadd, 1) := by decide +kernel
theorem dL_law_385 : decode cL_law 385 = .ok (.iaload, 1) := by decide +kernel
theorem dL_law_386 : decode cL_law 386 = .ok (.ifCond .eq 7, 3) := by decide +kernel
theorem dL_law_389 : decode cL_law 389 = .ok (.iconst 1, 1) := by decide +kernel
theorem dL_law_390 : decode cL_law 390 = .ok (.goto 4, 3) := by decide +kernel
theorem dL_law_393 : decode cL_law 393 = .ok (.iconst 0, 1) := by decide +kernel
theorem dL_law_394 : decode cL_law 394 = .ok (.aload_n 0, 1) := by decide +kernel
theorem dL_law_395 : decode cL_law 395 = .ok (.iload 4, 2) := by decide +kernel
theorem dL_law_397 : decode cL_law 397 = .ok (.iconst 3, 1) := by decide +kernel
theorem dL_law_398 : decode cL_law 398 = .ok (.iadd, 1) := by decide +kernel
theorem dL_law_399 : decode cL_law 399 = .ok (.iaload, 1) := by decide +kernel
theorem dL_law_400 : decode cL_law 400 = .ok (.invokevirtual 139, 3) := by decide +kernel
theorem dL_law_403 : decode cL_law 403 = .ok (.istore 6, 2) := by decide +kernel
theorem dL_law_405 : decode cL_law 405 = .ok (.aload_n 2, 1) := by decide +kernel
theorem dL_law_406 : decode cL_law 406 = .ok (.invokevirtual 128, 3) := by decide +kernel
theorem dL_law_409 : decode cL_law 409 = .ok (.iload 5, 2) := by decide +kernel
theorem dL_law_411 : decode cL_law 411 = .ok (.if_icmp .eq 5, 3) := by decide +kernel
theorem dL_law_414 : decode cL_law 414 = .ok (.iconst 0, 1) := by decide +kernel
theorem dL_law_415 : decode cL_law 415 = .ok (.ireturn, 1) := by decide +kernel
theorem dL_law_416 : decode cL_law 416 = .ok (.iload 5, 2) := by decide +kernel
theorem dL_law_418 : decode cL_law 418 = .ok (.ifCond .ne 15, 3) := by decide +kernel
theorem dL_law_421 : decode cL_law 421 = .ok (.aload_n 3, 1) := by decide +kernel
theorem dL_law_422 : decode cL_law 422 = .ok (.iconst 0, 1) := by decide +kernel
theorem dL_law_423 : decode cL_law 423 = .ok (.laload, 1) := by decide +kernel
theorem dL_law_424 : decode cL_law 424 = .ok (.iload 6, 2) := by decide +kernel
theorem dL_law_426 : decode cL_law 426 = .ok (.i2l, 1) := by decide +kernel
theorem dL_law_427 : decode cL_law 427 = .ok (.lcmp, 1) := by decide +kernel
theorem dL_law_428 : decode cL_law 428 = .ok (.ifCond .eq 5, 3) := by decide +kernel
theorem dL_law_431 : decode cL_law 431 = .ok (.iconst 0, 1) := by decide +kernel
theorem dL_law_432 : decode cL_law 432 = .ok (.ireturn, 1) := by decide +kernel
theorem dL_law_433 : decode cL_law 433 = .ok (.goto 1886, 3) := by decide +kernel
theorem dL_law_436 : decode cL_law 436 = .ok (.aload_n 1, 1) := by decide +kernel
theorem dL_law_437 : decode cL_law 437 = .ok (.aload_n 0, 1) := by decide +kernel
theorem dL_law_438 : decode cL_law 438 = .ok (.iload 4, 2) := by decide +kernel
theorem dL_law_440 : decode cL_law 440 = .ok (.iconst 1, 1) := by decide +kernel
theorem dL_law_441 : decode cL_law 441 = .ok (.iadd, 1) := by decide +kernel
theorem dL_law_442 : decode cL_law 442 = .ok (.iaload, 1) := by decide +kernel
theorem dL_law_443 : decode cL_law 443 = .ok (.aload_n 3, 1) := by decide +kernel
theorem dL_law_444 : decode cL_law 444 = .ok (.invokestatic 140, 3) := by decide +kernel
theorem dL_law_447 : decode cL_law 447 = .ok (.istore 5, 2) := by decide +kernel
theorem dL_law_449 : decode cL_law 449 = .ok (.aload_n 2, 1) := by decide +kernel
theorem dL_law_450 : decode cL_law 450 = .ok (.aload_n 0, 1) := by decide +kernel
theorem dL_law_451 : decode cL_law 451 = .ok (.iload 4, 2) := by decide +kernel
theorem dL_law_453 : decode cL_law 453 = .ok (.iconst 1, 1) := by decide +kernel
theorem dL_law_454 : decode cL_law 454 = .ok (.iadd, 1) := by decide +kernel
theorem dL_law_455 : decode cL_law 455 = .ok (.iaload, 1) := by decide +kernel
theorem dL_law_456 : decode cL_law 456 = .ok (.invokevirtual 143, 3) := by decide +kernel
theorem dL_law_459 : decode cL_law 459 = .ok (.istore 6, 2) := by decide +kernel
theorem dL_law_461 : decode cL_law 461 = .ok (.aload_n 2, 1) := by decide +kernel
theorem dL_law_462 : decode cL_law 462 = .ok (.invokevirtual 128, 3) := by decide +kernel
theorem dL_law_465 : decode cL_law 465 = .ok (.iload 5, 2) := by decide +kernel
theorem dL_law_467 : decode cL_law 467 = .ok (.if_icmp .eq 5, 3) := by decide +kernel
theorem dL_law_470 : decode cL_law 470 = .ok (.iconst 0, 1) := by decide +kernel
theorem dL_law_471 : decode cL_law 471 = .ok (.ireturn, 1) := by decide +kernel
theorem dL_law_472 : decode cL_law 472 = .ok (.iload 5, 2) := by decide +kernel
theorem dL_law_474 : decode cL_law 474 = .ok (.ifCond .ne 15, 3) := by decide +kernel
theorem dL_law_477 : decode cL_law 477 = .ok (.aload_n 3, 1) := by decide +kernel
theorem dL_law_478 : decode cL_law 478 = .ok (.iconst 0, 1) := by decide +kernel
theorem dL_law_479 : decode cL_law 479 = .ok (.laload, 1) := by decide +kernel
theorem dL_law_480 : decode cL_law 480 = .ok (.iload 6, 2) := by decide +kernel
theorem dL_law_482 : decode cL_law 482 = .ok (.i2l, 1) := by decide +kernel
theorem dL_law_483 : decode cL_law 483 = .ok (.lcmp, 1) := by decide +kernel
theorem dL_law_484 : decode cL_law 484 = .ok (.ifCond .eq 5, 3) := by decide +kernel
theorem dL_law_487 : decode cL_law 487 = .ok (.iconst 0, 1) := by decide +kernel
theorem dL_law_488 : decode cL_law 488 = .ok (.ireturn, 1) := by decide +kernel
theorem dL_law_489 : decode cL_law 489 = .ok (.goto 1830, 3) := by decide +kernel
theorem dL_law_492 : decode cL_law 492 = .ok (.aload_n 1, 1) := by decide +kernel
theorem dL_law_493 : decode cL_law 493 = .ok (.aload_n 0, 1) := by decide +kernel
theorem dL_law_494 : decode cL_law 494 = .ok (.iload 4, 2) := by decide +kernel
theorem dL_law_496 : decode cL_law 496 = .ok (.iconst 1, 1) := by decide +kernel
theorem dL_law_497 : decode cL_law 497 = .ok (.iadd, 1) := by decide +kernel
theorem dL_law_498 : decode cL_law 498 = .ok (.iaload, 1) := by decide +kernel
theorem dL_law_499 : decode cL_law 499 = .ok (.aload_n 0, 1) := by decide +kernel
theorem dL_law_500 : decode cL_law 500 = .ok (.iload 4, 2) := by decide +kernel
theorem dL_law_502 : decode cL_law 502 = .ok (.iconst 2, 1) := by decide +kernel
theorem dL_law_503 : decode cL_law 503 = .ok (.iadd, 1) := by decide +kernel
theorem dL_law_504 : decode cL_law 504 = .ok (.iaload, 1) := by decide +kernel
theorem dL_law_505 : decode cL_law 505 = .ok (.aload_n 3, 1) := by decide +kernel
theorem dL_law_506 : decode cL_law 506 = .ok (.invokestatic 144, 3) := by decide +kernel
theorem dL_law_509 : decode cL_law 509 = .ok (.istore 5, 2) := by decide +kernel
theorem dL_law_511 : decode cL_law 511 = .ok (.aload_n 2, 1) := by decide +kernel
theorem dL_law_512 : decode cL_law 512 = .ok (.aload_n 0, 1) := by decide +kernel
theorem dL_law_513 : decode cL_law 513 = .ok (.iload 4, 2) := by decide +kernel
theorem dL_law_515 : decode cL_law 515 = .ok (.iconst 1, 1) := by decide +kernel
theorem dL_law_516 : decode cL_law 516 = .ok (.iadd, 1) := by decide +kernel
theorem dL_law_517 : decode cL_law 517 = .ok (.iaload, 1) := by decide +kernel
theorem dL_law_518 : decode cL_law 518 = .ok (.aload_n 0, 1) := by decide +kernel
theorem dL_law_519 : decode cL_law 519 = .ok (.iload 4, 2) := by decide +kernel
theorem dL_law_521 : decode cL_law 521 = .ok (.iconst 2, 1) := by decide +kernel
theorem dL_law_522 : decode cL_law 522 = .ok (.iadd, 1) := by decide +kernel
theorem dL_law_523 : decode cL_law 523 = .ok (.iaload, 1) := by decide +kernel
theorem dL_law_524 : decode cL_law 524 = .ok (.invokevirtual 146, 3) := by decide +kernel
theorem dL_law_527 : decode cL_law 527 = .ok (.istore 6, 2) := by decide +kernel
theorem dL_law_529 : decode cL_law 529 = .ok (.aload_n 2, 1) := by decide +kernel
theorem dL_law_530 : decode cL_law 530 = .ok (.invokevirtual 128, 3) := by decide +kernel
theorem dL_law_533 : decode cL_law 533 = .ok (.iload 5, 2) := by decide +kernel
theorem dL_law_535 : decode cL_law 535 = .ok (.if_icmp .eq 5, 3) := by decide +kernel
theorem dL_law_538 : decode cL_law 538 = .ok (.iconst 0, 1) := by decide +kernel
theorem dL_law_539 : decode cL_law 539 = .ok (.ireturn, 1) := by decide +kernel
theorem dL_law_540 : decode cL_law 540 = .ok (.iload 5, 2) := by decide +kernel
theorem dL_law_542 : decode cL_law 542 = .ok (.ifCond .ne 15, 3) := by decide +kernel
theorem dL_law_545 : decode cL_law 545 = .ok (.aload_n 3, 1) := by decide +kernel
theorem dL_law_546 : decode cL_law 546 = .ok (.iconst 0, 1) := by decide +kernel
theorem dL_law_547 : decode cL_law 547 = .ok (.laload, 1) := by decide +kernel
theorem dL_law_548 : decode cL_law 548 = .ok (.iload 6, 2) := by decide +kernel
theorem dL_law_550 : decode cL_law 550 = .ok (.i2l, 1) := by decide +kernel
theorem dL_law_551 : decode cL_law 551 = .ok (.lcmp, 1) := by decide +kernel
theorem dL_law_552 : decode cL_law 552 = .ok (.ifCond .eq 5, 3) := by decide +kernel
theorem dL_law_555 : decode cL_law 555 = .ok (.iconst 0, 1) := by decide +kernel
theorem dL_law_556 : decode cL_law 556 = .ok (.ireturn, 1) := by decide +kernel
theorem dL_law_557 : decode cL_law 557 = .ok (.goto 1762, 3) := by decide +kernel
theorem dL_law_560 : decode cL_law 560 = .ok (.aload_n 1, 1) := by decide +kernel
theorem dL_law_561 : decode cL_law 561 = .ok (.aload_n 0, 1) := by decide +kernel
theorem dL_law_562 : decode cL_law 562 = .ok (.iload 4, 2) := by decide +kernel
theorem dL_law_564 : decode cL_law 564 = .ok (.iconst 1, 1) := by decide +kernel
theorem dL_law_565 : decode cL_law 565 = .ok (.iadd, 1) := by decide +kernel
theorem dL_law_566 : decode cL_law 566 = .ok (.iaload, 1) := by decide +kernel
theorem dL_law_567 : decode cL_law 567 = .ok (.aload_n 0, 1) := by decide +kernel
theorem dL_law_568 : decode cL_law 568 = .ok (.iload 4, 2) := by decide +kernel
theorem dL_law_570 : decode cL_law 570 = .ok (.iconst 2, 1) := by decide +kernel
theorem dL_law_571 : decode cL_law 571 = .ok (.iadd, 1) := by decide +kernel
theorem dL_law_572 : decode cL_law 572 = .ok (.iaload, 1) := by decide +kernel
theorem dL_law_573 : decode cL_law 573 = .ok (.aload_n 3, 1) := by decide +kernel
theorem dL_law_574 : decode cL_law 574 = .ok (.invokestatic 147, 3) := by decide +kernel
theorem dL_law_577 : decode cL_law 577 = .ok (.istore 5, 2) := by decide +kernel
theorem dL_law_579 : decode cL_law 579 = .ok (.aload_n 2, 1) := by decide +kernel
theorem dL_law_580 : decode cL_law 580 = .ok (.aload_n 0, 1) := by decide +kernel
theorem dL_law_581 : decode cL_law 581 = .ok (.iload 4, 2) := by decide +kernel
theorem dL_law_583 : decode cL_law 583 = .ok (.iconst 1, 1) := by decide +kernel
theorem dL_law_584 : decode cL_law 584 = .ok (.iadd, 1) := by decide +kernel
theorem dL_law_585 : decode cL_law 585 = .ok (.iaload, 1) := by decide +kernel
theorem dL_law_586 : decode cL_law 586 = .ok (.aload_n 0, 1) := by decide +kernel
theorem dL_law_587 : decode cL_law 587 = .ok (.iload 4, 2) := by decide +kernel
theorem dL_law_589 : decode cL_law 589 = .ok (.iconst 2, 1) := by decide +kernel
theorem dL_law_590 : decode cL_law 590 = .ok (.iadd, 1) := by decide +kernel
theorem dL_law_591 : decode cL_law 591 = .ok (.iaload, 1) := by decide +kernel
theorem dL_law_592 : decode cL_law 592 = .ok (.invokevirtual 149, 3) := by decide +kernel
theorem dL_law_595 : decode cL_law 595 = .ok (.istore 6, 2) := by decide +kernel
theorem dL_law_597 : decode cL_law 597 = .ok (.aload_n 2, 1) := by decide +kernel
theorem dL_law_598 : decode cL_law 598 = .ok (.invokevirtual 128, 3) := by decide +kernel
theorem dL_law_601 : decode cL_law 601 = .ok (.iload 5, 2) := by decide +kernel
theorem dL_law_603 : decode cL_law 603 = .ok (.if_icmp .eq 5, 3) := by decide +kernel
theorem dL_law_606 : decode cL_law 606 = .ok (.iconst 0, 1) := by decide +kernel
theorem dL_law_607 : decode cL_law 607 = .ok (.ireturn, 1) := by decide +kernel
theorem dL_law_608 : decode cL_law 608 = .ok (.iload 5, 2) := by decide +kernel
theorem dL_law_610 : decode cL_law 610 = .ok (.ifCond .ne 15, 3) := by decide +kernel
theorem dL_law_613 : decode cL_law 613 = .ok (.aload_n 3, 1) := by decide +kernel
theorem dL_law_614 : decode cL_law 614 = .ok (.iconst 0, 1) := by decide +kernel
theorem dL_law_615 : decode cL_law 615 = .ok (.laload, 1) := by decide +kernel
theorem dL_law_616 : decode cL_law 616 = .ok (.iload 6, 2) := by decide +kernel
theorem dL_law_618 : decode cL_law 618 = .ok (.i2l, 1) := by decide +kernel
theorem dL_law_619 : decode cL_law 619 = .ok (.lcmp, 1) := by decide +kernel
theorem dL_law_620 : decode cL_law 620 = .ok (.ifCond .eq 5, 3) := by decide +kernel
theorem dL_law_623 : decode cL_law 623 = .ok (.iconst 0, 1) := by decide +kernel
theorem dL_law_624 : decode cL_law 624 = .ok (.ireturn, 1) := by decide +kernel
theorem dL_law_625 : decode cL_law 625 = .ok (.goto 1694, 3) := by decide +kernel
theorem dL_law_628 : decode cL_law 628 = .ok (.aload_n 1, 1) := by decide +kernel
theorem dL_law_629 : decode cL_law 629 = .ok (.aload_n 0, 1) := by decide +kernel
theorem dL_law_630 : decode cL_law 630 = .ok (.iload 4, 2) := by decide +kernel
theorem dL_law_632 : decode cL_law 632 = .ok (.iconst 1, 1) := by decide +kernel
theorem dL_law_633 : decode cL_law 633 = .ok (.iadd, 1) := by decide +kernel
theorem dL_law_634 : decode cL_law 634 = .ok (.iaload, 1) := by decide +kernel
theorem dL_law_635 : decode cL_law 635 = .ok (.aload_n 0, 1) := by decide +kernel
theorem dL_law_636 : decode cL_law 636 = .ok (.iload 4, 2) := by decide +kernel
theorem dL_law_638 : decode cL_law 638 = .ok (.iconst 2, 1) := by decide +kernel
theorem dL_law_639 : decode cL_law 639 = .ok (.iadd, 1) := by decide +kernel
theorem dL_law_640 : decode cL_law 640 = .ok (.iaload, 1) := by decide +kernel
theorem dL_law_641 : decode cL_law 641 = .ok (.aload_n 3, 1) := by decide +kernel
theorem dL_law_642 : decode cL_law 642 = .ok (.invokestatic 150, 3) := by decide +kernel
theorem dL_law_645 : decode cL_law 645 = .ok (.istore 5, 2) := by decide +kernel
theorem dL_law_647 : decode cL_law 647 = .ok (.aload_n 2, 1) := by decide +kernel
theorem dL_law_648 : decode cL_law 648 = .ok (.aload_n 0, 1) := by decide +kernel
theorem dL_law_649 : decode cL_law 649 = .ok (.iload 4, 2) := by decide +kernel
theorem dL_law_651 : decode cL_law 651 = .ok (.iconst 1, 1) := by decide +kernel
theorem dL_law_652 : decode cL_law 652 = .ok (.iadd, 1) := by decide +kernel
theorem dL_law_653 : decode cL_law 653 = .ok (.iaload, 1) := by decide +kernel
theorem dL_law_654 : decode cL_law 654 = .ok (.aload_n 0, 1) := by decide +kernel
theorem dL_law_655 : decode cL_law 655 = .ok (.iload 4, 2) := by decide +kernel
theorem dL_law_657 : decode cL_law 657 = .ok (.iconst 2, 1) := by decide +kernel
theorem dL_law_658 : decode cL_law 658 = .ok (.iadd, 1) := by decide +kernel
theorem dL_law_659 : decode cL_law 659 = .ok (.iaload, 1) := by decide +kernel
theorem dL_law_660 : decode cL_law 660 = .ok (.invokevirtual 152, 3) := by decide +kernel
theorem dL_law_663 : decode cL_law 663 = .ok (.istore 6, 2) := by decide +kernel
theorem dL_law_665 : decode cL_law 665 = .ok (.aload_n 2, 1) := by decide +kernel
theorem dL_law_666 : decode cL_law 666 = .ok (.invokevirtual 128, 3) := by decide +kernel
theorem dL_law_669 : decode cL_law 669 = .ok (.iload 5, 2) := by decide +kernel
theorem dL_law_671 : decode cL_law 671 = .ok (.if_icmp .eq 5, 3) := by decide +kernel
theorem dL_law_674 : decode cL_law 674 = .ok (.iconst 0, 1) := by decide +kernel
theorem dL_law_675 : decode cL_law 675 = .ok (.ireturn, 1) := by decide +kernel
theorem dL_law_676 : decode cL_law 676 = .ok (.iload 5, 2) := by decide +kernel
theorem dL_law_678 : decode cL_law 678 = .ok (.ifCond .ne 15, 3) := by decide +kernel
theorem dL_law_681 : decode cL_law 681 = .ok (.aload_n 3, 1) := by decide +kernel
theorem dL_law_682 : decode cL_law 682 = .ok (.iconst 0, 1) := by decide +kernel
theorem dL_law_683 : decode cL_law 683 = .ok (.laload, 1) := by decide +kernel
theorem dL_law_684 : decode cL_law 684 = .ok (.iload 6, 2) := by decide +kernel
theorem dL_law_686 : decode cL_law 686 = .ok (.i2l, 1) := by decide +kernel
theorem dL_law_687 : decode cL_law 687 = .ok (.lcmp, 1) := by decide +kernel
theorem dL_law_688 : decode cL_law 688 = .ok (.ifCond .eq 5, 3) := by decide +kernel
theorem dL_law_691 : decode cL_law 691 = .ok (.iconst 0, 1) := by decide +kernel
theorem dL_law_692 : decode cL_law 692 = .ok (.ireturn, 1) := by decide +kernel
theorem dL_law_693 : decode cL_law 693 = .ok (.goto 1626, 3) := by decide +kernel
theorem dL_law_696 : decode cL_law 696 = .ok (.aload_n 1, 1) := by decide +kernel
theorem dL_law_697 : decode cL_law 697 = .ok (.aload_n 0, 1) := by decide +kernel
theorem dL_law_698 : decode cL_law 698 = .ok (.iload 4, 2) := by decide +kernel
theorem dL_law_700 : decode cL_law 700 = .ok (.iconst 1, 1) := by decide +kernel
theorem dL_law_701 : decode cL_law 701 = .ok (.iadd, 1) := by decide +kernel
theorem dL_law_702 : decode cL_law 702 = .ok (.iaload, 1) := by decide +kernel
theorem dL_law_703 : decode cL_law 703 = .ok (.aload_n 0, 1) := by decide +kernel
theorem dL_law_704 : decode cL_law 704 = .ok (.iload 4, 2) := by decide +kernel
theorem dL_law_706 : decode cL_law 706 = .ok (.iconst 2, 1) := by decide +kernel
theorem dL_law_707 : decode cL_law 707 = .ok (.iadd, 1) := by decide +kernel
theorem dL_law_708 : decode cL_law 708 = .ok (.iaload, 1) := by decide +kernel
theorem dL_law_709 : decode cL_law 709 = .ok (.aload_n 0, 1) := by decide +kernel
theorem dL_law_710 : decode cL_law 710 = .ok (.iload 4, 2) := by decide +kernel
theorem dL_law_712 : decode cL_law 712 = .ok (.iconst 3, 1) := by decide +kernel
theorem dL_law_713 : decode cL_law 713 = .ok (.iadd, 1) := by decide +kernel
theorem dL_law_714 : decode cL_law 714 = .ok (.iaload, 1) := by decide +kernel
theorem dL_law_715 : decode cL_law 715 = .ok (.aload_n 3, 1) := by decide +kernel
theorem dL_law_716 : decode cL_law 716 = .ok (.invokestatic 153, 3) := by decide +kernel
theorem dL_law_719 : decode cL_law 719 = .ok (.istore 5, 2) := by decide +kernel
theorem dL_law_721 : decode cL_law 721 = .ok (.aload_n 2, 1) := by decide +kernel
theorem dL_law_722 : decode cL_law 722 = .ok (.aload_n 0, 1) := by decide +kernel
theorem dL_law_723 : decode cL_law 723 = .ok (.iload 4, 2) := by decide +kernel
theorem dL_law_725 : decode cL_law 725 = .ok (.iconst 1, 1) := by decide +kernel
theorem dL_law_726 : decode cL_law 726 = .ok (.iadd, 1) := by decide +kernel
theorem dL_law_727 : decode cL_law 727 = .ok (.iaload, 1) := by decide +kernel
theorem dL_law_728 : decode cL_law 728 = .ok (.aload_n 0, 1) := by decide +kernel
theorem dL_law_729 : decode cL_law 729 = .ok (.iload 4, 2) := by decide +kernel
theorem dL_law_731 : decode cL_law 731 = .ok (.iconst 2, 1) := by decide +kernel
theorem dL_law_732 : decode cL_law 732 = .ok (.iadd, 1) := by decide +kernel
theorem dL_law_733 : decode cL_law 733 = .ok (.iaload, 1) := by decide +kernel
theorem dL_law_734 : decode cL_law 734 = .ok (.aload_n 0, 1) := by decide +kernel
theorem dL_law_735 : decode cL_law 735 = .ok (.iload 4, 2) := by decide +kernel
theorem dL_law_737 : decode cL_law 737 = .ok (.iconst 3, 1) := by decide +kernel
theorem dL_law_738 : decode cL_law 738 = .ok (.iadd, 1) := by decide +kernel
theorem dL_law_739 : decode cL_law 739 = .ok (.iaload, 1) := by decide +kernel
theorem dL_law_740 : decode cL_law 740 = .ok (.invokevirtual 155, 3) := by decide +kernel
theorem dL_law_743 : decode cL_law 743 = .ok (.istore 6, 2) := by decide +kernel
theorem dL_law_745 : decode cL_law 745 = .ok (.aload_n 2, 1) := by decide +kernel
theorem dL_law_746 : decode cL_law 746 = .ok (.invokevirtual 128, 3) := by decide +kernel
theorem dL_law_749 : decode cL_law 749 = .ok (.iload 5, 2) := by decide +kernel
theorem dL_law_751 : decode cL_law 751 = .ok (.if_icmp .eq 5, 3) := by decide +kernel
theorem dL_law_754 : decode cL_law 754 = .ok (.iconst 0, 1) := by decide +kernel
theorem dL_law_755 : decode cL_law 755 = .ok (.ireturn, 1) := by decide +kernel
theorem dL_law_756 : decode cL_law 756 = .ok (.iload 5, 2) := by decide +kernel
theorem dL_law_758 : decode cL_law 758 = .ok (.ifCond .ne 15, 3) := by decide +kernel
theorem dL_law_761 : decode cL_law 761 = .ok (.aload_n 3, 1) := by decide +kernel
theorem dL_law_762 : decode cL_law 762 = .ok (.iconst 0, 1) := by decide +kernel
theorem dL_law_763 : decode cL_law 763 = .ok (.laload, 1) := by decide +kernel
theorem dL_law_764 : decode cL_law 764 = .ok (.iload 6, 2) := by decide +kernel
theorem dL_law_766 : decode cL_law 766 = .ok (.i2l, 1) := by decide +kernel
theorem dL_law_767 : decode cL_law 767 = .ok (.lcmp, 1) := by decide +kernel
theorem dL_law_768 : decode cL_law 768 = .ok (.ifCond .eq 5, 3) := by decide +kernel
theorem dL_law_771 : decode cL_law 771 = .ok (.iconst 0, 1) := by decide +kernel
theorem dL_law_772 : decode cL_law 772 = .ok (.ireturn, 1) := by decide +kernel
theorem dL_law_773 : decode cL_law 773 = .ok (.goto 1546, 3) := by decide +kernel
theorem dL_law_776 : decode cL_law 776 = .ok (.aload_n 1, 1) := by decide +kernel
theorem dL_law_777 : decode cL_law 777 = .ok (.aload_n 0, 1) := by decide +kernel
theorem dL_law_778 : decode cL_law 778 = .ok (.iload 4, 2) := by decide +kernel
theorem dL_law_780 : decode cL_law 780 = .ok (.iconst 1, 1) := by decide +kernel
theorem dL_law_781 : decode cL_law 781 = .ok (.iadd, 1) := by decide +kernel
theorem dL_law_782 : decode cL_law 782 = .ok (.iaload, 1) := by decide +kernel
theorem dL_law_783 : decode cL_law 783 = .ok (.aload_n 0, 1) := by decide +kernel
theorem dL_law_784 : decode cL_law 784 = .ok (.iload 4, 2) := by decide +kernel
theorem dL_law_786 : decode cL_law 786 = .ok (.iconst 2, 1) := by decide +kernel
theorem dL_law_787 : decode cL_law 787 = .ok (.iadd, 1) := by decide +kernel
theorem dL_law_788 : decode cL_law 788 = .ok (.iaload, 1) := by decide +kernel
theorem dL_law_789 : decode cL_law 789 = .ok (.aload_n 0, 1) := by decide +kernel
theorem dL_law_790 : decode cL_law 790 = .ok (.iload 4, 2) := by decide +kernel
theorem dL_law_792 : decode cL_law 792 = .ok (.iconst 3, 1) := by decide +kernel
theorem dL_law_793 : decode cL_law 793 = .ok (.iadd, 1) := by decide +kernel
theorem dL_law_794 : decode cL_law 794 = .ok (.iaload, 1) := by decide +kernel
theorem dL_law_795 : decode cL_law 795 = .ok (.aload_n 0, 1) := by decide +kernel
theorem dL_law_796 : decode cL_law 796 = .ok (.iload 4, 2) := by decide +kernel
theorem dL_law_798 : decode cL_law 798 = .ok (.iconst 4, 1) := by decide +kernel
theorem dL_law_799 : decode cL_law 799 = .ok (.iadd, 1) := by decide +kernel
theorem dL_law_800 : decode cL_law 800 = .ok (.iaload, 1) := by decide +kernel
theorem dL_law_801 : decode cL_law 801 = .ok (.aload_n 0, 1) := by decide +kernel
theorem dL_law_802 : decode cL_law 802 = .ok (.iload 4, 2) := by decide +kernel
theorem dL_law_804 : decode cL_law 804 = .ok (.iconst 5, 1) := by decide +kernel
theorem dL_law_805 : decode cL_law 805 = .ok (.iadd, 1) := by decide +kernel
theorem dL_law_806 : decode cL_law 806 = .ok (.iaload, 1) := by decide +kernel
theorem dL_law_807 : decode cL_law 807 = .ok (.aload_n 0, 1) := by decide +kernel
theorem dL_law_808 : decode cL_law 808 = .ok (.iload 4, 2) := by decide +kernel
theorem dL_law_810 : decode cL_law 810 = .ok (.bipush 6, 2) := by decide +kernel
theorem dL_law_812 : decode cL_law 812 = .ok (.iadd, 1) := by decide +kernel
theorem dL_law_813 : decode cL_law 813 = .ok (.iaload, 1) := by decide +kernel
theorem dL_law_814 : decode cL_law 814 = .ok (.aload_n 3, 1) := by decide +kernel
theorem dL_law_815 : decode cL_law 815 = .ok (.invokestatic 156, 3) := by decide +kernel
theorem dL_law_818 : decode cL_law 818 = .ok (.istore 5, 2) := by decide +kernel
theorem dL_law_820 : decode cL_law 820 = .ok (.aload_n 2, 1) := by decide +kernel
theorem dL_law_821 : decode cL_law 821 = .ok (.aload_n 0, 1) := by decide +kernel
theorem dL_law_822 : decode cL_law 822 = .ok (.iload 4, 2) := by decide +kernel
theorem dL_law_824 : decode cL_law 824 = .ok (.iconst 1, 1) := by decide +kernel
theorem dL_law_825 : decode cL_law 825 = .ok (.iadd, 1) := by decide +kernel
theorem dL_law_826 : decode cL_law 826 = .ok (.iaload, 1) := by decide +kernel
theorem dL_law_827 : decode cL_law 827 = .ok (.aload_n 0, 1) := by decide +kernel
theorem dL_law_828 : decode cL_law 828 = .ok (.iload 4, 2) := by decide +kernel
theorem dL_law_830 : decode cL_law 830 = .ok (.iconst 2, 1) := by decide +kernel
theorem dL_law_831 : decode cL_law 831 = .ok (.iadd, 1) := by decide +kernel
theorem dL_law_832 : decode cL_law 832 = .ok (.iaload, 1) := by decide +kernel
theorem dL_law_833 : decode cL_law 833 = .ok (.aload_n 0, 1) := by decide +kernel
theorem dL_law_834 : decode cL_law 834 = .ok (.iload 4, 2) := by decide +kernel
theorem dL_law_836 : decode cL_law 836 = .ok (.iconst 3, 1) := by decide +kernel
theorem dL_law_837 : decode cL_law 837 = .ok (.iadd, 1) := by decide +kernel
theorem dL_law_838 : decode cL_law 838 = .ok (.iaload, 1) := by decide +kernel
theorem dL_law_839 : decode cL_law 839 = .ok (.aload_n 0, 1) := by decide +kernel
theorem dL_law_840 : decode cL_law 840 = .ok (.iload 4, 2) := by decide +kernel
theorem dL_law_842 : decode cL_law 842 = .ok (.iconst 4, 1) := by decide +kernel
theorem dL_law_843 : decode cL_law 843 = .ok (.iadd, 1) := by decide +kernel
theorem dL_law_844 : decode cL_law 844 = .ok (.iaload, 1) := by decide +kernel
theorem dL_law_845 : decode cL_law 845 = .ok (.aload_n 0, 1) := by decide +kernel
theorem dL_law_846 : decode cL_law 846 = .ok (.iload 4, 2) := by decide +kernel
theorem dL_law_848 : decode cL_law 848 = .ok (.iconst 5, 1) := by decide +kernel
theorem dL_law_849 : decode cL_law 849 = .ok (.iadd, 1) := by decide +kernel
theorem dL_law_850 : decode cL_law 850 = .ok (.iaload, 1) := by decide +kernel
theorem dL_law_851 : decode cL_law 851 = .ok (.aload_n 0, 1) := by decide +kernel
theorem dL_law_852 : decode cL_law 852 = .ok (.iload 4, 2) := by decide +kernel
theorem dL_law_854 : decode cL_law 854 = .ok (.bipush 6, 2) := by decide +kernel
theorem dL_law_856 : decode cL_law 856 = .ok (.iadd, 1) := by decide +kernel
theorem dL_law_857 : decode cL_law 857 = .ok (.iaload, 1) := by decide +kernel
theorem dL_law_858 : decode cL_law 858 = .ok (.invokevirtual 159, 3) := by decide +kernel
theorem dL_law_861 : decode cL_law 861 = .ok (.istore 6, 2) := by decide +kernel
theorem dL_law_863 : decode cL_law 863 = .ok (.aload_n 2, 1) := by decide +kernel
theorem dL_law_864 : decode cL_law 864 = .ok (.invokevirtual 128, 3) := by decide +kernel
theorem dL_law_867 : decode cL_law 867 = .ok (.iload 5, 2) := by decide +kernel
theorem dL_law_869 : decode cL_law 869 = .ok (.if_icmp .eq 5, 3) := by decide +kernel
theorem dL_law_872 : decode cL_law 872 = .ok (.iconst 0, 1) := by decide +kernel
theorem dL_law_873 : decode cL_law 873 = .ok (.ireturn, 1) := by decide +kernel
theorem dL_law_874 : decode cL_law 874 = .ok (.iload 5, 2) := by decide +kernel
theorem dL_law_876 : decode cL_law 876 = .ok (.ifCond .ne 15, 3) := by decide +kernel
theorem dL_law_879 : decode cL_law 879 = .ok (.aload_n 3, 1) := by decide +kernel
theorem dL_law_880 : decode cL_law 880 = .ok (.iconst 0, 1) := by decide +kernel
theorem dL_law_881 : decode cL_law 881 = .ok (.laload, 1) := by decide +kernel
theorem dL_law_882 : decode cL_law 882 = .ok (.iload 6, 2) := by decide +kernel
theorem dL_law_884 : decode cL_law 884 = .ok (.i2l, 1) := by decide +kernel
theorem dL_law_885 : decode cL_law 885 = .ok (.lcmp, 1) := by decide +kernel
theorem dL_law_886 : decode cL_law 886 = .ok (.ifCond .eq 5, 3) := by decide +kernel
theorem dL_law_889 : decode cL_law 889 = .ok (.iconst 0, 1) := by decide +kernel
theorem dL_law_890 : decode cL_law 890 = .ok (.ireturn, 1) := by decide +kernel
theorem dL_law_891 : decode cL_law 891 = .ok (.goto 1428, 3) := by decide +kernel
theorem dL_law_894 : decode cL_law 894 = .ok (.aload_n 1, 1) := by decide +kernel
theorem dL_law_895 : decode cL_law 895 = .ok (.aload_n 0, 1) := by decide +kernel
theorem dL_law_896 : decode cL_law 896 = .ok (.iload 4, 2) := by decide +kernel
theorem dL_law_898 : decode cL_law 898 = .ok (.iconst 1, 1) := by decide +kernel
theorem dL_law_899 : decode cL_law 899 = .ok (.iadd, 1) := by decide +kernel
theorem dL_law_900 : decode cL_law 900 = .ok (.iaload, 1) := by decide +kernel
theorem dL_law_901 : decode cL_law 901 = .ok (.aload_n 3, 1) := by decide +kernel
theorem dL_law_902 : decode cL_law 902 = .ok (.invokestatic 160, 3) := by decide +kernel
theorem dL_law_905 : decode cL_law 905 = .ok (.istore 5, 2) := by decide +kernel
theorem dL_law_907 : decode cL_law 907 = .ok (.aload_n 2, 1) := by decide +kernel
theorem dL_law_908 : decode cL_law 908 = .ok (.aload_n 0, 1) := by decide +kernel
theorem dL_law_909 : decode cL_law 909 = .ok (.iload 4, 2) := by decide +kernel
theorem dL_law_911 : decode cL_law 911 = .ok (.iconst 1, 1) := by decide +kernel
theorem dL_law_912 : decode cL_law 912 = .ok (.iadd, 1) := by decide +kernel
theorem dL_law_913 : decode cL_law 913 = .ok (.iaload, 1) := by decide +kernel
theorem dL_law_914 : decode cL_law 914 = .ok (.invokevirtual 162, 3) := by decide +kernel
theorem dL_law_917 : decode cL_law 917 = .ok (.istore 6, 2) := by decide +kernel
theorem dL_law_919 : decode cL_law 919 = .ok (.aload_n 2, 1) := by decide +kernel
theorem dL_law_920 : decode cL_law 920 = .ok (.invokevirtual 128, 3) := by decide +kernel
theorem dL_law_923 : decode cL_law 923 = .ok (.iload 5, 2) := by decide +kernel
theorem dL_law_925 : decode cL_law 925 = .ok (.if_icmp .eq 5, 3) := by decide +kernel
theorem dL_law_928 : decode cL_law 928 = .ok (.iconst 0, 1) := by decide +kernel
theorem dL_law_929 : decode cL_law 929 = .ok (.ireturn, 1) := by decide +kernel
theorem dL_law_930 : decode cL_law 930 = .ok (.iload 5, 2) := by decide +kernel
theorem dL_law_932 : decode cL_law 932 = .ok (.ifCond .ne 15, 3) := by decide +kernel
theorem dL_law_935 : decode cL_law 935 = .ok (.aload_n 3, 1) := by decide +kernel
theorem dL_law_936 : decode cL_law 936 = .ok (.iconst 0, 1) := by decide +kernel
theorem dL_law_937 : decode cL_law 937 = .ok (.laload, 1) := by decide +kernel
theorem dL_law_938 : decode cL_law 938 = .ok (.iload 6, 2) := by decide +kernel
theorem dL_law_940 : decode cL_law 940 = .ok (.i2l, 1) := by decide +kernel
theorem dL_law_941 : decode cL_law 941 = .ok (.lcmp, 1) := by decide +kernel
theorem dL_law_942 : decode cL_law 942 = .ok (.ifCond .eq 5, 3) := by decide +kernel
theorem dL_law_945 : decode cL_law 945 = .ok (.iconst 0, 1) := by decide +kernel
theorem dL_law_946 : decode cL_law 946 = .ok (.ireturn, 1) := by decide +kernel
theorem dL_law_947 : decode cL_law 947 = .ok (.goto 1372, 3) := by decide +kernel
theorem dL_law_950 : decode cL_law 950 = .ok (.aload_n 1, 1) := by decide +kernel
theorem dL_law_951 : decode cL_law 951 = .ok (.aload_n 0, 1) := by decide +kernel
theorem dL_law_952 : decode cL_law 952 = .ok (.iload 4, 2) := by decide +kernel
theorem dL_law_954 : decode cL_law 954 = .ok (.iconst 1, 1) := by decide +kernel
theorem dL_law_955 : decode cL_law 955 = .ok (.iadd, 1) := by decide +kernel
theorem dL_law_956 : decode cL_law 956 = .ok (.iaload, 1) := by decide +kernel
theorem dL_law_957 : decode cL_law 957 = .ok (.aload_n 3, 1) := by decide +kernel
theorem dL_law_958 : decode cL_law 958 = .ok (.invokestatic 163, 3) := by decide +kernel
theorem dL_law_961 : decode cL_law 961 = .ok (.istore 5, 2) := by decide +kernel
theorem dL_law_963 : decode cL_law 963 = .ok (.aload_n 2, 1) := by decide +kernel
theorem dL_law_964 : decode cL_law 964 = .ok (.aload_n 0, 1) := by decide +kernel
theorem dL_law_965 : decode cL_law 965 = .ok (.iload 4, 2) := by decide +kernel
theorem dL_law_967 : decode cL_law 967 = .ok (.iconst 1, 1) := by decide +kernel
theorem dL_law_968 : decode cL_law 968 = .ok (.iadd, 1) := by decide +kernel
theorem dL_law_969 : decode cL_law 969 = .ok (.iaload, 1) := by decide +kernel
theorem dL_law_970 : decode cL_law 970 = .ok (.invokevirtual 165, 3) := by decide +kernel
theorem dL_law_973 : decode cL_law 973 = .ok (.istore 6, 2) := by decide +kernel
theorem dL_law_975 : decode cL_law 975 = .ok (.aload_n 2, 1) := by decide +kernel
theorem dL_law_976 : decode cL_law 976 = .ok (.invokevirtual 128, 3) := by decide +kernel
theorem dL_law_979 : decode cL_law 979 = .ok (.iload 5, 2) := by decide +kernel
theorem dL_law_981 : decode cL_law 981 = .ok (.if_icmp .eq 5, 3) := by decide +kernel
theorem dL_law_984 : decode cL_law 984 = .ok (.iconst 0, 1) := by decide +kernel
theorem dL_law_985 : decode cL_law 985 = .ok (.ireturn, 1) := by decide +kernel
theorem dL_law_986 : decode cL_law 986 = .ok (.iload 5, 2) := by decide +kernel
theorem dL_law_988 : decode cL_law 988 = .ok (.ifCond .ne 15, 3) := by decide +kernel
theorem dL_law_991 : decode cL_law 991 = .ok (.aload_n 3, 1) := by decide +kernel
theorem dL_law_992 : decode cL_law 992 = .ok (.iconst 0, 1) := by decide +kernel
theorem dL_law_993 : decode cL_law 993 = .ok (.laload, 1) := by decide +kernel
theorem dL_law_994 : decode cL_law 994 = .ok (.iload 6, 2) := by decide +kernel
theorem dL_law_996 : decode cL_law 996 = .ok (.i2l, 1) := by decide +kernel
theorem dL_law_997 : decode cL_law 997 = .ok (.lcmp, 1) := by decide +kernel
theorem dL_law_998 : decode cL_law 998 = .ok (.ifCond .eq 5, 3) := by decide +kernel
theorem dL_law_1001 : decode cL_law 1001 = .ok (.iconst 0, 1) := by decide +kernel
theorem dL_law_1002 : decode cL_law 1002 = .ok (.ireturn, 1) := by decide +kernel
theorem dL_law_1003 : decode cL_law 1003 = .ok (.goto 1316, 3) := by decide +kernel
theorem dL_law_1006 : decode cL_law 1006 = .ok (.aload_n 1, 1) := by decide +kernel
theorem dL_law_1007 : decode cL_law 1007 = .ok (.aload_n 0, 1) := by decide +kernel
theorem dL_law_1008 : decode cL_law 1008 = .ok (.iload 4, 2) := by decide +kernel
theorem dL_law_1010 : decode cL_law 1010 = .ok (.iconst 1, 1) := by decide +kernel
theorem dL_law_1011 : decode cL_law 1011 = .ok (.iadd, 1) := by decide +kernel
theorem dL_law_1012 : decode cL_law 1012 = .ok (.iaload, 1) := by decide +kernel
theorem dL_law_1013 : decode cL_law 1013 = .ok (.aload_n 3, 1) := by decide +kernel
theorem dL_law_1014 : decode cL_law 1014 = .ok (.invokestatic 166, 3) := by decide +kernel
theorem dL_law_1017 : decode cL_law 1017 = .ok (.istore 5, 2) := by decide +kernel
theorem dL_law_1019 : decode cL_law 1019 = .ok (.aload_n 2, 1) := by decide +kernel
theorem dL_law_1020 : decode cL_law 1020 = .ok (.aload_n 0, 1) := by decide +kernel
theorem dL_law_1021 : decode cL_law 1021 = .ok (.iload 4, 2) := by decide +kernel
theorem dL_law_1023 : decode cL_law 1023 = .ok (.iconst 1, 1) := by decide +kernel
theorem dL_law_1024 : decode cL_law 1024 = .ok (.iadd, 1) := by decide +kernel
theorem dL_law_1025 : decode cL_law 1025 = .ok (.iaload, 1) := by decide +kernel
theorem dL_law_1026 : decode cL_law 1026 = .ok (.invokevirtual 168, 3) := by decide +kernel
theorem dL_law_1029 : decode cL_law 1029 = .ok (.istore 6, 2) := by decide +kernel
theorem dL_law_1031 : decode cL_law 1031 = .ok (.aload_n 2, 1) := by decide +kernel
theorem dL_law_1032 : decode cL_law 1032 = .ok (.invokevirtual 128, 3) := by decide +kernel
theorem dL_law_1035 : decode cL_law 1035 = .ok (.iload 5, 2) := by decide +kernel
theorem dL_law_1037 : decode cL_law 1037 = .ok (.if_icmp .eq 5, 3) := by decide +kernel
theorem dL_law_1040 : decode cL_law 1040 = .ok (.iconst 0, 1) := by decide +kernel
theorem dL_law_1041 : decode cL_law 1041 = .ok (.ireturn, 1) := by decide +kernel
theorem dL_law_1042 : decode cL_law 1042 = .ok (.iload 5, 2) := by decide +kernel
theorem dL_law_1044 : decode cL_law 1044 = .ok (.ifCond .ne 15, 3) := by decide +kernel
theorem dL_law_1047 : decode cL_law 1047 = .ok (.aload_n 3, 1) := by decide +kernel
theorem dL_law_1048 : decode cL_law 1048 = .ok (.iconst 0, 1) := by decide +kernel
theorem dL_law_1049 : decode cL_law 1049 = .ok (.laload, 1) := by decide +kernel
theorem dL_law_1050 : decode cL_law 1050 = .ok (.iload 6, 2) := by decide +kernel
theorem dL_law_1052 : decode cL_law 1052 = .ok (.i2l, 1) := by decide +kernel
theorem dL_law_1053 : decode cL_law 1053 = .ok (.lcmp, 1) := by decide +kernel
theorem dL_law_1054 : decode cL_law 1054 = .ok (.ifCond .eq 5, 3) := by decide +kernel
theorem dL_law_1057 : decode cL_law 1057 = .ok (.iconst 0, 1) := by decide +kernel
theorem dL_law_1058 : decode cL_law 1058 = .ok (.ireturn, 1) := by decide +kernel
theorem dL_law_1059 : decode cL_law 1059 = .ok (.goto 1260, 3) := by decide +kernel
theorem dL_law_1062 : decode cL_law 1062 = .ok (.aload_n 1, 1) := by decide +kernel
theorem dL_law_1063 : decode cL_law 1063 = .ok (.aload_n 0, 1) := by decide +kernel
theorem dL_law_1064 : decode cL_law 1064 = .ok (.iload 4, 2) := by decide +kernel
theorem dL_law_1066 : decode cL_law 1066 = .ok (.iconst 1, 1) := by decide +kernel
theorem dL_law_1067 : decode cL_law 1067 = .ok (.iadd, 1) := by decide +kernel
theorem dL_law_1068 : decode cL_law 1068 = .ok (.iaload, 1) := by decide +kernel
theorem dL_law_1069 : decode cL_law 1069 = .ok (.aload_n 3, 1) := by decide +kernel
theorem dL_law_1070 : decode cL_law 1070 = .ok (.invokestatic 169, 3) := by decide +kernel
theorem dL_law_1073 : decode cL_law 1073 = .ok (.istore 5, 2) := by decide +kernel
theorem dL_law_1075 : decode cL_law 1075 = .ok (.aload_n 2, 1) := by decide +kernel
theorem dL_law_1076 : decode cL_law 1076 = .ok (.aload_n 0, 1) := by decide +kernel
theorem dL_law_1077 : decode cL_law 1077 = .ok (.iload 4, 2) := by decide +kernel
theorem dL_law_1079 : decode cL_law 1079 = .ok (.iconst 1, 1) := by decide +kernel
theorem dL_law_1080 : decode cL_law 1080 = .ok (.iadd, 1) := by decide +kernel
theorem dL_law_1081 : decode cL_law 1081 = .ok (.iaload, 1) := by decide +kernel
theorem dL_law_1082 : decode cL_law 1082 = .ok (.invokevirtual 171, 3) := by decide +kernel
theorem dL_law_1085 : decode cL_law 1085 = .ok (.istore 6, 2) := by decide +kernel
theorem dL_law_1087 : decode cL_law 1087 = .ok (.aload_n 2, 1) := by decide +kernel
theorem dL_law_1088 : decode cL_law 1088 = .ok (.invokevirtual 128, 3) := by decide +kernel
theorem dL_law_1091 : decode cL_law 1091 = .ok (.iload 5, 2) := by decide +kernel
theorem dL_law_1093 : decode cL_law 1093 = .ok (.if_icmp .eq 5, 3) := by decide +kernel
theorem dL_law_1096 : decode cL_law 1096 = .ok (.iconst 0, 1) := by decide +kernel
theorem dL_law_1097 : decode cL_law 1097 = .ok (.ireturn, 1) := by decide +kernel
theorem dL_law_1098 : decode cL_law 1098 = .ok (.iload 5, 2) := by decide +kernel
theorem dL_law_1100 : decode cL_law 1100 = .ok (.ifCond .ne 15, 3) := by decide +kernel
theorem dL_law_1103 : decode cL_law 1103 = .ok (.aload_n 3, 1) := by decide +kernel
theorem dL_law_1104 : decode cL_law 1104 = .ok (.iconst 0, 1) := by decide +kernel
theorem dL_law_1105 : decode cL_law 1105 = .ok (.laload, 1) := by decide +kernel
theorem dL_law_1106 : decode cL_law 1106 = .ok (.iload 6, 2) := by decide +kernel
theorem dL_law_1108 : decode cL_law 1108 = .ok (.i2l, 1) := by decide +kernel
theorem dL_law_1109 : decode cL_law 1109 = .ok (.lcmp, 1) := by decide +kernel
theorem dL_law_1110 : decode cL_law 1110 = .ok (.ifCond .eq 5, 3) := by decide +kernel
theorem dL_law_1113 : decode cL_law 1113 = .ok (.iconst 0, 1) := by decide +kernel
theorem dL_law_1114 : decode cL_law 1114 = .ok (.ireturn, 1) := by decide +kernel
theorem dL_law_1115 : decode cL_law 1115 = .ok (.goto 1204, 3) := by decide +kernel
theorem dL_law_1118 : decode cL_law 1118 = .ok (.aload_n 1, 1) := by decide +kernel
theorem dL_law_1119 : decode cL_law 1119 = .ok (.aload_n 0, 1) := by decide +kernel
theorem dL_law_1120 : decode cL_law 1120 = .ok (.iload 4, 2) := by decide +kernel
theorem dL_law_1122 : decode cL_law 1122 = .ok (.iconst 1, 1) := by decide +kernel
theorem dL_law_1123 : decode cL_law 1123 = .ok (.iadd, 1) := by decide +kernel
theorem dL_law_1124 : decode cL_law 1124 = .ok (.iaload, 1) := by decide +kernel
theorem dL_law_1125 : decode cL_law 1125 = .ok (.aload_n 0, 1) := by decide +kernel
theorem dL_law_1126 : decode cL_law 1126 = .ok (.iload 4, 2) := by decide +kernel
theorem dL_law_1128 : decode cL_law 1128 = .ok (.iconst 2, 1) := by decide +kernel
theorem dL_law_1129 : decode cL_law 1129 = .ok (.iadd, 1) := by decide +kernel
theorem dL_law_1130 : decode cL_law 1130 = .ok (.iaload, 1) := by decide +kernel
theorem dL_law_1131 : decode cL_law 1131 = .ok (.aload_n 0, 1) := by decide +kernel
theorem dL_law_1132 : decode cL_law 1132 = .ok (.iload 4, 2) := by decide +kernel
theorem dL_law_1134 : decode cL_law 1134 = .ok (.iconst 3, 1) := by decide +kernel
theorem dL_law_1135 : decode cL_law 1135 = .ok (.iadd, 1) := by decide +kernel
theorem dL_law_1136 : decode cL_law 1136 = .ok (.iaload, 1) := by decide +kernel
theorem dL_law_1137 : decode cL_law 1137 = .ok (.ifCond .eq 7, 3) := by decide +kernel
theorem dL_law_1140 : decode cL_law 1140 = .ok (.iconst 1, 1) := by decide +kernel
theorem dL_law_1141 : decode cL_law 1141 = .ok (.goto 4, 3) := by decide +kernel
theorem dL_law_1144 : decode cL_law 1144 = .ok (.iconst 0, 1) := by decide +kernel
theorem dL_law_1145 : decode cL_law 1145 = .ok (.aload_n 3, 1) := by decide +kernel
theorem dL_law_1146 : decode cL_law 1146 = .ok (.invokestatic 172, 3) := by decide +kernel
theorem dL_law_1149 : decode cL_law 1149 = .ok (.istore 5, 2) := by decide +kernel
theorem dL_law_1151 : decode cL_law 1151 = .ok (.aload_n 2, 1) := by decide +kernel
theorem dL_law_1152 : decode cL_law 1152 = .ok (.aload_n 0, 1) := by decide +kernel
theorem dL_law_1153 : decode cL_law 1153 = .ok (.iload 4, 2) := by decide +kernel
theorem dL_law_1155 : decode cL_law 1155 = .ok (.iconst 1, 1) := by decide +kernel
theorem dL_law_1156 : decode cL_law 1156 = .ok (.iadd, 1) := by decide +kernel
theorem dL_law_1157 : decode cL_law 1157 = .ok (.iaload, 1) := by decide +kernel
theorem dL_law_1158 : decode cL_law 1158 = .ok (.aload_n 0, 1) := by decide +kernel
theorem dL_law_1159 : decode cL_law 1159 = .ok (.iload 4, 2) := by decide +kernel
theorem dL_law_1161 : decode cL_law 1161 = .ok (.iconst 2, 1) := by decide +kernel
theorem dL_law_1162 : decode cL_law 1162 = .ok (.iadd, 1) := by decide +kernel
theorem dL_law_1163 : decode cL_law 1163 = .ok (.iaload, 1) := by decide +kernel
theorem dL_law_1164 : decode cL_law 1164 = .ok (.aload_n 0, 1) := by decide +kernel
theorem dL_law_1165 : decode cL_law 1165 = .ok (.iload 4, 2) := by decide +kernel
theorem dL_law_1167 : decode cL_law 1167 = .ok (.iconst 3, 1) := by decide +kernel
theorem dL_law_1168 : decode cL_law 1168 = .ok (.iadd, 1) := by decide +kernel
theorem dL_law_1169 : decode cL_law 1169 = .ok (.iaload, 1) := by decide +kernel
theorem dL_law_1170 : decode cL_law 1170 = .ok (.ifCond .eq 7, 3) := by decide +kernel
theorem dL_law_1173 : decode cL_law 1173 = .ok (.iconst 1, 1) := by decide +kernel
theorem dL_law_1174 : decode cL_law 1174 = .ok (.goto 4, 3) := by decide +kernel
theorem dL_law_1177 : decode cL_law 1177 = .ok (.iconst 0, 1) := by decide +kernel
theorem dL_law_1178 : decode cL_law 1178 = .ok (.invokevirtual 175, 3) := by decide +kernel
theorem dL_law_1181 : decode cL_law 1181 = .ok (.istore 6, 2) := by decide +kernel
theorem dL_law_1183 : decode cL_law 1183 = .ok (.aload_n 2, 1) := by decide +kernel
theorem dL_law_1184 : decode cL_law 1184 = .ok (.invokevirtual 128, 3) := by decide +kernel
theorem dL_law_1187 : decode cL_law 1187 = .ok (.iload 5, 2) := by decide +kernel
theorem dL_law_1189 : decode cL_law 1189 = .ok (.if_icmp .eq 5, 3) := by decide +kernel
theorem dL_law_1192 : decode cL_law 1192 = .ok (.iconst 0, 1) := by decide +kernel
theorem dL_law_1193 : decode cL_law 1193 = .ok (.ireturn, 1) := by decide +kernel
theorem dL_law_1194 : decode cL_law 1194 = .ok (.iload 5, 2) := by decide +kernel
theorem dL_law_1196 : decode cL_law 1196 = .ok (.ifCond .ne 15, 3) := by decide +kernel
theorem dL_law_1199 : decode cL_law 1199 = .ok (.aload_n 3, 1) := by decide +kernel
theorem dL_law_1200 : decode cL_law 1200 = .ok (.iconst 0, 1) := by decide +kernel
theorem dL_law_1201 : decode cL_law 1201 = .ok (.laload, 1) := by decide +kernel
theorem dL_law_1202 : decode cL_law 1202 = .ok (.iload 6, 2) := by decide +kernel
theorem dL_law_1204 : decode cL_law 1204 = .ok (.i2l, 1) := by decide +kernel
theorem dL_law_1205 : decode cL_law 1205 = .ok (.lcmp, 1) := by decide +kernel
theorem dL_law_1206 : decode cL_law 1206 = .ok (.ifCond .eq 5, 3) := by decide +kernel
theorem dL_law_1209 : decode cL_law 1209 = .ok (.iconst 0, 1) := by decide +kernel
theorem dL_law_1210 : decode cL_law 1210 = .ok (.ireturn, 1) := by decide +kernel
theorem dL_law_1211 : decode cL_law 1211 = .ok (.goto 1108, 3) := by decide +kernel
theorem dL_law_1214 : decode cL_law 1214 = .ok (.aload_n 1, 1) := by decide +kernel
theorem dL_law_1215 : decode cL_law 1215 = .ok (.aload_n 0, 1) := by decide +kernel
theorem dL_law_1216 : decode cL_law 1216 = .ok (.iload 4, 2) := by decide +kernel
theorem dL_law_1218 : decode cL_law 1218 = .ok (.iconst 1, 1) := by decide +kernel
theorem dL_law_1219 : decode cL_law 1219 = .ok (.iadd, 1) := by decide +kernel
theorem dL_law_1220 : decode cL_law 1220 = .ok (.iaload, 1) := by decide +kernel
theorem dL_law_1221 : decode cL_law 1221 = .ok (.aload_n 0, 1) := by decide +kernel
theorem dL_law_1222 : decode cL_law 1222 = .ok (.iload 4, 2) := by decide +kernel
theorem dL_law_1224 : decode cL_law 1224 = .ok (.iconst 2, 1) := by decide +kernel
theorem dL_law_1225 : decode cL_law 1225 = .ok (.iadd, 1) := by decide +kernel
theorem dL_law_1226 : decode cL_law 1226 = .ok (.iaload, 1) := by decide +kernel
theorem dL_law_1227 : decode cL_law 1227 = .ok (.aload_n 0, 1) := by decide +kernel
theorem dL_law_1228 : decode cL_law 1228 = .ok (.iload 4, 2) := by decide +kernel
theorem dL_law_1230 : decode cL_law 1230 = .ok (.iconst 3, 1) := by decide +kernel
theorem dL_law_1231 : decode cL_law 1231 = .ok (.iadd, 1) := by decide +kernel
theorem dL_law_1232 : decode cL_law 1232 = .ok (.iaload, 1) := by decide +kernel
theorem dL_law_1233 : decode cL_law 1233 = .ok (.ifCond .eq 7, 3) := by decide +kernel
theorem dL_law_1236 : decode cL_law 1236 = .ok (.iconst 1, 1) := by decide +kernel
theorem dL_law_1237 : decode cL_law 1237 = .ok (.goto 4, 3) := by decide +kernel
theorem dL_law_1240 : decode cL_law 1240 = .ok (.iconst 0, 1) := by decide +kernel
theorem dL_law_1241 : decode cL_law 1241 = .ok (.aload_n 3, 1) := by decide +kernel
theorem dL_law_1242 : decode cL_law 1242 = .ok (.invokestatic 176, 3) := by decide +kernel
theorem dL_law_1245 : decode cL_law 1245 = .ok (.istore 5, 2) := by decide +kernel
theorem dL_law_1247 : decode cL_law 1247 = .ok (.aload_n 2, 1) := by decide +kernel
theorem dL_law_1248 : decode cL_law 1248 = .ok (.aload_n 0, 1) := by decide +kernel
theorem dL_law_1249 : decode cL_law 1249 = .ok (.iload 4, 2) := by decide +kernel
theorem dL_law_1251 : decode cL_law 1251 = .ok (.iconst 1, 1) := by decide +kernel
theorem dL_law_1252 : decode cL_law 1252 = .ok (.iadd, 1) := by decide +kernel
theorem dL_law_1253 : decode cL_law 1253 = .ok (.iaload, 1) := by decide +kernel
theorem dL_law_1254 : decode cL_law 1254 = .ok (.aload_n 0, 1) := by decide +kernel
theorem dL_law_1255 : decode cL_law 1255 = .ok (.iload 4, 2) := by decide +kernel
theorem dL_law_1257 : decode cL_law 1257 = .ok (.iconst 2, 1) := by decide +kernel
theorem dL_law_1258 : decode cL_law 1258 = .ok (.iadd, 1) := by decide +kernel
theorem dL_law_1259 : decode cL_law 1259 = .ok (.iaload, 1) := by decide +kernel
theorem dL_law_1260 : decode cL_law 1260 = .ok (.aload_n 0, 1) := by decide +kernel
theorem dL_law_1261 : decode cL_law 1261 = .ok (.iload 4, 2) := by decide +kernel
theorem dL_law_1263 : decode cL_law 1263 = .ok (.iconst 3, 1) := by decide +kernel
theorem dL_law_1264 : decode cL_law 1264 = .ok (.iadd, 1) := by decide +kernel
theorem dL_law_1265 : decode cL_law 1265 = .ok (.iaload, 1) := by decide +kernel
theorem dL_law_1266 : decode cL_law 1266 = .ok (.ifCond .eq 7, 3) := by decide +kernel
theorem dL_law_1269 : decode cL_law 1269 = .ok (.iconst 1, 1) := by decide +kernel
theorem dL_law_1270 : decode cL_law 1270 = .ok (.goto 4, 3) := by decide +kernel
theorem dL_law_1273 : decode cL_law 1273 = .ok (.iconst 0, 1) := by decide +kernel
theorem dL_law_1274 : decode cL_law 1274 = .ok (.invokevirtual 178, 3) := by decide +kernel
theorem dL_law_1277 : decode cL_law 1277 = .ok (.istore 6, 2) := by decide +kernel
theorem dL_law_1279 : decode cL_law 1279 = .ok (.aload_n 2, 1) := by decide +kernel
theorem dL_law_1280 : decode cL_law 1280 = .ok (.invokevirtual 128, 3) := by decide +kernel
theorem dL_law_1283 : decode cL_law 1283 = .ok (.iload 5, 2) := by decide +kernel
theorem dL_law_1285 : decode cL_law 1285 = .ok (.if_icmp .eq 5, 3) := by decide +kernel
theorem dL_law_1288 : decode cL_law 1288 = .ok (.iconst 0, 1) := by decide +kernel
theorem dL_law_1289 : decode cL_law 1289 = .ok (.ireturn, 1) := by decide +kernel
theorem dL_law_1290 : decode cL_law 1290 = .ok (.iload 5, 2) := by decide +kernel
theorem dL_law_1292 : decode cL_law 1292 = .ok (.ifCond .ne 15, 3) := by decide +kernel
theorem dL_law_1295 : decode cL_law 1295 = .ok (.aload_n 3, 1) := by decide +kernel
theorem dL_law_1296 : decode cL_law 1296 = .ok (.iconst 0, 1) := by decide +kernel
theorem dL_law_1297 : decode cL_law 1297 = .ok (.laload, 1) := by decide +kernel
theorem dL_law_1298 : decode cL_law 1298 = .ok (.iload 6, 2) := by decide +kernel
theorem dL_law_1300 : decode cL_law 1300 = .ok (.i2l, 1) := by decide +kernel
theorem dL_law_1301 : decode cL_law 1301 = .ok (.lcmp, 1) := by decide +kernel
theorem dL_law_1302 : decode cL_law 1302 = .ok (.ifCond .eq 5, 3) := by decide +kernel
theorem dL_law_1305 : decode cL_law 1305 = .ok (.iconst 0, 1) := by decide +kernel
theorem dL_law_1306 : decode cL_law 1306 = .ok (.ireturn, 1) := by decide +kernel
theorem dL_law_1307 : decode cL_law 1307 = .ok (.goto 1012, 3) := by decide +kernel
theorem dL_law_1310 : decode cL_law 1310 = .ok (.aload_n 1, 1) := by decide +kernel
theorem dL_law_1311 : decode cL_law 1311 = .ok (.aload_n 0, 1) := by decide +kernel
theorem dL_law_1312 : decode cL_law 1312 = .ok (.iload 4, 2) := by decide +kernel
theorem dL_law_1314 : decode cL_law 1314 = .ok (.iconst 1, 1) := by decide +kernel
theorem dL_law_1315 : decode cL_law 1315 = .ok (.iadd, 1) := by decide +kernel
theorem dL_law_1316 : decode cL_law 1316 = .ok (.iaload, 1) := by decide +kernel
theorem dL_law_1317 : decode cL_law 1317 = .ok (.aload_n 3, 1) := by decide +kernel
theorem dL_law_1318 : decode cL_law 1318 = .ok (.invokestatic 179, 3) := by decide +kernel
theorem dL_law_1321 : decode cL_law 1321 = .ok (.istore 5, 2) := by decide +kernel
theorem dL_law_1323 : decode cL_law 1323 = .ok (.aload_n 2, 1) := by decide +kernel
theorem dL_law_1324 : decode cL_law 1324 = .ok (.aload_n 0, 1) := by decide +kernel
theorem dL_law_1325 : decode cL_law 1325 = .ok (.iload 4, 2) := by decide +kernel
theorem dL_law_1327 : decode cL_law 1327 = .ok (.iconst 1, 1) := by decide +kernel
theorem dL_law_1328 : decode cL_law 1328 = .ok (.iadd, 1) := by decide +kernel
theorem dL_law_1329 : decode cL_law 1329 = .ok (.iaload, 1) := by decide +kernel
theorem dL_law_1330 : decode cL_law 1330 = .ok (.invokevirtual 181, 3) := by decide +kernel
theorem dL_law_1333 : decode cL_law 1333 = .ok (.istore 6, 2) := by decide +kernel
theorem dL_law_1335 : decode cL_law 1335 = .ok (.aload_n 2, 1) := by decide +kernel
theorem dL_law_1336 : decode cL_law 1336 = .ok (.invokevirtual 128, 3) := by decide +kernel
theorem dL_law_1339 : decode cL_law 1339 = .ok (.iload 5, 2) := by decide +kernel
theorem dL_law_1341 : decode cL_law 1341 = .ok (.if_icmp .eq 5, 3) := by decide +kernel
theorem dL_law_1344 : decode cL_law 1344 = .ok (.iconst 0, 1) := by decide +kernel
theorem dL_law_1345 : decode cL_law 1345 = .ok (.ireturn, 1) := by decide +kernel
theorem dL_law_1346 : decode cL_law 1346 = .ok (.iload 5, 2) := by decide +kernel
theorem dL_law_1348 : decode cL_law 1348 = .ok (.ifCond .ne 15, 3) := by decide +kernel
theorem dL_law_1351 : decode cL_law 1351 = .ok (.aload_n 3, 1) := by decide +kernel
theorem dL_law_1352 : decode cL_law 1352 = .ok (.iconst 0, 1) := by decide +kernel
theorem dL_law_1353 : decode cL_law 1353 = .ok (.laload, 1) := by decide +kernel
theorem dL_law_1354 : decode cL_law 1354 = .ok (.iload 6, 2) := by decide +kernel
theorem dL_law_1356 : decode cL_law 1356 = .ok (.i2l, 1) := by decide +kernel
theorem dL_law_1357 : decode cL_law 1357 = .ok (.lcmp, 1) := by decide +kernel
theorem dL_law_1358 : decode cL_law 1358 = .ok (.ifCond .eq 5, 3) := by decide +kernel
theorem dL_law_1361 : decode cL_law 1361 = .ok (.iconst 0, 1) := by decide +kernel
theorem dL_law_1362 : decode cL_law 1362 = .ok (.ireturn, 1) := by decide +kernel
theorem dL_law_1363 : decode cL_law 1363 = .ok (.goto 956, 3) := by decide +kernel
theorem dL_law_1366 : decode cL_law 1366 = .ok (.aload_n 1, 1) := by decide +kernel
theorem dL_law_1367 : decode cL_law 1367 = .ok (.aload_n 0, 1) := by decide +kernel
theorem dL_law_1368 : decode cL_law 1368 = .ok (.iload 4, 2) := by decide +kernel
theorem dL_law_1370 : decode cL_law 1370 = .ok (.iconst 1, 1) := by decide +kernel
theorem dL_law_1371 : decode cL_law 1371 = .ok (.iadd, 1) := by decide +kernel
theorem dL_law_1372 : decode cL_law 1372 = .ok (.iaload, 1) := by decide +kernel
theorem dL_law_1373 : decode cL_law 1373 = .ok (.aload_n 0, 1) := by decide +kernel
theorem dL_law_1374 : decode cL_law 1374 = .ok (.iload 4, 2) := by decide +kernel
theorem dL_law_1376 : decode cL_law 1376 = .ok (.iconst 2, 1) := by decide +kernel
theorem dL_law_1377 : decode cL_law 1377 = .ok (.iadd, 1) := by decide +kernel
theorem dL_law_1378 : decode cL_law 1378 = .ok (.iaload, 1) := by decide +kernel
theorem dL_law_1379 : decode cL_law 1379 = .ok (.aload_n 3, 1) := by decide +kernel
theorem dL_law_1380 : decode cL_law 1380 = .ok (.invokestatic 182, 3) := by decide +kernel
theorem dL_law_1383 : decode cL_law 1383 = .ok (.istore 5, 2) := by decide +kernel
theorem dL_law_1385 : decode cL_law 1385 = .ok (.aload_n 2, 1) := by decide +kernel
theorem dL_law_1386 : decode cL_law 1386 = .ok (.aload_n 0, 1) := by decide +kernel
theorem dL_law_1387 : decode cL_law 1387 = .ok (.iload 4, 2) := by decide +kernel
theorem dL_law_1389 : decode cL_law 1389 = .ok (.iconst 1, 1) := by decide +kernel
theorem dL_law_1390 : decode cL_law 1390 = .ok (.iadd, 1) := by decide +kernel
theorem dL_law_1391 : decode cL_law 1391 = .ok (.iaload, 1) := by decide +kernel
theorem dL_law_1392 : decode cL_law 1392 = .ok (.aload_n 0, 1) := by decide +kernel
theorem dL_law_1393 : decode cL_law 1393 = .ok (.iload 4, 2) := by decide +kernel
theorem dL_law_1395 : decode cL_law 1395 = .ok (.iconst 2, 1) := by decide +kernel
theorem dL_law_1396 : decode cL_law 1396 = .ok (.iadd, 1) := by decide +kernel
theorem dL_law_1397 : decode cL_law 1397 = .ok (.iaload, 1) := by decide +kernel
theorem dL_law_1398 : decode cL_law 1398 = .ok (.invokevirtual 184, 3) := by decide +kernel
theorem dL_law_1401 : decode cL_law 1401 = .ok (.istore 6, 2) := by decide +kernel
theorem dL_law_1403 : decode cL_law 1403 = .ok (.aload_n 2, 1) := by decide +kernel
theorem dL_law_1404 : decode cL_law 1404 = .ok (.invokevirtual 128, 3) := by decide +kernel
theorem dL_law_1407 : decode cL_law 1407 = .ok (.iload 5, 2) := by decide +kernel
theorem dL_law_1409 : decode cL_law 1409 = .ok (.if_icmp .eq 5, 3) := by decide +kernel
theorem dL_law_1412 : decode cL_law 1412 = .ok (.iconst 0, 1) := by decide +kernel
theorem dL_law_1413 : decode cL_law 1413 = .ok (.ireturn, 1) := by decide +kernel
theorem dL_law_1414 : decode cL_law 1414 = .ok (.iload 5, 2) := by decide +kernel
theorem dL_law_1416 : decode cL_law 1416 = .ok (.ifCond .ne 22, 3) := by decide +kernel
theorem dL_law_1419 : decode cL_law 1419 = .ok (.aload_n 3, 1) := by decide +kernel
theorem dL_law_1420 : decode cL_law 1420 = .ok (.iconst 0, 1) := by decide +kernel
theorem dL_law_1421 : decode cL_law 1421 = .ok (.laload, 1) := by decide +kernel
theorem dL_law_1422 : decode cL_law 1422 = .ok (.iload 6, 2) := by decide +kernel
theorem dL_law_1424 : decode cL_law 1424 = .ok (.ifCond .eq 7, 3) := by decide +kernel
theorem dL_law_1427 : decode cL_law 1427 = .ok (.lconst 1, 1) := by decide +kernel
theorem dL_law_1428 : decode cL_law 1428 = .ok (.goto 4, 3) := by decide +kernel
theorem dL_law_1431 : decode cL_law 1431 = .ok (.lconst 0, 1) := by decide +kernel
theorem dL_law_1432 : decode cL_law 1432 = .ok (.lcmp, 1) := by decide +kernel
theorem dL_law_1433 : decode cL_law 1433 = .ok (.ifCond .eq 5, 3) := by decide +kernel
theorem dL_law_1436 : decode cL_law 1436 = .ok (.iconst 0, 1) := by decide +kernel
theorem dL_law_1437 : decode cL_law 1437 = .ok (.ireturn, 1) := by decide +kernel
theorem dL_law_1438 : decode cL_law 1438 = .ok (.goto 881, 3) := by decide +kernel
theorem dL_law_1441 : decode cL_law 1441 = .ok (.aload_n 1, 1) := by decide +kernel
theorem dL_law_1442 : decode cL_law 1442 = .ok (.aload_n 0, 1) := by decide +kernel
theorem dL_law_1443 : decode cL_law 1443 = .ok (.iload 4, 2) := by decide +kernel
theorem dL_law_1445 : decode cL_law 1445 = .ok (.iconst 1, 1) := by decide +kernel
theorem dL_law_1446 : decode cL_law 1446 = .ok (.iadd, 1) := by decide +kernel
theorem dL_law_1447 : decode cL_law 1447 = .ok (.iaload, 1) := by decide +kernel
theorem dL_law_1448 : decode cL_law 1448 = .ok (.aload_n 3, 1) := by decide +kernel
theorem dL_law_1449 : decode cL_law 1449 = .ok (.invokestatic 185, 3) := by decide +kernel
theorem dL_law_1452 : decode cL_law 1452 = .ok (.istore 5, 2) := by decide +kernel
theorem dL_law_1454 : decode cL_law 1454 = .ok (.aload_n 2, 1) := by decide +kernel
theorem dL_law_1455 : decode cL_law 1455 = .ok (.aload_n 0, 1) := by decide +kernel
theorem dL_law_1456 : decode cL_law 1456 = .ok (.iload 4, 2) := by decide +kernel
theorem dL_law_1458 : decode cL_law 1458 = .ok (.iconst 1, 1) := by decide +kernel
theorem dL_law_1459 : decode cL_law 1459 = .ok (.iadd, 1) := by decide +kernel
theorem dL_law_1460 : decode cL_law 1460 = .ok (.iaload, 1) := by decide +kernel
theorem dL_law_1461 : decode cL_law 1461 = .ok (.invokevirtual 187, 3) := by decide +kernel
theorem dL_law_1464 : decode cL_law 1464 = .ok (.istore 6, 2) := by decide +kernel
theorem dL_law_1466 : decode cL_law 1466 = .ok (.aload_n 2, 1) := by decide +kernel
theorem dL_law_1467 : decode cL_law 1467 = .ok (.invokevirtual 128, 3) := by decide +kernel
theorem dL_law_1470 : decode cL_law 1470 = .ok (.iload 5, 2) := by decide +kernel
theorem dL_law_1472 : decode cL_law 1472 = .ok (.if_icmp .eq 5, 3) := by decide +kernel
theorem dL_law_1475 : decode cL_law 1475 = .ok (.iconst 0, 1) := by decide +kernel
theorem dL_law_1476 : decode cL_law 1476 = .ok (.ireturn, 1) := by decide +kernel
theorem dL_law_1477 : decode cL_law 1477 = .ok (.iload 5, 2) := by decide +kernel
theorem dL_law_1479 : decode cL_law 1479 = .ok (.ifCond .ne 15, 3) := by decide +kernel
theorem dL_law_1482 : decode cL_law 1482 = .ok (.aload_n 3, 1) := by decide +kernel
theorem dL_law_1483 : decode cL_law 1483 = .ok (.iconst 0, 1) := by decide +kernel
theorem dL_law_1484 : decode cL_law 1484 = .ok (.laload, 1) := by decide +kernel
theorem dL_law_1485 : decode cL_law 1485 = .ok (.iload 6, 2) := by decide +kernel
theorem dL_law_1487 : decode cL_law 1487 = .ok (.i2l, 1) := by decide +kernel
theorem dL_law_1488 : decode cL_law 1488 = .ok (.lcmp, 1) := by decide +kernel
theorem dL_law_1489 : decode cL_law 1489 = .ok (.ifCond .eq 5, 3) := by decide +kernel
theorem dL_law_1492 : decode cL_law 1492 = .ok (.iconst 0, 1) := by decide +kernel
theorem dL_law_1493 : decode cL_law 1493 = .ok (.ireturn, 1) := by decide +kernel
theorem dL_law_1494 : decode cL_law 1494 = .ok (.goto 825, 3) := by decide +kernel
theorem dL_law_1497 : decode cL_law 1497 = .ok (.aload_n 1, 1) := by decide +kernel
theorem dL_law_1498 : decode cL_law 1498 = .ok (.invokevirtual 188, 3) := by decide +kernel
theorem dL_law_1501 : decode cL_law 1501 = .ok (.aload_n 2, 1) := by decide +kernel
theorem dL_law_1502 : decode cL_law 1502 = .ok (.invokevirtual 191, 3) := by decide +kernel
theorem dL_law_1505 : decode cL_law 1505 = .ok (.if_icmp .eq 814, 3) := by decide +kernel
theorem dL_law_1508 : decode cL_law 1508 = .ok (.iconst 0, 1) := by decide +kernel
theorem dL_law_1509 : decode cL_law 1509 = .ok (.ireturn, 1) := by decide +kernel
theorem dL_law_1510 : decode cL_law 1510 = .ok (.aload_n 1, 1) := by decide +kernel
theorem dL_law_1511 : decode cL_law 1511 = .ok (.aload_n 0, 1) := by decide +kernel
theorem dL_law_1512 : decode cL_law 1512 = .ok (.iload 4, 2) := by decide +kernel
theorem dL_law_1514 : decode cL_law 1514 = .ok (.iconst 1, 1) := by decide +kernel
theorem dL_law_1515 : decode cL_law 1515 = .ok (.iadd, 1) := by decide +kernel
theorem dL_law_1516 : decode cL_law 1516 = .ok (.iaload, 1) := by decide +kernel
theorem dL_law_1517 : decode cL_law 1517 = .ok (.aload_n 3, 1) := by decide +kernel
theorem dL_law_1518 : decode cL_law 1518 = .ok (.invokestatic 192, 3) := by decide +kernel
theorem dL_law_1521 : decode cL_law 1521 = .ok (.istore 5, 2) := by decide +kernel
theorem dL_law_1523 : decode cL_law 1523 = .ok (.aload_n 2, 1) := by decide +kernel
theorem dL_law_1524 : decode cL_law 1524 = .ok (.aload_n 0, 1) := by decide +kernel
theorem dL_law_1525 : decode cL_law 1525 = .ok (.iload 4, 2) := by decide +kernel
theorem dL_law_1527 : decode cL_law 1527 = .ok (.iconst 1, 1) := by decide +kernel
theorem dL_law_1528 : decode cL_law 1528 = .ok (.iadd, 1) := by decide +kernel
theorem dL_law_1529 : decode cL_law 1529 = .ok (.iaload, 1) := by decide +kernel
theorem dL_law_1530 : decode cL_law 1530 = .ok (.invokevirtual 194, 3) := by decide +kernel
theorem dL_law_1533 : decode cL_law 1533 = .ok (.istore 6, 2) := by decide +kernel
theorem dL_law_1535 : decode cL_law 1535 = .ok (.aload_n 2, 1) := by decide +kernel
theorem dL_law_1536 : decode cL_law 1536 = .ok (.invokevirtual 128, 3) := by decide +kernel
theorem dL_law_1539 : decode cL_law 1539 = .ok (.iload 5, 2) := by decide +kernel
theorem dL_law_1541 : decode cL_law 1541 = .ok (.if_icmp .eq 5, 3) := by decide +kernel
theorem dL_law_1544 : decode cL_law 1544 = .ok (.iconst 0, 1) := by decide +kernel
theorem dL_law_1545 : decode cL_law 1545 = .ok (.ireturn, 1) := by decide +kernel
theorem dL_law_1546 : decode cL_law 1546 = .ok (.iload 5, 2) := by decide +kernel
theorem dL_law_1548 : decode cL_law 1548 = .ok (.ifCond .ne 15, 3) := by decide +kernel
theorem dL_law_1551 : decode cL_law 1551 = .ok (.aload_n 3, 1) := by decide +kernel
theorem dL_law_1552 : decode cL_law 1552 = .ok (.iconst 0, 1) := by decide +kernel
theorem dL_law_1553 : decode cL_law 1553 = .ok (.laload, 1) := by decide +kernel
theorem dL_law_1554 : decode cL_law 1554 = .ok (.iload 6, 2) := by decide +kernel
theorem dL_law_1556 : decode cL_law 1556 = .ok (.i2l, 1) := by decide +kernel
theorem dL_law_1557 : decode cL_law 1557 = .ok (.lcmp, 1) := by decide +kernel
theorem dL_law_1558 : decode cL_law 1558 = .ok (.ifCond .eq 5, 3) := by decide +kernel
theorem dL_law_1561 : decode cL_law 1561 = .ok (.iconst 0, 1) := by decide +kernel
theorem dL_law_1562 : decode cL_law 1562 = .ok (.ireturn, 1) := by decide +kernel
theorem dL_law_1563 : decode cL_law 1563 = .ok (.goto 756, 3) := by decide +kernel
theorem dL_law_1566 : decode cL_law 1566 = .ok (.aload_n 1, 1) := by decide +kernel
theorem dL_law_1567 : decode cL_law 1567 = .ok (.aload_n 0, 1) := by decide +kernel
theorem dL_law_1568 : decode cL_law 1568 = .ok (.iload 4, 2) := by decide +kernel
theorem dL_law_1570 : decode cL_law 1570 = .ok (.iconst 1, 1) := by decide +kernel
theorem dL_law_1571 : decode cL_law 1571 = .ok (.iadd, 1) := by decide +kernel
theorem dL_law_1572 : decode cL_law 1572 = .ok (.iaload, 1) := by decide +kernel
theorem dL_law_1573 : decode cL_law 1573 = .ok (.aload_n 3, 1) := by decide +kernel
theorem dL_law_1574 : decode cL_law 1574 = .ok (.invokestatic 195, 3) := by decide +kernel
theorem dL_law_1577 : decode cL_law 1577 = .ok (.istore 5, 2) := by decide +kernel
theorem dL_law_1579 : decode cL_law 1579 = .ok (.aload_n 2, 1) := by decide +kernel
theorem dL_law_1580 : decode cL_law 1580 = .ok (.aload_n 0, 1) := by decide +kernel
theorem dL_law_1581 : decode cL_law 1581 = .ok (.iload 4, 2) := by decide +kernel
theorem dL_law_1583 : decode cL_law 1583 = .ok (.iconst 1, 1) := by decide +kernel
theorem dL_law_1584 : decode cL_law 1584 = .ok (.iadd, 1) := by decide +kernel
theorem dL_law_1585 : decode cL_law 1585 = .ok (.iaload, 1) := by decide +kernel
theorem dL_law_1586 : decode cL_law 1586 = .ok (.invokevirtual 197, 3) := by decide +kernel
theorem dL_law_1589 : decode cL_law 1589 = .ok (.istore 6, 2) := by decide +kernel
theorem dL_law_1591 : decode cL_law 1591 = .ok (.aload_n 2, 1) := by decide +kernel
theorem dL_law_1592 : decode cL_law 1592 = .ok (.invokevirtual 128, 3) := by decide +kernel
theorem dL_law_1595 : decode cL_law 1595 = .ok (.iload 5, 2) := by decide +kernel
theorem dL_law_1597 : decode cL_law 1597 = .ok (.if_icmp .eq 5, 3) := by decide +kernel
theorem dL_law_1600 : decode cL_law 1600 = .ok (.iconst 0, 1) := by decide +kernel
theorem dL_law_1601 : decode cL_law 1601 = .ok (.ireturn, 1) := by decide +kernel
theorem dL_law_1602 : decode cL_law 1602 = .ok (.iload 5, 2) := by decide +kernel
theorem dL_law_1604 : decode cL_law 1604 = .ok (.ifCond .ne 15, 3) := by decide +kernel
theorem dL_law_1607 : decode cL_law 1607 = .ok (.aload_n 3, 1) := by decide +kernel
theorem dL_law_1608 : decode cL_law 1608 = .ok (.iconst 0, 1) := by decide +kernel
theorem dL_law_1609 : decode cL_law 1609 = .ok (.laload, 1) := by decide +kernel
theorem dL_law_1610 : decode cL_law 1610 = .ok (.iload 6, 2) := by decide +kernel
theorem dL_law_1612 : decode cL_law 1612 = .ok (.i2l, 1) := by decide +kernel
theorem dL_law_1613 : decode cL_law 1613 = .ok (.lcmp, 1) := by decide +kernel
theorem dL_law_1614 : decode cL_law 1614 = .ok (.ifCond .eq 5, 3) := by decide +kernel
theorem dL_law_1617 : decode cL_law 1617 = .ok (.iconst 0, 1) := by decide +kernel
theorem dL_law_1618 : decode cL_law 1618 = .ok (.ireturn, 1) := by decide +kernel
theorem dL_law_1619 : decode cL_law 1619 = .ok (.goto 700, 3) := by decide +kernel
theorem dL_law_1622 : decode cL_law 1622 = .ok (.aload_n 1, 1) := by decide +kernel
theorem dL_law_1623 : decode cL_law 1623 = .ok (.aload_n 0, 1) := by decide +kernel
theorem dL_law_1624 : decode cL_law 1624 = .ok (.iload 4, 2) := by decide +kernel
theorem dL_law_1626 : decode cL_law 1626 = .ok (.iconst 1, 1) := by decide +kernel
theorem dL_law_1627 : decode cL_law 1627 = .ok (.iadd, 1) := by decide +kernel
theorem dL_law_1628 : decode cL_law 1628 = .ok (.iaload, 1) := by decide +kernel
theorem dL_law_1629 : decode cL_law 1629 = .ok (.aload_n 3, 1) := by decide +kernel
theorem dL_law_1630 : decode cL_law 1630 = .ok (.invokestatic 198, 3) := by decide +kernel
theorem dL_law_1633 : decode cL_law 1633 = .ok (.istore 5, 2) := by decide +kernel
theorem dL_law_1635 : decode cL_law 1635 = .ok (.aload_n 2, 1) := by decide +kernel
theorem dL_law_1636 : decode cL_law 1636 = .ok (.aload_n 0, 1) := by decide +kernel
theorem dL_law_1637 : decode cL_law 1637 = .ok (.iload 4, 2) := by decide +kernel
theorem dL_law_1639 : decode cL_law 1639 = .ok (.iconst 1, 1) := by decide +kernel
theorem dL_law_1640 : decode cL_law 1640 = .ok (.iadd, 1) := by decide +kernel
theorem dL_law_1641 : decode cL_law 1641 = .ok (.iaload, 1) := by decide +kernel
theorem dL_law_1642 : decode cL_law 1642 = .ok (.invokevirtual 200, 3) := by decide +kernel
theorem dL_law_1645 : decode cL_law 1645 = .ok (.istore 6, 2) := by decide +kernel
theorem dL_law_1647 : decode cL_law 1647 = .ok (.aload_n 2, 1) := by decide +kernel
theorem dL_law_1648 : decode cL_law 1648 = .ok (.invokevirtual 128, 3) := by decide +kernel
theorem dL_law_1651 : decode cL_law 1651 = .ok (.iload 5, 2) := by decide +kernel
theorem dL_law_1653 : decode cL_law 1653 = .ok (.if_icmp .eq 5, 3) := by decide +kernel
theorem dL_law_1656 : decode cL_law 1656 = .ok (.iconst 0, 1) := by decide +kernel
theorem dL_law_1657 : decode cL_law 1657 = .ok (.ireturn, 1) := by decide +kernel
theorem dL_law_1658 : decode cL_law 1658 = .ok (.iload 5, 2) := by decide +kernel
theorem dL_law_1660 : decode cL_law 1660 = .ok (.ifCond .ne 15, 3) := by decide +kernel
theorem dL_law_1663 : decode cL_law 1663 = .ok (.aload_n 3, 1) := by decide +kernel
theorem dL_law_1664 : decode cL_law 1664 = .ok (.iconst 0, 1) := by decide +kernel
theorem dL_law_1665 : decode cL_law 1665 = .ok (.laload, 1) := by decide +kernel
theorem dL_law_1666 : decode cL_law 1666 = .ok (.iload 6, 2) := by decide +kernel
theorem dL_law_1668 : decode cL_law 1668 = .ok (.i2l, 1) := by decide +kernel
theorem dL_law_1669 : decode cL_law 1669 = .ok (.lcmp, 1) := by decide +kernel
theorem dL_law_1670 : decode cL_law 1670 = .ok (.ifCond .eq 5, 3) := by decide +kernel
theorem dL_law_1673 : decode cL_law 1673 = .ok (.iconst 0, 1) := by decide +kernel
theorem dL_law_1674 : decode cL_law 1674 = .ok (.ireturn, 1) := by decide +kernel
theorem dL_law_1675 : decode cL_law 1675 = .ok (.goto 644, 3) := by decide +kernel
theorem dL_law_1678 : decode cL_law 1678 = .ok (.aload_n 1, 1) := by decide +kernel
theorem dL_law_1679 : decode cL_law 1679 = .ok (.aload_n 0, 1) := by decide +kernel
theorem dL_law_1680 : decode cL_law 1680 = .ok (.iload 4, 2) := by decide +kernel
theorem dL_law_1682 : decode cL_law 1682 = .ok (.iconst 1, 1) := by decide +kernel
theorem dL_law_1683 : decode cL_law 1683 = .ok (.iadd, 1) := by decide +kernel
theorem dL_law_1684 : decode cL_law 1684 = .ok (.iaload, 1) := by decide +kernel
theorem dL_law_1685 : decode cL_law 1685 = .ok (.aload_n 3, 1) := by decide +kernel
theorem dL_law_1686 : decode cL_law 1686 = .ok (.invokestatic 201, 3) := by decide +kernel
theorem dL_law_1689 : decode cL_law 1689 = .ok (.istore 5, 2) := by decide +kernel
theorem dL_law_1691 : decode cL_law 1691 = .ok (.aload_n 2, 1) := by decide +kernel
theorem dL_law_1692 : decode cL_law 1692 = .ok (.aload_n 0, 1) := by decide +kernel
theorem dL_law_1693 : decode cL_law 1693 = .ok (.iload 4, 2) := by decide +kernel
theorem dL_law_1695 : decode cL_law 1695 = .ok (.iconst 1, 1) := by decide +kernel
theorem dL_law_1696 : decode cL_law 1696 = .ok (.iadd, 1) := by decide +kernel
theorem dL_law_1697 : decode cL_law 1697 = .ok (.iaload, 1) := by decide +kernel
theorem dL_law_1698 : decode cL_law 1698 = .ok (.invokevirtual 203, 3) := by decide +kernel
theorem dL_law_1701 : decode cL_law 1701 = .ok (.istore 6, 2) := by decide +kernel
theorem dL_law_1703 : decode cL_law 1703 = .ok (.aload_n 2, 1) := by decide +kernel
theorem dL_law_1704 : decode cL_law 1704 = .ok (.invokevirtual 128, 3) := by decide +kernel
theorem dL_law_1707 : decode cL_law 1707 = .ok (.iload 5, 2) := by decide +kernel
theorem dL_law_1709 : decode cL_law 1709 = .ok (.if_icmp .eq 5, 3) := by decide +kernel
theorem dL_law_1712 : decode cL_law 1712 = .ok (.iconst 0, 1) := by decide +kernel
theorem dL_law_1713 : decode cL_law 1713 = .ok (.ireturn, 1) := by decide +kernel
theorem dL_law_1714 : decode cL_law 1714 = .ok (.iload 5, 2) := by decide +kernel
theorem dL_law_1716 : decode cL_law 1716 = .ok (.ifCond .ne 15, 3) := by decide +kernel
theorem dL_law_1719 : decode cL_law 1719 = .ok (.aload_n 3, 1) := by decide +kernel
theorem dL_law_1720 : decode cL_law 1720 = .ok (.iconst 0, 1) := by decide +kernel
theorem dL_law_1721 : decode cL_law 1721 = .ok (.laload, 1) := by decide +kernel
theorem dL_law_1722 : decode cL_law 1722 = .ok (.iload 6, 2) := by decide +kernel
theorem dL_law_1724 : decode cL_law 1724 = .ok (.i2l, 1) := by decide +kernel
theorem dL_law_1725 : decode cL_law 1725 = .ok (.lcmp, 1) := by decide +kernel
theorem dL_law_1726 : decode cL_law 1726 = .ok (.ifCond .eq 5, 3) := by decide +kernel
theorem dL_law_1729 : decode cL_law 1729 = .ok (.iconst 0, 1) := by decide +kernel
theorem dL_law_1730 : decode cL_law 1730 = .ok (.ireturn, 1) := by decide +kernel
theorem dL_law_1731 : decode cL_law 1731 = .ok (.goto 588, 3) := by decide +kernel
theorem dL_law_1734 : decode cL_law 1734 = .ok (.aload_n 1, 1) := by decide +kernel
theorem dL_law_1735 : decode cL_law 1735 = .ok (.aload_n 0, 1) := by decide +kernel
theorem dL_law_1736 : decode cL_law 1736 = .ok (.iload 4, 2) := by decide +kernel
theorem dL_law_1738 : decode cL_law 1738 = .ok (.iconst 1, 1) := by decide +kernel
theorem dL_law_1739 : decode cL_law 1739 = .ok (.iadd, 1) := by decide +kernel
theorem dL_law_1740 : decode cL_law 1740 = .ok (.iaload, 1) := by decide +kernel
theorem dL_law_1741 : decode cL_law 1741 = .ok (.aload_n 3, 1) := by decide +kernel
theorem dL_law_1742 : decode cL_law 1742 = .ok (.invokestatic 204, 3) := by decide +kernel
theorem dL_law_1745 : decode cL_law 1745 = .ok (.istore 5, 2) := by decide +kernel
theorem dL_law_1747 : decode cL_law 1747 = .ok (.aload_n 2, 1) := by decide +kernel
theorem dL_law_1748 : decode cL_law 1748 = .ok (.aload_n 0, 1) := by decide +kernel
theorem dL_law_1749 : decode cL_law 1749 = .ok (.iload 4, 2) := by decide +kernel
theorem dL_law_1751 : decode cL_law 1751 = .ok (.iconst 1, 1) := by decide +kernel
theorem dL_law_1752 : decode cL_law 1752 = .ok (.iadd, 1) := by decide +kernel
theorem dL_law_1753 : decode cL_law 1753 = .ok (.iaload, 1) := by decide +kernel
theorem dL_law_1754 : decode cL_law 1754 = .ok (.invokevirtual 206, 3) := by decide +kernel
theorem dL_law_1757 : decode cL_law 1757 = .ok (.istore 6, 2) := by decide +kernel
theorem dL_law_1759 : decode cL_law 1759 = .ok (.aload_n 2, 1) := by decide +kernel
theorem dL_law_1760 : decode cL_law 1760 = .ok (.invokevirtual 128, 3) := by decide +kernel
theorem dL_law_1763 : decode cL_law 1763 = .ok (.iload 5, 2) := by decide +kernel
theorem dL_law_1765 : decode cL_law 1765 = .ok (.if_icmp .eq 5, 3) := by decide +kernel
theorem dL_law_1768 : decode cL_law 1768 = .ok (.iconst 0, 1) := by decide +kernel
theorem dL_law_1769 : decode cL_law 1769 = .ok (.ireturn, 1) := by decide +kernel
theorem dL_law_1770 : decode cL_law 1770 = .ok (.iload 5, 2) := by decide +kernel
theorem dL_law_1772 : decode cL_law 1772 = .ok (.ifCond .ne 15, 3) := by decide +kernel
theorem dL_law_1775 : decode cL_law 1775 = .ok (.aload_n 3, 1) := by decide +kernel
theorem dL_law_1776 : decode cL_law 1776 = .ok (.iconst 0, 1) := by decide +kernel
theorem dL_law_1777 : decode cL_law 1777 = .ok (.laload, 1) := by decide +kernel
theorem dL_law_1778 : decode cL_law 1778 = .ok (.iload 6, 2) := by decide +kernel
theorem dL_law_1780 : decode cL_law 1780 = .ok (.i2l, 1) := by decide +kernel
theorem dL_law_1781 : decode cL_law 1781 = .ok (.lcmp, 1) := by decide +kernel
theorem dL_law_1782 : decode cL_law 1782 = .ok (.ifCond .eq 5, 3) := by decide +kernel
theorem dL_law_1785 : decode cL_law 1785 = .ok (.iconst 0, 1) := by decide +kernel
theorem dL_law_1786 : decode cL_law 1786 = .ok (.ireturn, 1) := by decide +kernel
theorem dL_law_1787 : decode cL_law 1787 = .ok (.goto 532, 3) := by decide +kernel
theorem dL_law_1790 : decode cL_law 1790 = .ok (.aload_n 1, 1) := by decide +kernel
theorem dL_law_1791 : decode cL_law 1791 = .ok (.invokevirtual 207, 3) := by decide +kernel
theorem dL_law_1794 : decode cL_law 1794 = .ok (.aload_n 2, 1) := by decide +kernel
theorem dL_law_1795 : decode cL_law 1795 = .ok (.invokevirtual 210, 3) := by decide +kernel
theorem dL_law_1798 : decode cL_law 1798 = .ok (.if_icmp .eq 521, 3) := by decide +kernel
theorem dL_law_1801 : decode cL_law 1801 = .ok (.iconst 0, 1) := by decide +kernel
theorem dL_law_1802 : decode cL_law 1802 = .ok (.ireturn, 1) := by decide +kernel
theorem dL_law_1803 : decode cL_law 1803 = .ok (.aload_n 1, 1) := by decide +kernel
theorem dL_law_1804 : decode cL_law 1804 = .ok (.aload_n 0, 1) := by decide +kernel
theorem dL_law_1805 : decode cL_law 1805 = .ok (.iload 4, 2) := by decide +kernel
theorem dL_law_1807 : decode cL_law 1807 = .ok (.iconst 1, 1) := by decide +kernel
theorem dL_law_1808 : decode cL_law 1808 = .ok (.iadd, 1) := by decide +kernel
theorem dL_law_1809 : decode cL_law 1809 = .ok (.iaload, 1) := by decide +kernel
theorem dL_law_1810 : decode cL_law 1810 = .ok (.aload_n 3, 1) := by decide +kernel
theorem dL_law_1811 : decode cL_law 1811 = .ok (.invokestatic 211, 3) := by decide +kernel
theorem dL_law_1814 : decode cL_law 1814 = .ok (.istore 5, 2) := by decide +kernel
theorem dL_law_1816 : decode cL_law 1816 = .ok (.aload_n 2, 1) := by decide +kernel
theorem dL_law_1817 : decode cL_law 1817 = .ok (.aload_n 0, 1) := by decide +kernel
theorem dL_law_1818 : decode cL_law 1818 = .ok (.iload 4, 2) := by decide +kernel
theorem dL_law_1820 : decode cL_law 1820 = .ok (.iconst 1, 1) := by decide +kernel
theorem dL_law_1821 : decode cL_law 1821 = .ok (.iadd, 1) := by decide +kernel
theorem dL_law_1822 : decode cL_law 1822 = .ok (.iaload, 1) := by decide +kernel
theorem dL_law_1823 : decode cL_law 1823 = .ok (.invokevirtual 213, 3) := by decide +kernel
theorem dL_law_1826 : decode cL_law 1826 = .ok (.istore 6, 2) := by decide +kernel
theorem dL_law_1828 : decode cL_law 1828 = .ok (.aload_n 2, 1) := by decide +kernel
theorem dL_law_1829 : decode cL_law 1829 = .ok (.invokevirtual 128, 3) := by decide +kernel
theorem dL_law_1832 : decode cL_law 1832 = .ok (.iload 5, 2) := by decide +kernel
theorem dL_law_1834 : decode cL_law 1834 = .ok (.if_icmp .eq 5, 3) := by decide +kernel
theorem dL_law_1837 : decode cL_law 1837 = .ok (.iconst 0, 1) := by decide +kernel
theorem dL_law_1838 : decode cL_law 1838 = .ok (.ireturn, 1) := by decide +kernel
theorem dL_law_1839 : decode cL_law 1839 = .ok (.iload 5, 2) := by decide +kernel
theorem dL_law_1841 : decode cL_law 1841 = .ok (.ifCond .ne 15, 3) := by decide +kernel
theorem dL_law_1844 : decode cL_law 1844 = .ok (.aload_n 3, 1) := by decide +kernel
theorem dL_law_1845 : decode cL_law 1845 = .ok (.iconst 0, 1) := by decide +kernel
theorem dL_law_1846 : decode cL_law 1846 = .ok (.laload, 1) := by decide +kernel
theorem dL_law_1847 : decode cL_law 1847 = .ok (.iload 6, 2) := by decide +kernel
theorem dL_law_1849 : decode cL_law 1849 = .ok (.i2l, 1) := by decide +kernel
theorem dL_law_1850 : decode cL_law 1850 = .ok (.lcmp, 1) := by decide +kernel
theorem dL_law_1851 : decode cL_law 1851 = .ok (.ifCond .eq 5, 3) := by decide +kernel
theorem dL_law_1854 : decode cL_law 1854 = .ok (.iconst 0, 1) := by decide +kernel
theorem dL_law_1855 : decode cL_law 1855 = .ok (.ireturn, 1) := by decide +kernel
theorem dL_law_1856 : decode cL_law 1856 = .ok (.goto 463, 3) := by decide +kernel
theorem dL_law_1859 : decode cL_law 1859 = .ok (.aload_n 1, 1) := by decide +kernel
theorem dL_law_1860 : decode cL_law 1860 = .ok (.aload_n 0, 1) := by decide +kernel
theorem dL_law_1861 : decode cL_law 1861 = .ok (.iload 4, 2) := by decide +kernel
theorem dL_law_1863 : decode cL_law 1863 = .ok (.iconst 1, 1) := by decide +kernel
theorem dL_law_1864 : decode cL_law 1864 = .ok (.iadd, 1) := by decide +kernel
theorem dL_law_1865 : decode cL_law 1865 = .ok (.iaload, 1) := by decide +kernel
theorem dL_law_1866 : decode cL_law 1866 = .ok (.aload_n 3, 1) := by decide +kernel
theorem dL_law_1867 : decode cL_law 1867 = .ok (.invokestatic 214, 3) := by decide +kernel
theorem dL_law_1870 : decode cL_law 1870 = .ok (.istore 5, 2) := by decide +kernel
theorem dL_law_1872 : decode cL_law 1872 = .ok (.aload_n 2, 1) := by decide +kernel
theorem dL_law_1873 : decode cL_law 1873 = .ok (.aload_n 0, 1) := by decide +kernel
theorem dL_law_1874 : decode cL_law 1874 = .ok (.iload 4, 2) := by decide +kernel
theorem dL_law_1876 : decode cL_law 1876 = .ok (.iconst 1, 1) := by decide +kernel
theorem dL_law_1877 : decode cL_law 1877 = .ok (.iadd, 1) := by decide +kernel
theorem dL_law_1878 : decode cL_law 1878 = .ok (.iaload, 1) := by decide +kernel
theorem dL_law_1879 : decode cL_law 1879 = .ok (.invokevirtual 216, 3) := by decide +kernel
theorem dL_law_1882 : decode cL_law 1882 = .ok (.istore 6, 2) := by decide +kernel
theorem dL_law_1884 : decode cL_law 1884 = .ok (.aload_n 2, 1) := by decide +kernel
theorem dL_law_1885 : decode cL_law 1885 = .ok (.invokevirtual 128, 3) := by decide +kernel
theorem dL_law_1888 : decode cL_law 1888 = .ok (.iload 5, 2) := by decide +kernel
theorem dL_law_1890 : decode cL_law 1890 = .ok (.if_icmp .eq 5, 3) := by decide +kernel
theorem dL_law_1893 : decode cL_law 1893 = .ok (.iconst 0, 1) := by decide +kernel
theorem dL_law_1894 : decode cL_law 1894 = .ok (.ireturn, 1) := by decide +kernel
theorem dL_law_1895 : decode cL_law 1895 = .ok (.iload 5, 2) := by decide +kernel
theorem dL_law_1897 : decode cL_law 1897 = .ok (.ifCond .ne 15, 3) := by decide +kernel
theorem dL_law_1900 : decode cL_law 1900 = .ok (.aload_n 3, 1) := by decide +kernel
theorem dL_law_1901 : decode cL_law 1901 = .ok (.iconst 0, 1) := by decide +kernel
theorem dL_law_1902 : decode cL_law 1902 = .ok (.laload, 1) := by decide +kernel
theorem dL_law_1903 : decode cL_law 1903 = .ok (.iload 6, 2) := by decide +kernel
theorem dL_law_1905 : decode cL_law 1905 = .ok (.i2l, 1) := by decide +kernel
theorem dL_law_1906 : decode cL_law 1906 = .ok (.lcmp, 1) := by decide +kernel
theorem dL_law_1907 : decode cL_law 1907 = .ok (.ifCond .eq 5, 3) := by decide +kernel
theorem dL_law_1910 : decode cL_law 1910 = .ok (.iconst 0, 1) := by decide +kernel
theorem dL_law_1911 : decode cL_law 1911 = .ok (.ireturn, 1) := by decide +kernel
theorem dL_law_1912 : decode cL_law 1912 = .ok (.goto 407, 3) := by decide +kernel
theorem dL_law_1915 : decode cL_law 1915 = .ok (.aload_n 1, 1) := by decide +kernel
theorem dL_law_1916 : decode cL_law 1916 = .ok (.aload_n 0, 1) := by decide +kernel
theorem dL_law_1917 : decode cL_law 1917 = .ok (.iload 4, 2) := by decide +kernel
theorem dL_law_1919 : decode cL_law 1919 = .ok (.iconst 1, 1) := by decide +kernel
theorem dL_law_1920 : decode cL_law 1920 = .ok (.iadd, 1) := by decide +kernel
theorem dL_law_1921 : decode cL_law 1921 = .ok (.iaload, 1) := by decide +kernel
theorem dL_law_1922 : decode cL_law 1922 = .ok (.aload_n 3, 1) := by decide +kernel
theorem dL_law_1923 : decode cL_law 1923 = .ok (.invokestatic 217, 3) := by decide +kernel
theorem dL_law_1926 : decode cL_law 1926 = .ok (.istore 5, 2) := by decide +kernel
theorem dL_law_1928 : decode cL_law 1928 = .ok (.aload_n 2, 1) := by decide +kernel
theorem dL_law_1929 : decode cL_law 1929 = .ok (.aload_n 0, 1) := by decide +kernel
theorem dL_law_1930 : decode cL_law 1930 = .ok (.iload 4, 2) := by decide +kernel
theorem dL_law_1932 : decode cL_law 1932 = .ok (.iconst 1, 1) := by decide +kernel
theorem dL_law_1933 : decode cL_law 1933 = .ok (.iadd, 1) := by decide +kernel
theorem dL_law_1934 : decode cL_law 1934 = .ok (.iaload, 1) := by decide +kernel
theorem dL_law_1935 : decode cL_law 1935 = .ok (.invokevirtual 219, 3) := by decide +kernel
theorem dL_law_1938 : decode cL_law 1938 = .ok (.istore 6, 2) := by decide +kernel
theorem dL_law_1940 : decode cL_law 1940 = .ok (.aload_n 2, 1) := by decide +kernel
theorem dL_law_1941 : decode cL_law 1941 = .ok (.invokevirtual 128, 3) := by decide +kernel
theorem dL_law_1944 : decode cL_law 1944 = .ok (.iload 5, 2) := by decide +kernel
theorem dL_law_1946 : decode cL_law 1946 = .ok (.if_icmp .eq 5, 3) := by decide +kernel
theorem dL_law_1949 : decode cL_law 1949 = .ok (.iconst 0, 1) := by decide +kernel
theorem dL_law_1950 : decode cL_law 1950 = .ok (.ireturn, 1) := by decide +kernel
theorem dL_law_1951 : decode cL_law 1951 = .ok (.iload 5, 2) := by decide +kernel
theorem dL_law_1953 : decode cL_law 1953 = .ok (.ifCond .ne 15, 3) := by decide +kernel
theorem dL_law_1956 : decode cL_law 1956 = .ok (.aload_n 3, 1) := by decide +kernel
theorem dL_law_1957 : decode cL_law 1957 = .ok (.iconst 0, 1) := by decide +kernel
theorem dL_law_1958 : decode cL_law 1958 = .ok (.laload, 1) := by decide +kernel
theorem dL_law_1959 : decode cL_law 1959 = .ok (.iload 6, 2) := by decide +kernel
theorem dL_law_1961 : decode cL_law 1961 = .ok (.i2l, 1) := by decide +kernel
theorem dL_law_1962 : decode cL_law 1962 = .ok (.lcmp, 1) := by decide +kernel
theorem dL_law_1963 : decode cL_law 1963 = .ok (.ifCond .eq 5, 3) := by decide +kernel
theorem dL_law_1966 : decode cL_law 1966 = .ok (.iconst 0, 1) := by decide +kernel
theorem dL_law_1967 : decode cL_law 1967 = .ok (.ireturn, 1) := by decide +kernel
theorem dL_law_1968 : decode cL_law 1968 = .ok (.goto 351, 3) := by decide +kernel
theorem dL_law_1971 : decode cL_law 1971 = .ok (.aload_n 1, 1) := by decide +kernel
theorem dL_law_1972 : decode cL_law 1972 = .ok (.aload_n 0, 1) := by decide +kernel
theorem dL_law_1973 : decode cL_law 1973 = .ok (.iload 4, 2) := by decide +kernel
theorem dL_law_1975 : decode cL_law 1975 = .ok (.iconst 1, 1) := by decide +kernel
theorem dL_law_1976 : decode cL_law 1976 = .ok (.iadd, 1) := by decide +kernel
theorem dL_law_1977 : decode cL_law 1977 = .ok (.iaload, 1) := by decide +kernel
theorem dL_law_1978 : decode cL_law 1978 = .ok (.aload_n 3, 1) := by decide +kernel
theorem dL_law_1979 : decode cL_law 1979 = .ok (.invokestatic 220, 3) := by decide +kernel
theorem dL_law_1982 : decode cL_law 1982 = .ok (.istore 5, 2) := by decide +kernel
theorem dL_law_1984 : decode cL_law 1984 = .ok (.aload_n 2, 1) := by decide +kernel
theorem dL_law_1985 : decode cL_law 1985 = .ok (.aload_n 0, 1) := by decide +kernel
theorem dL_law_1986 : decode cL_law 1986 = .ok (.iload 4, 2) := by decide +kernel
theorem dL_law_1988 : decode cL_law 1988 = .ok (.iconst 1, 1) := by decide +kernel
theorem dL_law_1989 : decode cL_law 1989 = .ok (.iadd, 1) := by decide +kernel
theorem dL_law_1990 : decode cL_law 1990 = .ok (.iaload, 1) := by decide +kernel
theorem dL_law_1991 : decode cL_law 1991 = .ok (.invokevirtual 222, 3) := by decide +kernel
theorem dL_law_1994 : decode cL_law 1994 = .ok (.istore 6, 2) := by decide +kernel
theorem dL_law_1996 : decode cL_law 1996 = .ok (.aload_n 2, 1) := by decide +kernel
theorem dL_law_1997 : decode cL_law 1997 = .ok (.invokevirtual 128, 3) := by decide +kernel
theorem dL_law_2000 : decode cL_law 2000 = .ok (.iload 5, 2) := by decide +kernel
theorem dL_law_2002 : decode cL_law 2002 = .ok (.if_icmp .eq 5, 3) := by decide +kernel
theorem dL_law_2005 : decode cL_law 2005 = .ok (.iconst 0, 1) := by decide +kernel
theorem dL_law_2006 : decode cL_law 2006 = .ok (.ireturn, 1) := by decide +kernel
theorem dL_law_2007 : decode cL_law 2007 = .ok (.iload 5, 2) := by decide +kernel
theorem dL_law_2009 : decode cL_law 2009 = .ok (.ifCond .ne 15, 3) := by decide +kernel
theorem dL_law_2012 : decode cL_law 2012 = .ok (.aload_n 3, 1) := by decide +kernel
theorem dL_law_2013 : decode cL_law 2013 = .ok (.iconst 0, 1) := by decide +kernel
theorem dL_law_2014 : decode cL_law 2014 = .ok (.laload, 1) := by decide +kernel
theorem dL_law_2015 : decode cL_law 2015 = .ok (.iload 6, 2) := by decide +kernel
theorem dL_law_2017 : decode cL_law 2017 = .ok (.i2l, 1) := by decide +kernel
theorem dL_law_2018 : decode cL_law 2018 = .ok (.lcmp, 1) := by decide +kernel
theorem dL_law_2019 : decode cL_law 2019 = .ok (.ifCond .eq 5, 3) := by decide +kernel
theorem dL_law_2022 : decode cL_law 2022 = .ok (.iconst 0, 1) := by decide +kernel
theorem dL_law_2023 : decode cL_law 2023 = .ok (.ireturn, 1) := by decide +kernel
theorem dL_law_2024 : decode cL_law 2024 = .ok (.goto 295, 3) := by decide +kernel
theorem dL_law_2027 : decode cL_law 2027 = .ok (.aload_n 1, 1) := by decide +kernel
theorem dL_law_2028 : decode cL_law 2028 = .ok (.aload_n 0, 1) := by decide +kernel
theorem dL_law_2029 : decode cL_law 2029 = .ok (.iload 4, 2) := by decide +kernel
theorem dL_law_2031 : decode cL_law 2031 = .ok (.iconst 1, 1) := by decide +kernel
theorem dL_law_2032 : decode cL_law 2032 = .ok (.iadd, 1) := by decide +kernel
theorem dL_law_2033 : decode cL_law 2033 = .ok (.iaload, 1) := by decide +kernel
theorem dL_law_2034 : decode cL_law 2034 = .ok (.aload_n 3, 1) := by decide +kernel
theorem dL_law_2035 : decode cL_law 2035 = .ok (.invokestatic 223, 3) := by decide +kernel
theorem dL_law_2038 : decode cL_law 2038 = .ok (.istore 5, 2) := by decide +kernel
theorem dL_law_2040 : decode cL_law 2040 = .ok (.aload_n 2, 1) := by decide +kernel
theorem dL_law_2041 : decode cL_law 2041 = .ok (.aload_n 0, 1) := by decide +kernel
theorem dL_law_2042 : decode cL_law 2042 = .ok (.iload 4, 2) := by decide +kernel
theorem dL_law_2044 : decode cL_law 2044 = .ok (.iconst 1, 1) := by decide +kernel
theorem dL_law_2045 : decode cL_law 2045 = .ok (.iadd, 1) := by decide +kernel
theorem dL_law_2046 : decode cL_law 2046 = .ok (.iaload, 1) := by decide +kernel
theorem dL_law_2047 : decode cL_law 2047 = .ok (.invokevirtual 225, 3) := by decide +kernel
theorem dL_law_2050 : decode cL_law 2050 = .ok (.istore 6, 2) := by decide +kernel
theorem dL_law_2052 : decode cL_law 2052 = .ok (.aload_n 2, 1) := by decide +kernel
theorem dL_law_2053 : decode cL_law 2053 = .ok (.invokevirtual 128, 3) := by decide +kernel
theorem dL_law_2056 : decode cL_law 2056 = .ok (.iload 5, 2) := by decide +kernel
theorem dL_law_2058 : decode cL_law 2058 = .ok (.if_icmp .eq 5, 3) := by decide +kernel
theorem dL_law_2061 : decode cL_law 2061 = .ok (.iconst 0, 1) := by decide +kernel
theorem dL_law_2062 : decode cL_law 2062 = .ok (.ireturn, 1) := by decide +kernel
theorem dL_law_2063 : decode cL_law 2063 = .ok (.iload 5, 2) := by decide +kernel
theorem dL_law_2065 : decode cL_law 2065 = .ok (.ifCond .ne 15, 3) := by decide +kernel
theorem dL_law_2068 : decode cL_law 2068 = .ok (.aload_n 3, 1) := by decide +kernel
theorem dL_law_2069 : decode cL_law 2069 = .ok (.iconst 0, 1) := by decide +kernel
theorem dL_law_2070 : decode cL_law 2070 = .ok (.laload, 1) := by decide +kernel
theorem dL_law_2071 : decode cL_law 2071 = .ok (.iload 6, 2) := by decide +kernel
theorem dL_law_2073 : decode cL_law 2073 = .ok (.i2l, 1) := by decide +kernel
theorem dL_law_2074 : decode cL_law 2074 = .ok (.lcmp, 1) := by decide +kernel
theorem dL_law_2075 : decode cL_law 2075 = .ok (.ifCond .eq 5, 3) := by decide +kernel
theorem dL_law_2078 : decode cL_law 2078 = .ok (.iconst 0, 1) := by decide +kernel
theorem dL_law_2079 : decode cL_law 2079 = .ok (.ireturn, 1) := by decide +kernel
theorem dL_law_2080 : decode cL_law 2080 = .ok (.goto 239, 3) := by decide +kernel
theorem dL_law_2083 : decode cL_law 2083 = .ok (.aload_n 1, 1) := by decide +kernel
theorem dL_law_2084 : decode cL_law 2084 = .ok (.aload_n 0, 1) := by decide +kernel
theorem dL_law_2085 : decode cL_law 2085 = .ok (.iload 4, 2) := by decide +kernel
theorem dL_law_2087 : decode cL_law 2087 = .ok (.iconst 1, 1) := by decide +kernel
theorem dL_law_2088 : decode cL_law 2088 = .ok (.iadd, 1) := by decide +kernel
theorem dL_law_2089 : decode cL_law 2089 = .ok (.iaload, 1) := by decide +kernel
theorem dL_law_2090 : decode cL_law 2090 = .ok (.aload_n 3, 1) := by decide +kernel
theorem dL_law_2091 : decode cL_law 2091 = .ok (.invokestatic 226, 3) := by decide +kernel
theorem dL_law_2094 : decode cL_law 2094 = .ok (.istore 5, 2) := by decide +kernel
theorem dL_law_2096 : decode cL_law 2096 = .ok (.aload_n 2, 1) := by decide +kernel
theorem dL_law_2097 : decode cL_law 2097 = .ok (.aload_n 0, 1) := by decide +kernel
theorem dL_law_2098 : decode cL_law 2098 = .ok (.iload 4, 2) := by decide +kernel
theorem dL_law_2100 : decode cL_law 2100 = .ok (.iconst 1, 1) := by decide +kernel
theorem dL_law_2101 : decode cL_law 2101 = .ok (.iadd, 1) := by decide +kernel
theorem dL_law_2102 : decode cL_law 2102 = .ok (.iaload, 1) := by decide +kernel
theorem dL_law_2103 : decode cL_law 2103 = .ok (.invokevirtual 228, 3) := by decide +kernel
theorem dL_law_2106 : decode cL_law 2106 = .ok (.istore 6, 2) := by decide +kernel
theorem dL_law_2108 : decode cL_law 2108 = .ok (.aload_n 2, 1) := by decide +kernel
theorem dL_law_2109 : decode cL_law 2109 = .ok (.invokevirtual 128, 3) := by decide +kernel
theorem dL_law_2112 : decode cL_law 2112 = .ok (.iload 5, 2) := by decide +kernel
theorem dL_law_2114 : decode cL_law 2114 = .ok (.if_icmp .eq 5, 3) := by decide +kernel
theorem dL_law_2117 : decode cL_law 2117 = .ok (.iconst 0, 1) := by decide +kernel
theorem dL_law_2118 : decode cL_law 2118 = .ok (.ireturn, 1) := by decide +kernel
theorem dL_law_2119 : decode cL_law 2119 = .ok (.iload 5, 2) := by decide +kernel
theorem dL_law_2121 : decode cL_law 2121 = .ok (.ifCond .ne 15, 3) := by decide +kernel
theorem dL_law_2124 : decode cL_law 2124 = .ok (.aload_n 3, 1) := by decide +kernel
theorem dL_law_2125 : decode cL_law 2125 = .ok (.iconst 0, 1) := by decide +kernel
theorem dL_law_2126 : decode cL_law 2126 = .ok (.laload, 1) := by decide +kernel
theorem dL_law_2127 : decode cL_law 2127 = .ok (.iload 6, 2) := by decide +kernel
theorem dL_law_2129 : decode cL_law 2129 = .ok (.i2l, 1) := by decide +kernel
theorem dL_law_2130 : decode cL_law 2130 = .ok (.lcmp, 1) := by decide +kernel
theorem dL_law_2131 : decode cL_law 2131 = .ok (.ifCond .eq 5, 3) := by decide +kernel
theorem dL_law_2134 : decode cL_law 2134 = .ok (.iconst 0, 1) := by decide +kernel
theorem dL_law_2135 : decode cL_law 2135 = .ok (.ireturn, 1) := by decide +kernel
theorem dL_law_2136 : decode cL_law 2136 = .ok (.goto 183, 3) := by decide +kernel
theorem dL_law_2139 : decode cL_law 2139 = .ok (.aload_n 1, 1) := by decide +kernel
theorem dL_law_2140 : decode cL_law 2140 = .ok (.aload_n 0, 1) := by decide +kernel
theorem dL_law_2141 : decode cL_law 2141 = .ok (.iload 4, 2) := by decide +kernel
theorem dL_law_2143 : decode cL_law 2143 = .ok (.iconst 1, 1) := by decide +kernel
theorem dL_law_2144 : decode cL_law 2144 = .ok (.iadd, 1) := by decide +kernel
theorem dL_law_2145 : decode cL_law 2145 = .ok (.iaload, 1) := by decide +kernel
theorem dL_law_2146 : decode cL_law 2146 = .ok (.aload_n 3, 1) := by decide +kernel
theorem dL_law_2147 : decode cL_law 2147 = .ok (.invokestatic 229, 3) := by decide +kernel
theorem dL_law_2150 : decode cL_law 2150 = .ok (.istore 5, 2) := by decide +kernel
theorem dL_law_2152 : decode cL_law 2152 = .ok (.aload_n 2, 1) := by decide +kernel
theorem dL_law_2153 : decode cL_law 2153 = .ok (.aload_n 0, 1) := by decide +kernel
theorem dL_law_2154 : decode cL_law 2154 = .ok (.iload 4, 2) := by decide +kernel
theorem dL_law_2156 : decode cL_law 2156 = .ok (.iconst 1, 1) := by decide +kernel
theorem dL_law_2157 : decode cL_law 2157 = .ok (.iadd, 1) := by decide +kernel
theorem dL_law_2158 : decode cL_law 2158 = .ok (.iaload, 1) := by decide +kernel
theorem dL_law_2159 : decode cL_law 2159 = .ok (.invokevirtual 231, 3) := by decide +kernel
theorem dL_law_2162 : decode cL_law 2162 = .ok (.istore 6, 2) := by decide +kernel
theorem dL_law_2164 : decode cL_law 2164 = .ok (.aload_n 2, 1) := by decide +kernel
theorem dL_law_2165 : decode cL_law 2165 = .ok (.invokevirtual 128, 3) := by decide +kernel
theorem dL_law_2168 : decode cL_law 2168 = .ok (.iload 5, 2) := by decide +kernel
theorem dL_law_2170 : decode cL_law 2170 = .ok (.if_icmp .eq 5, 3) := by decide +kernel
theorem dL_law_2173 : decode cL_law 2173 = .ok (.iconst 0, 1) := by decide +kernel
theorem dL_law_2174 : decode cL_law 2174 = .ok (.ireturn, 1) := by decide +kernel
theorem dL_law_2175 : decode cL_law 2175 = .ok (.iload 5, 2) := by decide +kernel
theorem dL_law_2177 : decode cL_law 2177 = .ok (.ifCond .ne 15, 3) := by decide +kernel
theorem dL_law_2180 : decode cL_law 2180 = .ok (.aload_n 3, 1) := by decide +kernel
theorem dL_law_2181 : decode cL_law 2181 = .ok (.iconst 0, 1) := by decide +kernel
theorem dL_law_2182 : decode cL_law 2182 = .ok (.laload, 1) := by decide +kernel
theorem dL_law_2183 : decode cL_law 2183 = .ok (.iload 6, 2) := by decide +kernel
theorem dL_law_2185 : decode cL_law 2185 = .ok (.i2l, 1) := by decide +kernel
theorem dL_law_2186 : decode cL_law 2186 = .ok (.lcmp, 1) := by decide +kernel
theorem dL_law_2187 : decode cL_law 2187 = .ok (.ifCond .eq 5, 3) := by decide +kernel
theorem dL_law_2190 : decode cL_law 2190 = .ok (.iconst 0, 1) := by decide +kernel
theorem dL_law_2191 : decode cL_law 2191 = .ok (.ireturn, 1) := by decide +kernel
theorem dL_law_2192 : decode cL_law 2192 = .ok (.goto 127, 3) := by decide +kernel
theorem dL_law_2195 : decode cL_law 2195 = .ok (.aload_n 1, 1) := by decide +kernel
theorem dL_law_2196 : decode cL_law 2196 = .ok (.aload_n 0, 1) := by decide +kernel
theorem dL_law_2197 : decode cL_law 2197 = .ok (.iload 4, 2) := by decide +kernel
theorem dL_law_2199 : decode cL_law 2199 = .ok (.iconst 1, 1) := by decide +kernel
theorem dL_law_2200 : decode cL_law 2200 = .ok (.iadd, 1) := by decide +kernel
theorem dL_law_2201 : decode cL_law 2201 = .ok (.iaload, 1) := by decide +kernel
theorem dL_law_2202 : decode cL_law 2202 = .ok (.aload_n 3, 1) := by decide +kernel
theorem dL_law_2203 : decode cL_law 2203 = .ok (.invokestatic 232, 3) := by decide +kernel
theorem dL_law_2206 : decode cL_law 2206 = .ok (.istore 5, 2) := by decide +kernel
theorem dL_law_2208 : decode cL_law 2208 = .ok (.aload_n 2, 1) := by decide +kernel
theorem dL_law_2209 : decode cL_law 2209 = .ok (.aload_n 0, 1) := by decide +kernel
theorem dL_law_2210 : decode cL_law 2210 = .ok (.iload 4, 2) := by decide +kernel
theorem dL_law_2212 : decode cL_law 2212 = .ok (.iconst 1, 1) := by decide +kernel
theorem dL_law_2213 : decode cL_law 2213 = .ok (.iadd, 1) := by decide +kernel
theorem dL_law_2214 : decode cL_law 2214 = .ok (.iaload, 1) := by decide +kernel
theorem dL_law_2215 : decode cL_law 2215 = .ok (.invokevirtual 234, 3) := by decide +kernel
theorem dL_law_2218 : decode cL_law 2218 = .ok (.istore 6, 2) := by decide +kernel
theorem dL_law_2220 : decode cL_law 2220 = .ok (.aload_n 2, 1) := by decide +kernel
theorem dL_law_2221 : decode cL_law 2221 = .ok (.invokevirtual 128, 3) := by decide +kernel
theorem dL_law_2224 : decode cL_law 2224 = .ok (.iload 5, 2) := by decide +kernel
theorem dL_law_2226 : decode cL_law 2226 = .ok (.if_icmp .eq 5, 3) := by decide +kernel
theorem dL_law_2229 : decode cL_law 2229 = .ok (.iconst 0, 1) := by decide +kernel
theorem dL_law_2230 : decode cL_law 2230 = .ok (.ireturn, 1) := by decide +kernel
theorem dL_law_2231 : decode cL_law 2231 = .ok (.iload 5, 2) := by decide +kernel
theorem dL_law_2233 : decode cL_law 2233 = .ok (.ifCond .ne 15, 3) := by decide +kernel
theorem dL_law_2236 : decode cL_law 2236 = .ok (.aload_n 3, 1) := by decide +kernel
theorem dL_law_2237 : decode cL_law 2237 = .ok (.iconst 0, 1) := by decide +kernel
theorem dL_law_2238 : decode cL_law 2238 = .ok (.laload, 1) := by decide +kernel
theorem dL_law_2239 : decode cL_law 2239 = .ok (.iload 6, 2) := by decide +kernel
theorem dL_law_2241 : decode cL_law 2241 = .ok (.i2l, 1) := by decide +kernel
theorem dL_law_2242 : decode cL_law 2242 = .ok (.lcmp, 1) := by decide +kernel
theorem dL_law_2243 : decode cL_law 2243 = .ok (.ifCond .eq 5, 3) := by decide +kernel
theorem dL_law_2246 : decode cL_law 2246 = .ok (.iconst 0, 1) := by decide +kernel
theorem dL_law_2247 : decode cL_law 2247 = .ok (.ireturn, 1) := by decide +kernel
theorem dL_law_2248 : decode cL_law 2248 = .ok (.goto 71, 3) := by decide +kernel
theorem dL_law_2251 : decode cL_law 2251 = .ok (.aload_n 1, 1) := by decide +kernel
theorem dL_law_2252 : decode cL_law 2252 = .ok (.aload_n 0, 1) := by decide +kernel
theorem dL_law_2253 : decode cL_law 2253 = .ok (.iload 4, 2) := by decide +kernel
theorem dL_law_2255 : decode cL_law 2255 = .ok (.iconst 1, 1) := by decide +kernel
theorem dL_law_2256 : decode cL_law 2256 = .ok (.iadd, 1) := by decide +kernel
theorem dL_law_2257 : decode cL_law 2257 = .ok (.iaload, 1) := by decide +kernel
theorem dL_law_2258 : decode cL_law 2258 = .ok (.aload_n 0, 1) := by decide +kernel
theorem dL_law_2259 : decode cL_law 2259 = .ok (.iload 4, 2) := by decide +kernel
theorem dL_law_2261 : decode cL_law 2261 = .ok (.iconst 2, 1) := by decide +kernel
theorem dL_law_2262 : decode cL_law 2262 = .ok (.iadd, 1) := by decide +kernel
theorem dL_law_2263 : decode cL_law 2263 = .ok (.iaload, 1) := by decide +kernel
theorem dL_law_2264 : decode cL_law 2264 = .ok (.aload_n 3, 1) := by decide +kernel
theorem dL_law_2265 : decode cL_law 2265 = .ok (.invokestatic 235, 3) := by decide +kernel
theorem dL_law_2268 : decode cL_law 2268 = .ok (.istore 5, 2) := by decide +kernel
theorem dL_law_2270 : decode cL_law 2270 = .ok (.aload_n 2, 1) := by decide +kernel
theorem dL_law_2271 : decode cL_law 2271 = .ok (.aload_n 0, 1) := by decide +kernel
theorem dL_law_2272 : decode cL_law 2272 = .ok (.iload 4, 2) := by decide +kernel
theorem dL_law_2274 : decode cL_law 2274 = .ok (.iconst 1, 1) := by decide +kernel
theorem dL_law_2275 : decode cL_law 2275 = .ok (.iadd, 1) := by decide +kernel
theorem dL_law_2276 : decode cL_law 2276 = .ok (.iaload, 1) := by decide +kernel
theorem dL_law_2277 : decode cL_law 2277 = .ok (.aload_n 0, 1) := by decide +kernel
theorem dL_law_2278 : decode cL_law 2278 = .ok (.iload 4, 2) := by decide +kernel
theorem dL_law_2280 : decode cL_law 2280 = .ok (.iconst 2, 1) := by decide +kernel
theorem dL_law_2281 : decode cL_law 2281 = .ok (.iadd, 1) := by decide +kernel
theorem dL_law_2282 : decode cL_law 2282 = .ok (.iaload, 1) := by decide +kernel
theorem dL_law_2283 : decode cL_law 2283 = .ok (.invokevirtual 237, 3) := by decide +kernel
theorem dL_law_2286 : decode cL_law 2286 = .ok (.istore 6, 2) := by decide +kernel
theorem dL_law_2288 : decode cL_law 2288 = .ok (.aload_n 2, 1) := by decide +kernel
theorem dL_law_2289 : decode cL_law 2289 = .ok (.invokevirtual 128, 3) := by decide +kernel
theorem dL_law_2292 : decode cL_law 2292 = .ok (.iload 5, 2) := by decide +kernel
theorem dL_law_2294 : decode cL_law 2294 = .ok (.if_icmp .eq 5, 3) := by decide +kernel
theorem dL_law_2297 : decode cL_law 2297 = .ok (.iconst 0, 1) := by decide +kernel
theorem dL_law_2298 : decode cL_law 2298 = .ok (.ireturn, 1) := by decide +kernel
theorem dL_law_2299 : decode cL_law 2299 = .ok (.iload 5, 2) := by decide +kernel
theorem dL_law_2301 : decode cL_law 2301 = .ok (.ifCond .ne 15, 3) := by decide +kernel
theorem dL_law_2304 : decode cL_law 2304 = .ok (.aload_n 3, 1) := by decide +kernel
theorem dL_law_2305 : decode cL_law 2305 = .ok (.iconst 0, 1) := by decide +kernel
theorem dL_law_2306 : decode cL_law 2306 = .ok (.laload, 1) := by decide +kernel
theorem dL_law_2307 : decode cL_law 2307 = .ok (.iload 6, 2) := by decide +kernel
theorem dL_law_2309 : decode cL_law 2309 = .ok (.i2l, 1) := by decide +kernel
theorem dL_law_2310 : decode cL_law 2310 = .ok (.lcmp, 1) := by decide +kernel
theorem dL_law_2311 : decode cL_law 2311 = .ok (.ifCond .eq 5, 3) := by decide +kernel
theorem dL_law_2314 : decode cL_law 2314 = .ok (.iconst 0, 1) := by decide +kernel
theorem dL_law_2315 : decode cL_law 2315 = .ok (.ireturn, 1) := by decide +kernel
theorem dL_law_2316 : decode cL_law 2316 = .ok (.goto 3, 3) := by decide +kernel
theorem dL_law_2319 : decode cL_law 2319 = .ok (.iinc 4 7, 3) := by decide +kernel
theorem dL_law_2322 : decode cL_law 2322 = .ok (.goto (-2299), 3) := by decide +kernel
theorem dL_law_2325 : decode cL_law 2325 = .ok (.iconst 1, 1) := by decide +kernel
theorem dL_law_2326 : decode cL_law 2326 = .ok (.ireturn, 1) := by decide +kernel
end
section
/-! THE JUDGEMENT zz: a frame with named locals over any heap of a world G; its rows are the kit's own, wrapped -/
def gT : List Cond := lw_tbl.filter goodWord
theorem gT_in {w : Cond} (h : w ∈ lw_tbl) (hg : goodWord w = true) : w ∈ gT := List.mem_filter.mpr ⟨h, hg⟩
theorem gT_t {w : Cond} (i : Nat) (h : tables_1[i]? = some w) (hg : goodWord w = true) : w ∈ gT := gT_in (List.mem_append_right _ (List.mem_of_getElem? h)) hg
theorem gT_s {w : Cond} (i : Nat) (h : (k2_sels lw_privs)[i]? = some w) (hg : goodWord w = true) : w ∈ gT := gT_in (List.mem_append_left _ (List.mem_of_getElem? h)) hg
theorem gT_good {w : Cond} (h : w ∈ gT) : (w.onTables && w.keeps) = true ∨ ∃ ty, w = .arrayClass ty := good_of_word (List.mem_filter.mp h).2
def ztys (dA : Nat → ClassId) : List (ClassId × FieldType) := [(dA 0, .int), (dA 1, .object "MeshBiller$Zone"), (dA 2, .object "MeshBiller$Cell"), (dA 3, .object "MeshBiller$Wallet"), (dA 4, .object "MeshBiller$Phone"), (dA 5, .object "java/lang/Object"), (dA 6, .byte), (dA 7, .long)]
def zK (D : va_G) (dA : Nat → ClassId) (U : State) : Prop := va_K D vwCl (ztys dA) U
/-- the strings of the thrown messages: index in the pool, text -/
def zstrs : List (Nat × String) := [(353, "no such cell"), (73, "zone is out of range"), (84, "a call has been begun"), (94, "channels or guarded is out of range"), (106, "zone or rate is out of range"), (121, "seconds is out of range"), (355, "no such phone"), (128, "cap is out of range"), (357, "no such wallet"), (141, "the phone is in a call"), (148, "amount is out of range"), (153, "both wallets are the same, or amount is out of range"), (155, "too little free money"), (157, "zones, seconds, days, rank or price is out of range"), (163, "too little free money, or too many bundles"), (201, "no such bundle"), (215, "both phones are the same"), (217, "one of both is in a call"), (226, "there are no channels for both"), (228, "too many calls or legs"), (359, "no such call"), (254, "the phone is in a call, or the call is over or full"), (256, "there is no channel, or there are too many legs"), (259, "the phone is in no call"), (278, "the second would be above the last one"), (361, "no such leg"), (326, "place is below 0")]
/-- what the statics hold, all that a method of this claim reads of them; no method writes them -/
def zSt (A : Nat → Prop) (U : State) (H : Heap) : Prop :=
  vx_Zq Bundle.tN "UNASSIGNED_STACK" Bundle.steD A U H ∧ vx_Zq Bundle.tN "SUPPRESSED_SENTINEL" Bundle.listD A U H ∧
  (∀ q ∈ zstrs, ∃ a, vk_R "MeshBiller" q.1 q.2 a U) ∧
  (∃ ea, va_Z "java/util/ArrayList" "DEFAULTCAPACITY_EMPTY_ELEMENTDATA" "[Ljava/lang/Object;" (.ref ea) A U H ∧ va_T (.object "java/lang/Object") ea 0 (fun _ => .null) A U H)
theorem zSt.moved {A : Nat → Prop} {u U : State} {H : Heap} (hvm : u.vm.Alike U.vm) (hs : ∀ k tx a, vk_R "MeshBiller" k tx a u → vk_R "MeshBiller" k tx a U) (h : zSt A u H) : zSt A U H :=
  ⟨h.1.moved hvm, h.2.1.moved hvm, fun q hq => (h.2.2.1 q hq).elim fun a ha => ⟨a, hs _ _ _ ha⟩, h.2.2.2.elim fun ea he => ⟨ea, va_Z.moved hvm he.1, va_T.moved hvm he.2⟩⟩
theorem zSt.kept {A : Nat → Prop} {U : State} {H H1 : Heap} (h : zSt A U H) (hq : ∀ a : Nat, a < H.size → ¬ A a → H1[a]? = H[a]?) : zSt A U H1 :=
  ⟨h.1.kept hq, h.2.1.kept hq, h.2.2.1, h.2.2.2.elim fun ea he => ⟨ea, va_Z.kept he.1 hq, va_T.kept he.2 hq⟩⟩

section ZZ
variable {p : Program} {l : Launch} {e : Env} {R : Room} {s : State} {m : MethodId} {args : Array Value} {below : List Frame} {meth : Method} {c : Code} {A : Nat → Prop} {G : Heap → Prop} {cells slots : Nat} {Q : State → Prop}
/-- from every heap of the world G the machine, at pc with the locals lo (and longs ll) and the stack st, comes to Q -/
def zz (p : Program) (l : Launch) (e : Env) (R : Room) (s : State) (m : MethodId) (args : Array Value) (below : List Frame) (meth : Method) (c : Code) (A : Nat → Prop) (G : Heap → Prop) (cells slots : Nat) (Q : State → Prop) (pc : Nat) (lo : List (Nat × Value)) (ll : List (Nat × Int64)) (st : List Value) : Prop :=
  ∀ (H : Heap) (locs : List Loc) (ls : Array Slot), G H → va_S A s.heap H locs → lv_has ls c.maxLocals (lo ++ ll.map (fun q => (q.1, Value.long q.2))) → (∀ q ∈ lo, q.2.category = 1) → W p l e R s m args below meth c H locs cells slots Q (F0 m pc ls st)
/-- what a method's rows rest on -/
def zc (p : Program) (l : Launch) (s : State) (m : MethodId) (args : Array Value) (meth : Method) (c : Code) (cc : ByteArray) (own : String) (D : va_G) (dA : Nat → ClassId) (A : Nat → Prop) : Prop :=
  p.tables.exec = Jvm.exec ∧ c.code = cc ∧ s.vm.findClass own = some m.cls ∧ (∀ w ∈ gT, w.before args s = true) ∧ meth.locks = false ∧ zK D dA s ∧ (∀ q, s.heap.size ≤ q → A q) ∧ zSt A s s.heap ∧ l.stackTraces = false
variable {cc : ByteArray} {own : String} {D : va_G} {dA : Nat → ClassId} {pc : Nat} {lo lo' : List (Nat × Value)} {ll ll' : List (Nat × Int64)} {rest : List Value}
theorem zlk {lo : List (Nat × Value)} {ll : List (Nat × Int64)} {ls : Array Slot} {n i : Nat} {v : Value} (h : lv_has ls n (lo ++ ll.map (fun q => (q.1, Value.long q.2)))) (hk : lo.lookup i = some v) : ls[i]? = some (.val v) := by
  refine h.2.2 (i, v) (List.mem_append_left _ ?_)
  clear h
  induction lo with
  | nil => cases hk
  | cons q t ih =>
    obtain ⟨a, b⟩ := q
    rw [List.lookup_cons] at hk
    by_cases ha : i = a
    · subst ha
      simp at hk
      subst hk
      exact List.mem_cons_self
    · rw [show (i == a) = false by simpa using ha] at hk
      exact List.mem_cons_of_mem _ (ih hk)
theorem zlkl {lo : List (Nat × Value)} {ll : List (Nat × Int64)} {ls : Array Slot} {n i : Nat} {v : Int64} (h : lv_has ls n (lo ++ ll.map (fun q => (q.1, Value.long q.2)))) (hk : ll.lookup i = some v) : ls[i]? = some (.val (.long v)) := by
  refine h.2.2 (i, .long v) (List.mem_append_right _ (List.mem_map.mpr ⟨(i, v), ?_, rfl⟩))
  clear h
  induction ll with
  | nil => cases hk
  | cons q t ih =>
    obtain ⟨a, b⟩ := q
    rw [List.lookup_cons] at hk
    by_cases ha : i = a
    · subst ha
      simp at hk
      subst hk
      exact List.mem_cons_self
    · rw [show (i == a) = false by simpa using ha] at hk
      exact List.mem_cons_of_mem _ (ih hk)
theorem zz.conseq {G' : Heap → Prop} (h : ∀ H, G H → G' H) (k : zz p l e R s m args below meth c A G' cells slots Q pc lo ll rest) : zz p l e R s m args below meth c A G cells slots Q pc lo ll rest := fun H locs ls hG hS hl hc => k H locs ls (h H hG) hS hl hc
theorem zz.ex {α : Type} {G' : α → Heap → Prop} (k : ∀ a, zz p l e R s m args below meth c A (G' a) cells slots Q pc lo ll rest) : zz p l e R s m args below meth c A (fun H => ∃ a, G' a H) cells slots Q pc lo ll rest := fun H locs ls hG hS hl hc => hG.elim fun a h => k a H locs ls h hS hl hc
theorem zz.pre {P0 : Prop} (h : ∀ H, G H → P0) (k : P0 → zz p l e R s m args below meth c A G cells slots Q pc lo ll rest) : zz p l e R s m args below meth c A G cells slots Q pc lo ll rest := fun H locs ls hG hS hl hc => k (h H hG) H locs ls hG hS hl hc
theorem zz.widen {k n : Nat} (h1 : cells ≤ k) (h2 : slots ≤ n) (kk : zz p l e R s m args below meth c A G k n Q pc lo ll rest) : zz p l e R s m args below meth c A G cells slots Q pc lo ll rest := fun H locs ls hG hS hl hc => W.widen h1 h2 (kk H locs ls hG hS hl hc)
theorem zz.los (h : ∀ q ∈ lo', q ∈ lo) (k : zz p l e R s m args below meth c A G cells slots Q pc lo' ll rest) : zz p l e R s m args below meth c A G cells slots Q pc lo ll rest := fun H locs ls hG hS hl hc => k H locs ls hG hS ⟨hl.1, hl.2.1, fun q hq => (List.mem_append.mp hq).elim (fun z => hl.2.2 q (List.mem_append_left _ (h q z))) (fun z => hl.2.2 q (List.mem_append_right _ z))⟩ (fun q hq => hc q (h q hq))
/-- fewer locals, by their numbers -/
def zpick (lo : List (Nat × Value)) (ks : List Nat) : List (Nat × Value) := ks.filterMap (fun k => (lo.lookup k).map (fun v => (k, v)))
theorem zlook_mem {α : Type} {lo : List (Nat × α)} {i : Nat} {v : α} (hk : lo.lookup i = some v) : (i, v) ∈ lo := by
  induction lo with
  | nil => cases hk
  | cons q t ih =>
    obtain ⟨a, b⟩ := q
    rw [List.lookup_cons] at hk
    by_cases ha : i = a
    · subst ha
      simp at hk
      subst hk
      exact List.mem_cons_self
    · rw [show (i == a) = false by simpa using ha] at hk
      exact List.mem_cons_of_mem _ (ih hk)
theorem zz.pick (ks : List Nat) (h : zpick lo ks = lo') (k : zz p l e R s m args below meth c A G cells slots Q pc lo' ll rest) : zz p l e R s m args below meth c A G cells slots Q pc lo ll rest := by
  refine zz.los (lo' := lo') (fun q hq => ?_) k
  rw [← h] at hq
  obtain ⟨i, -, hi⟩ := List.mem_filterMap.mp hq
  cases hv : lo.lookup i with
  | none => rw [hv] at hi; cases hi
  | some v => rw [hv] at hi; cases hi; exact zlook_mem hv
def zst (i : Nat) (v : Value) (lo : List (Nat × Value)) : List (Nat × Value) := (i, v) :: lo.filter (fun q => !(q.1 == i))
theorem zst_has {ls : Array Slot} {nL i : Nat} {v : Value} (hc : ∀ q ∈ lo, q.2.category = 1) (hll : ll.all (fun q => !(q.1 == i) && !(q.1 + 1 == i)) = true)
    (h : lv_has ls nL ((i, v) :: (lo ++ ll.map (fun q => (q.1, Value.long q.2))).filter (fun q => !(q.1 == i) && !(q.1 + 1 == i && q.2.category == 2)))) : lv_has ls nL (zst i v lo ++ ll.map (fun q => (q.1, Value.long q.2))) := by
  refine ⟨h.1, h.2.1, fun q hq => h.2.2 q ?_⟩
  rcases List.mem_append.mp hq with hq | hq
  · rcases List.mem_cons.mp hq with rfl | hq
    · exact List.mem_cons_self
    · obtain ⟨h1, h2⟩ := List.mem_filter.mp hq
      refine List.mem_cons_of_mem _ (List.mem_filter.mpr ⟨List.mem_append_left _ h1, ?_⟩)
      rw [hc q h1, h2]
      simp
  · refine List.mem_cons_of_mem _ (List.mem_filter.mpr ⟨List.mem_append_right _ hq, ?_⟩)
    obtain ⟨z, hz, rfl⟩ := List.mem_map.mp hq
    have h3 := List.all_eq_true.mp hll z hz
    simp only [Bool.and_eq_true, Bool.not_eq_true', beq_eq_false_iff_ne, ne_eq] at h3
    simp [h3.1, h3.2]
theorem zst_cat {i : Nat} {v : Value} (hc : ∀ q ∈ lo, q.2.category = 1) (hv : v.category = 1) : ∀ q ∈ zst i v lo, q.2.category = 1 := by
  intro q hq
  rcases List.mem_cons.mp hq with rfl | hq
  · exact hv
  · exact hc q (List.mem_filter.mp hq).1

theorem z_iconst (X : zc p l s m args meth c cc own D dA A) {n : Int} {v : Int32} (hdg : decode cc pc = .ok (.iconst n, 1)) (hv : Int32.ofInt n = v) (k : zz p l e R s m args below meth c A G cells slots Q (pc + 1) lo ll (.int v :: rest)) : zz p l e R s m args below meth c A G cells slots Q pc lo ll (rest) :=
  fun H locs ls hG hS hl hc => lv_iconst X.1 X.2.1 hdg hv (k H locs ls hG hS hl hc)
theorem z_bipush (X : zc p l s m args meth c cc own D dA A) {n : Int} {v : Int32} (hdg : decode cc pc = .ok (.bipush n, 2)) (hv : (Int8.ofInt n).toInt32 = v) (k : zz p l e R s m args below meth c A G cells slots Q (pc + 2) lo ll (.int v :: rest)) : zz p l e R s m args below meth c A G cells slots Q pc lo ll (rest) :=
  fun H locs ls hG hS hl hc => lv_bipush X.1 X.2.1 hdg hv (k H locs ls hG hS hl hc)
theorem z_sipush (X : zc p l s m args meth c cc own D dA A) {n : Int} {v : Int32} (hdg : decode cc pc = .ok (.sipush n, 3)) (hv : (Int16.ofInt n).toInt32 = v) (k : zz p l e R s m args below meth c A G cells slots Q (pc + 3) lo ll (.int v :: rest)) : zz p l e R s m args below meth c A G cells slots Q pc lo ll (rest) :=
  fun H locs ls hG hS hl hc => lv_sipush X.1 X.2.1 hdg hv (k H locs ls hG hS hl hc)
theorem z_ldc (X : zc p l s m args meth c cc own D dA A) {index : Nat} {v : Int32} (hw : Jvm.Cond.constant own index v ∈ gT) (hdg : decode cc pc = .ok (.ldc index, 2)) (k : zz p l e R s m args below meth c A G cells slots Q (pc + 2) lo ll (.int v :: rest)) : zz p l e R s m args below meth c A G cells slots Q pc lo ll (rest) :=
  fun H locs ls hG hS hl hc => lv_ldc X.1 X.2.1 X.2.2.1 (X.2.2.2.1 _ hw) hdg (k H locs ls hG hS hl hc)
theorem z_ldcw (X : zc p l s m args meth c cc own D dA A) {index : Nat} {v : Int32} (hw : Jvm.Cond.constant own index v ∈ gT) (hdg : decode cc pc = .ok (.ldc_w index, 3)) (k : zz p l e R s m args below meth c A G cells slots Q (pc + 3) lo ll (.int v :: rest)) : zz p l e R s m args below meth c A G cells slots Q pc lo ll (rest) :=
  fun H locs ls hG hS hl hc => lv_ldcw X.1 X.2.1 X.2.2.1 (X.2.2.2.1 _ hw) hdg (k H locs ls hG hS hl hc)
theorem z_lconst (X : zc p l s m args meth c cc own D dA A) {n : Fin 2} {v : Int64} (hdg : decode cc pc = .ok (.lconst n, 1)) (hv : Int64.ofNat (n : Nat) = v) (k : zz p l e R s m args below meth c A G cells slots Q (pc + 1) lo ll (.long v :: rest)) : zz p l e R s m args below meth c A G cells slots Q pc lo ll (rest) :=
  fun H locs ls hG hS hl hc => lv_lconst X.1 X.2.1 hdg hv (k H locs ls hG hS hl hc)
theorem z_null (X : zc p l s m args meth c cc own D dA A) (hdg : decode cc pc = .ok (.aconst_null, 1)) (k : zz p l e R s m args below meth c A G cells slots Q (pc + 1) lo ll (.null :: rest)) : zz p l e R s m args below meth c A G cells slots Q pc lo ll (rest) :=
  fun H locs ls hG hS hl hc => lv_null X.1 X.2.1 hdg (k H locs ls hG hS hl hc)
theorem z_iload_n (X : zc p l s m args meth c cc own D dA A) {k0 : Fin 4} {i : Nat} {x : Int32} (hdg : decode cc pc = .ok (.iload_n k0, 1)) (hi : (k0 : Nat) = i) (hk : lo.lookup i = some (.int x)) (k : zz p l e R s m args below meth c A G cells slots Q (pc + 1) lo ll (.int x :: rest)) : zz p l e R s m args below meth c A G cells slots Q pc lo ll (rest) :=
  fun H locs ls hG hS hl hc => lv_iload_n X.1 X.2.1 hdg hi (zlk hl hk) (k H locs ls hG hS hl hc)
theorem z_iload (X : zc p l s m args meth c cc own D dA A) {i : Nat} {x : Int32} (hdg : decode cc pc = .ok (.iload i, 2)) (hk : lo.lookup i = some (.int x)) (k : zz p l e R s m args below meth c A G cells slots Q (pc + 2) lo ll (.int x :: rest)) : zz p l e R s m args below meth c A G cells slots Q pc lo ll (rest) :=
  fun H locs ls hG hS hl hc => lv_iload X.1 X.2.1 hdg (zlk hl hk) (k H locs ls hG hS hl hc)
theorem z_aload_n (X : zc p l s m args meth c cc own D dA A) {k0 : Fin 4} {i : Nat} {x : Nat} (hdg : decode cc pc = .ok (.aload_n k0, 1)) (hi : (k0 : Nat) = i) (hk : lo.lookup i = some (.ref x)) (k : zz p l e R s m args below meth c A G cells slots Q (pc + 1) lo ll (.ref x :: rest)) : zz p l e R s m args below meth c A G cells slots Q pc lo ll (rest) :=
  fun H locs ls hG hS hl hc => lv_aload_n X.1 X.2.1 hdg hi (zlk hl hk) (k H locs ls hG hS hl hc)
theorem z_aload (X : zc p l s m args meth c cc own D dA A) {i : Nat} {x : Nat} (hdg : decode cc pc = .ok (.aload i, 2)) (hk : lo.lookup i = some (.ref x)) (k : zz p l e R s m args below meth c A G cells slots Q (pc + 2) lo ll (.ref x :: rest)) : zz p l e R s m args below meth c A G cells slots Q pc lo ll (rest) :=
  fun H locs ls hG hS hl hc => lv_aload X.1 X.2.1 hdg (zlk hl hk) (k H locs ls hG hS hl hc)
theorem z_lload_n (X : zc p l s m args meth c cc own D dA A) {k0 : Fin 4} {i : Nat} {x : Int64} (hdg : decode cc pc = .ok (.lload_n k0, 1)) (hi : (k0 : Nat) = i) (hk : ll.lookup i = some x) (k : zz p l e R s m args below meth c A G cells slots Q (pc + 1) lo ll (.long x :: rest)) : zz p l e R s m args below meth c A G cells slots Q pc lo ll (rest) :=
  fun H locs ls hG hS hl hc => lv_lload_n X.1 X.2.1 hdg hi (zlkl hl hk) (k H locs ls hG hS hl hc)
theorem z_lload (X : zc p l s m args meth c cc own D dA A) {i : Nat} {x : Int64} (hdg : decode cc pc = .ok (.lload i, 2)) (hk : ll.lookup i = some x) (k : zz p l e R s m args below meth c A G cells slots Q (pc + 2) lo ll (.long x :: rest)) : zz p l e R s m args below meth c A G cells slots Q pc lo ll (rest) :=
  fun H locs ls hG hS hl hc => lv_lload X.1 X.2.1 hdg (zlkl hl hk) (k H locs ls hG hS hl hc)
theorem z_aloadq_n (X : zc p l s m args meth c cc own D dA A) {k0 : Fin 4} {i : Nat} {o : Option Nat} (hdg : decode cc pc = .ok (.aload_n k0, 1)) (hi : (k0 : Nat) = i) (hk : lo.lookup i = some (va_rf o)) (k : zz p l e R s m args below meth c A G cells slots Q (pc + 1) lo ll (va_rf o :: rest)) : zz p l e R s m args below meth c A G cells slots Q pc lo ll rest := by
  intro H locs ls hG hS hl hc
  cases o with
  | none => exact lv_aload_nN X.1 X.2.1 hdg hi (zlk hl hk) (k H locs ls hG hS hl hc)
  | some a => exact lv_aload_n X.1 X.2.1 hdg hi (zlk hl hk) (k H locs ls hG hS hl hc)
theorem z_aloadq (X : zc p l s m args meth c cc own D dA A) {i : Nat} {o : Option Nat} (hdg : decode cc pc = .ok (.aload i, 2)) (hk : lo.lookup i = some (va_rf o)) (k : zz p l e R s m args below meth c A G cells slots Q (pc + 2) lo ll (va_rf o :: rest)) : zz p l e R s m args below meth c A G cells slots Q pc lo ll rest := by
  intro H locs ls hG hS hl hc
  cases o with
  | none => exact lv_aloadN X.1 X.2.1 hdg (zlk hl hk) (k H locs ls hG hS hl hc)
  | some a => exact lv_aload X.1 X.2.1 hdg (zlk hl hk) (k H locs ls hG hS hl hc)
theorem z_istore_n (X : zc p l s m args meth c cc own D dA A) {k0 : Fin 4} {i : Nat} {x : Int32} (hdg : decode cc pc = .ok (.istore_n k0, 1)) (hi : (k0 : Nat) = i) (hn : i < c.maxLocals) (hll : ll.all (fun q => !(q.1 == i) && !(q.1 + 1 == i)) = true) (hlo : zst i (.int x) lo = lo') (k : zz p l e R s m args below meth c A G cells slots Q (pc + 1) lo' ll rest) : zz p l e R s m args below meth c A G cells slots Q pc lo ll (.int x :: rest) := by
  subst hlo
  intro H locs ls hG hS hl hc
  refine lv_istore_n X.1 X.2.1 hdg hi hl hn rfl (fun ls' hl' => ?_)
  exact k H locs ls' hG hS (zst_has hc hll hl') (zst_cat hc rfl)
theorem z_istore (X : zc p l s m args meth c cc own D dA A) {i : Nat} {x : Int32} (hdg : decode cc pc = .ok (.istore i, 2))  (hn : i < c.maxLocals) (hll : ll.all (fun q => !(q.1 == i) && !(q.1 + 1 == i)) = true) (hlo : zst i (.int x) lo = lo') (k : zz p l e R s m args below meth c A G cells slots Q (pc + 2) lo' ll rest) : zz p l e R s m args below meth c A G cells slots Q pc lo ll (.int x :: rest) := by
  subst hlo
  intro H locs ls hG hS hl hc
  refine lv_istore X.1 X.2.1 hdg  hl hn rfl (fun ls' hl' => ?_)
  exact k H locs ls' hG hS (zst_has hc hll hl') (zst_cat hc rfl)
theorem z_astore_n (X : zc p l s m args meth c cc own D dA A) {k0 : Fin 4} {i : Nat} {x : Nat} (hdg : decode cc pc = .ok (.astore_n k0, 1)) (hi : (k0 : Nat) = i) (hn : i < c.maxLocals) (hll : ll.all (fun q => !(q.1 == i) && !(q.1 + 1 == i)) = true) (hlo : zst i (.ref x) lo = lo') (k : zz p l e R s m args below meth c A G cells slots Q (pc + 1) lo' ll rest) : zz p l e R s m args below meth c A G cells slots Q pc lo ll (.ref x :: rest) := by
  subst hlo
  intro H locs ls hG hS hl hc
  refine lv_astore_n X.1 X.2.1 hdg hi hl hn rfl (fun ls' hl' => ?_)
  exact k H locs ls' hG hS (zst_has hc hll hl') (zst_cat hc rfl)
theorem z_astore (X : zc p l s m args meth c cc own D dA A) {i : Nat} {x : Nat} (hdg : decode cc pc = .ok (.astore i, 2))  (hn : i < c.maxLocals) (hll : ll.all (fun q => !(q.1 == i) && !(q.1 + 1 == i)) = true) (hlo : zst i (.ref x) lo = lo') (k : zz p l e R s m args below meth c A G cells slots Q (pc + 2) lo' ll rest) : zz p l e R s m args below meth c A G cells slots Q pc lo ll (.ref x :: rest) := by
  subst hlo
  intro H locs ls hG hS hl hc
  refine lv_astore X.1 X.2.1 hdg  hl hn rfl (fun ls' hl' => ?_)
  exact k H locs ls' hG hS (zst_has hc hll hl') (zst_cat hc rfl)
theorem zrf_cat (o : Option Nat) : (va_rf o).category = 1 := by cases o <;> rfl
theorem z_astoreq_n (X : zc p l s m args meth c cc own D dA A) {k0 : Fin 4} {i : Nat} {o : Option Nat} (hdg : decode cc pc = .ok (.astore_n k0, 1)) (hi : (k0 : Nat) = i) (hn : i < c.maxLocals) (hll : ll.all (fun q => !(q.1 == i) && !(q.1 + 1 == i)) = true) (hlo : zst i (va_rf o) lo = lo') (k : zz p l e R s m args below meth c A G cells slots Q (pc + 1) lo' ll rest) : zz p l e R s m args below meth c A G cells slots Q pc lo ll (va_rf o :: rest) := by
  subst hlo
  intro H locs ls hG hS hl hc
  cases o with
  | none => exact lv_astore_nN X.1 X.2.1 hdg hi hl hn rfl (fun ls' hl' => k H locs ls' hG hS (zst_has hc hll hl') (zst_cat hc rfl))
  | some a => exact lv_astore_n X.1 X.2.1 hdg hi hl hn rfl (fun ls' hl' => k H locs ls' hG hS (zst_has hc hll hl') (zst_cat hc rfl))
theorem z_astoreq (X : zc p l s m args meth c cc own D dA A) {i : Nat} {o : Option Nat} (hdg : decode cc pc = .ok (.astore i, 2)) (hn : i < c.maxLocals) (hll : ll.all (fun q => !(q.1 == i) && !(q.1 + 1 == i)) = true) (hlo : zst i (va_rf o) lo = lo') (k : zz p l e R s m args below meth c A G cells slots Q (pc + 2) lo' ll rest) : zz p l e R s m args below meth c A G cells slots Q pc lo ll (va_rf o :: rest) := by
  subst hlo
  intro H locs ls hG hS hl hc
  cases o with
  | none => exact lv_astoreN X.1 X.2.1 hdg hl hn rfl (fun ls' hl' => k H locs ls' hG hS (zst_has hc hll hl') (zst_cat hc rfl))
  | some a => exact lv_astore X.1 X.2.1 hdg hl hn rfl (fun ls' hl' => k H locs ls' hG hS (zst_has hc hll hl') (zst_cat hc rfl))
theorem z_iinc (X : zc p l s m args meth c cc own D dA A) {i : Nat} {n : Int} {x v : Int32} (hdg : decode cc pc = .ok (.iinc i n, 3)) (hk : lo.lookup i = some (.int x)) (hv : x + Int32.ofInt n = v) (hn : i < c.maxLocals) (hll : ll.all (fun q => !(q.1 == i) && !(q.1 + 1 == i)) = true) (hlo : zst i (.int v) lo = lo') (k : zz p l e R s m args below meth c A G cells slots Q (pc + 3) lo' ll rest) : zz p l e R s m args below meth c A G cells slots Q pc lo ll rest := by
  subst hlo
  intro H locs ls hG hS hl hc
  obtain ⟨j, hj⟩ := List.getElem?_of_mem (List.mem_append_left (ll.map (fun q => (q.1, Value.long q.2))) (zlook_mem hk))
  exact lv_iinc X.1 X.2.1 hdg hl hj hv hn rfl (fun ls' hl' => k H locs ls' hG hS (zst_has hc hll hl') (zst_cat hc rfl))
def zstl (i : Nat) (v : Int64) (ll : List (Nat × Int64)) : List (Nat × Int64) := (i, v) :: ll.filter (fun q => !(q.1 == i) && !(q.1 == i + 1) && !(q.1 + 1 == i))
theorem zstl_has {ls : Array Slot} {nL i : Nat} {v : Int64} (hc : ∀ q ∈ lo, q.2.category = 1) (hlo : lo.filter (fun q => !(q.1 == i) && !(q.1 == i + 1)) = lo')
    (h : lv_has ls nL ((i, Value.long v) :: (lo ++ ll.map (fun q => (q.1, Value.long q.2))).filter (fun q => !(q.1 == i) && (!(q.1 == i + 1) && !(q.1 + 1 == i && q.2.category == 2))))) : lv_has ls nL (lo' ++ (zstl i v ll).map (fun q => (q.1, Value.long q.2))) := by
  subst hlo
  refine ⟨h.1, h.2.1, fun q hq => h.2.2 q ?_⟩
  rcases List.mem_append.mp hq with hq | hq
  · obtain ⟨h1, h2⟩ := List.mem_filter.mp hq
    refine List.mem_cons_of_mem _ (List.mem_filter.mpr ⟨List.mem_append_left _ h1, ?_⟩)
    rw [hc q h1]
    simp at h2 ⊢
    exact h2
  · obtain ⟨z, hz, rfl⟩ := List.mem_map.mp hq
    rcases List.mem_cons.mp hz with rfl | hz
    · exact List.mem_cons_self
    · obtain ⟨h1, h2⟩ := List.mem_filter.mp hz
      refine List.mem_cons_of_mem _ (List.mem_filter.mpr ⟨List.mem_append_right _ (List.mem_map.mpr ⟨z, h1, rfl⟩), ?_⟩)
      simp at h2 ⊢
      exact ⟨h2.1.1, h2.1.2, Or.inl h2.2⟩
theorem z_lstore_n (X : zc p l s m args meth c cc own D dA A) {k0 : Fin 4} {i : Nat} {x : Int64} (hdg : decode cc pc = .ok (.lstore_n k0, 1)) (hi : (k0 : Nat) = i) (hn : i + 1 < c.maxLocals) (hlo : lo.filter (fun q => !(q.1 == i) && !(q.1 == i + 1)) = lo') (hll : zstl i x ll = ll') (k : zz p l e R s m args below meth c A G cells slots Q (pc + 1) lo' ll' rest) : zz p l e R s m args below meth c A G cells slots Q pc lo ll (.long x :: rest) := by
  subst hll
  intro H locs ls hG hS hl hc
  refine lv_lstore_n X.1 X.2.1 hdg hi hl hn rfl (fun ls' hl' => k H locs ls' hG hS (zstl_has hc hlo hl') (fun q hq => hc q ?_))
  rw [← hlo] at hq
  exact (List.mem_filter.mp hq).1
theorem z_lstore (X : zc p l s m args meth c cc own D dA A) {i : Nat} {x : Int64} (hdg : decode cc pc = .ok (.lstore i, 2)) (hn : i + 1 < c.maxLocals) (hlo : lo.filter (fun q => !(q.1 == i) && !(q.1 == i + 1)) = lo') (hll : zstl i x ll = ll') (k : zz p l e R s m args below meth c A G cells slots Q (pc + 2) lo' ll' rest) : zz p l e R s m args below meth c A G cells slots Q pc lo ll (.long x :: rest) := by
  subst hll
  intro H locs ls hG hS hl hc
  refine lv_lstore X.1 X.2.1 hdg hl hn rfl (fun ls' hl' => k H locs ls' hG hS (zstl_has hc hlo hl') (fun q hq => hc q ?_))
  rw [← hlo] at hq
  exact (List.mem_filter.mp hq).1
theorem z_iadd (X : zc p l s m args meth c cc own D dA A) {x y : Int32} (hdg : decode cc pc = .ok (.iadd, 1)) (k : zz p l e R s m args below meth c A G cells slots Q (pc + 1) lo ll (.int (x + y) :: rest)) : zz p l e R s m args below meth c A G cells slots Q pc lo ll (.int y :: .int x :: rest) :=
  fun H locs ls hG hS hl hc => lv_iadd X.1 X.2.1 hdg (k H locs ls hG hS hl hc)
theorem z_isub (X : zc p l s m args meth c cc own D dA A) {x y : Int32} (hdg : decode cc pc = .ok (.isub, 1)) (k : zz p l e R s m args below meth c A G cells slots Q (pc + 1) lo ll (.int (x - y) :: rest)) : zz p l e R s m args below meth c A G cells slots Q pc lo ll (.int y :: .int x :: rest) :=
  fun H locs ls hG hS hl hc => lv_isub X.1 X.2.1 hdg (k H locs ls hG hS hl hc)
theorem z_imul (X : zc p l s m args meth c cc own D dA A) {x y : Int32} (hdg : decode cc pc = .ok (.imul, 1)) (k : zz p l e R s m args below meth c A G cells slots Q (pc + 1) lo ll (.int (x * y) :: rest)) : zz p l e R s m args below meth c A G cells slots Q pc lo ll (.int y :: .int x :: rest) :=
  fun H locs ls hG hS hl hc => lv_imul X.1 X.2.1 hdg (k H locs ls hG hS hl hc)
theorem z_iand (X : zc p l s m args meth c cc own D dA A) {x y : Int32} (hdg : decode cc pc = .ok (.iand, 1)) (k : zz p l e R s m args below meth c A G cells slots Q (pc + 1) lo ll (.int (x &&& y) :: rest)) : zz p l e R s m args below meth c A G cells slots Q pc lo ll (.int y :: .int x :: rest) :=
  fun H locs ls hG hS hl hc => lv_iand X.1 X.2.1 hdg (k H locs ls hG hS hl hc)
theorem z_ior (X : zc p l s m args meth c cc own D dA A) {x y : Int32} (hdg : decode cc pc = .ok (.ior, 1)) (k : zz p l e R s m args below meth c A G cells slots Q (pc + 1) lo ll (.int (x ||| y) :: rest)) : zz p l e R s m args below meth c A G cells slots Q pc lo ll (.int y :: .int x :: rest) :=
  fun H locs ls hG hS hl hc => lv_ior X.1 X.2.1 hdg (k H locs ls hG hS hl hc)
theorem z_ixor (X : zc p l s m args meth c cc own D dA A) {x y : Int32} (hdg : decode cc pc = .ok (.ixor, 1)) (k : zz p l e R s m args below meth c A G cells slots Q (pc + 1) lo ll (.int (x ^^^ y) :: rest)) : zz p l e R s m args below meth c A G cells slots Q pc lo ll (.int y :: .int x :: rest) :=
  fun H locs ls hG hS hl hc => lv_ixor X.1 X.2.1 hdg (k H locs ls hG hS hl hc)
theorem z_ishl (X : zc p l s m args meth c cc own D dA A) {x y : Int32} (hdg : decode cc pc = .ok (.ishl, 1)) (k : zz p l e R s m args below meth c A G cells slots Q (pc + 1) lo ll (.int (x <<< (y &&& 31)) :: rest)) : zz p l e R s m args below meth c A G cells slots Q pc lo ll (.int y :: .int x :: rest) :=
  fun H locs ls hG hS hl hc => lv_ishl X.1 X.2.1 hdg (k H locs ls hG hS hl hc)
theorem z_ishr (X : zc p l s m args meth c cc own D dA A) {x y : Int32} (hdg : decode cc pc = .ok (.ishr, 1)) (k : zz p l e R s m args below meth c A G cells slots Q (pc + 1) lo ll (.int (x >>> (y &&& 31)) :: rest)) : zz p l e R s m args below meth c A G cells slots Q pc lo ll (.int y :: .int x :: rest) :=
  fun H locs ls hG hS hl hc => lv_ishr X.1 X.2.1 hdg (k H locs ls hG hS hl hc)
theorem z_iushr (X : zc p l s m args meth c cc own D dA A) {x y : Int32} (hdg : decode cc pc = .ok (.iushr, 1)) (k : zz p l e R s m args below meth c A G cells slots Q (pc + 1) lo ll (.int ((x.toUInt32 >>> (y.toUInt32 &&& Int32.toUInt32 31)).toInt32) :: rest)) : zz p l e R s m args below meth c A G cells slots Q pc lo ll (.int y :: .int x :: rest) :=
  fun H locs ls hG hS hl hc => lv_iushr X.1 X.2.1 hdg rfl (k H locs ls hG hS hl hc)
theorem z_idiv (X : zc p l s m args meth c cc own D dA A) {x y : Int32} (hdg : decode cc pc = .ok (.idiv, 1)) (hne : ¬ y = 0) (k : zz p l e R s m args below meth c A G cells slots Q (pc + 1) lo ll (.int (x / y) :: rest)) : zz p l e R s m args below meth c A G cells slots Q pc lo ll (.int y :: .int x :: rest) :=
  fun H locs ls hG hS hl hc => lv_idiv X.1 X.2.1 hdg hne (k H locs ls hG hS hl hc)
theorem z_irem (X : zc p l s m args meth c cc own D dA A) {x y : Int32} (hdg : decode cc pc = .ok (.irem, 1)) (hne : ¬ y = 0) (k : zz p l e R s m args below meth c A G cells slots Q (pc + 1) lo ll (.int (x - x / y * y) :: rest)) : zz p l e R s m args below meth c A G cells slots Q pc lo ll (.int y :: .int x :: rest) :=
  fun H locs ls hG hS hl hc => lv_irem X.1 X.2.1 hdg hne (k H locs ls hG hS hl hc)
theorem z_i2b (X : zc p l s m args meth c cc own D dA A) {x : Int32} (hdg : decode cc pc = .ok (.i2b, 1)) (k : zz p l e R s m args below meth c A G cells slots Q (pc + 1) lo ll (.int x.toInt8.toInt32 :: rest)) : zz p l e R s m args below meth c A G cells slots Q pc lo ll (.int x :: rest) :=
  fun H locs ls hG hS hl hc => lv_i2b X.1 X.2.1 hdg rfl (k H locs ls hG hS hl hc)
theorem z_i2l (X : zc p l s m args meth c cc own D dA A) {x : Int32} (hdg : decode cc pc = .ok (.i2l, 1)) (k : zz p l e R s m args below meth c A G cells slots Q (pc + 1) lo ll (.long x.toInt64 :: rest)) : zz p l e R s m args below meth c A G cells slots Q pc lo ll (.int x :: rest) :=
  fun H locs ls hG hS hl hc => lv_i2l X.1 X.2.1 hdg rfl (k H locs ls hG hS hl hc)
theorem z_l2i (X : zc p l s m args meth c cc own D dA A) {x : Int64} (hdg : decode cc pc = .ok (.l2i, 1)) (k : zz p l e R s m args below meth c A G cells slots Q (pc + 1) lo ll (.int x.toInt32 :: rest)) : zz p l e R s m args below meth c A G cells slots Q pc lo ll (.long x :: rest) :=
  fun H locs ls hG hS hl hc => lv_l2i X.1 X.2.1 hdg rfl (k H locs ls hG hS hl hc)
theorem z_ladd (X : zc p l s m args meth c cc own D dA A) {x y : Int64} (hdg : decode cc pc = .ok (.ladd, 1)) (k : zz p l e R s m args below meth c A G cells slots Q (pc + 1) lo ll (.long (x + y) :: rest)) : zz p l e R s m args below meth c A G cells slots Q pc lo ll (.long y :: .long x :: rest) :=
  fun H locs ls hG hS hl hc => lv_ladd X.1 X.2.1 hdg (k H locs ls hG hS hl hc)
theorem z_lor (X : zc p l s m args meth c cc own D dA A) {x y : Int64} (hdg : decode cc pc = .ok (.lor, 1)) (k : zz p l e R s m args below meth c A G cells slots Q (pc + 1) lo ll (.long (x ||| y) :: rest)) : zz p l e R s m args below meth c A G cells slots Q pc lo ll (.long y :: .long x :: rest) :=
  fun H locs ls hG hS hl hc => lv_lor X.1 X.2.1 hdg (k H locs ls hG hS hl hc)
theorem z_lshl (X : zc p l s m args meth c cc own D dA A) {x : Int64} {y : Int32} (hdg : decode cc pc = .ok (.lshl, 1)) (k : zz p l e R s m args below meth c A G cells slots Q (pc + 1) lo ll (.long (x <<< (y.toInt64 &&& 63)) :: rest)) : zz p l e R s m args below meth c A G cells slots Q pc lo ll (.int y :: .long x :: rest) :=
  fun H locs ls hG hS hl hc => lv_lshl X.1 X.2.1 hdg rfl (k H locs ls hG hS hl hc)
theorem z_lshr (X : zc p l s m args meth c cc own D dA A) {x : Int64} {y : Int32} (hdg : decode cc pc = .ok (.lshr, 1)) (k : zz p l e R s m args below meth c A G cells slots Q (pc + 1) lo ll (.long (x >>> (y.toInt64 &&& 63)) :: rest)) : zz p l e R s m args below meth c A G cells slots Q pc lo ll (.int y :: .long x :: rest) :=
  fun H locs ls hG hS hl hc => lv_lshr X.1 X.2.1 hdg rfl (k H locs ls hG hS hl hc)
theorem z_lushr (X : zc p l s m args meth c cc own D dA A) {x : Int64} {y : Int32} (hdg : decode cc pc = .ok (.lushr, 1)) (k : zz p l e R s m args below meth c A G cells slots Q (pc + 1) lo ll (.long ((x.toUInt64 >>> (y.toInt64.toUInt64 &&& Int64.toUInt64 63)).toInt64) :: rest)) : zz p l e R s m args below meth c A G cells slots Q pc lo ll (.int y :: .long x :: rest) :=
  fun H locs ls hG hS hl hc => lv_lushr X.1 X.2.1 hdg rfl (k H locs ls hG hS hl hc)
theorem z_lcmp (X : zc p l s m args meth c cc own D dA A) {x y : Int64} (hdg : decode cc pc = .ok (.lcmp, 1)) (k : zz p l e R s m args below meth c A G cells slots Q (pc + 1) lo ll (.int (lg_cmp x y) :: rest)) : zz p l e R s m args below meth c A G cells slots Q pc lo ll (.long y :: .long x :: rest) :=
  fun H locs ls hG hS hl hc => W.lcmp X.1 X.2.1 hdg (k H locs ls hG hS hl hc)
theorem z_dup (X : zc p l s m args meth c cc own D dA A) {v : Value} (hdg : decode cc pc = .ok (.dup, 1)) (hv : v.category = 1) (k : zz p l e R s m args below meth c A G cells slots Q (pc + 1) lo ll (v :: v :: rest)) : zz p l e R s m args below meth c A G cells slots Q pc lo ll (v :: rest) :=
  fun H locs ls hG hS hl hc => lv_dup X.1 X.2.1 hdg hv (k H locs ls hG hS hl hc)
theorem z_pop (X : zc p l s m args meth c cc own D dA A) {v : Value} (hdg : decode cc pc = .ok (.pop, 1)) (hv : v.category = 1) (k : zz p l e R s m args below meth c A G cells slots Q (pc + 1) lo ll (rest)) : zz p l e R s m args below meth c A G cells slots Q pc lo ll (v :: rest) :=
  fun H locs ls hG hS hl hc => lv_pop X.1 X.2.1 hdg hv (k H locs ls hG hS hl hc)
theorem z_dup_x1 (X : zc p l s m args meth c cc own D dA A) {v w : Value} (hdg : decode cc pc = .ok (.dup_x1, 1)) (hv : v.category = 1) (hw : w.category = 1) (k : zz p l e R s m args below meth c A G cells slots Q (pc + 1) lo ll (v :: w :: v :: rest)) : zz p l e R s m args below meth c A G cells slots Q pc lo ll (v :: w :: rest) :=
  fun H locs ls hG hS hl hc => lv_dup_x1 X.1 X.2.1 hdg hv hw (k H locs ls hG hS hl hc)
theorem z_dup2 (X : zc p l s m args meth c cc own D dA A) {v w : Value} (hdg : decode cc pc = .ok (.dup2, 1)) (hv : v.category = 1) (hw : w.category = 1) (k : zz p l e R s m args below meth c A G cells slots Q (pc + 1) lo ll (v :: w :: v :: w :: rest)) : zz p l e R s m args below meth c A G cells slots Q pc lo ll (v :: w :: rest) :=
  fun H locs ls hG hS hl hc => lv_dup2_11 X.1 X.2.1 hdg hv hw (k H locs ls hG hS hl hc)
theorem z_goto (X : zc p l s m args meth c cc own D dA A) {off : Int} {tgt : Nat} (hdg : decode cc pc = .ok (.goto off, 3)) (ht : (pc : Int) + off = (tgt : Int)) (k : zz p l e R s m args below meth c A G cells slots Q tgt lo ll (rest)) : zz p l e R s m args below meth c A G cells slots Q pc lo ll (rest) :=
  fun H locs ls hG hS hl hc => lv_goto X.1 X.2.1 hdg ht (k H locs ls hG hS hl hc)
theorem z_if_eq (X : zc p l s m args meth c cc own D dA A) {x : Int32} {off : Int} {tgt : Nat} (hdg : decode cc pc = .ok (.ifCond .eq off, 3)) (ht : (pc : Int) + off = (tgt : Int)) (kt : x = 0 → zz p l e R s m args below meth c A G cells slots Q tgt lo ll rest) (kf : ¬ x = 0 → zz p l e R s m args below meth c A G cells slots Q (pc + 3) lo ll rest) : zz p l e R s m args below meth c A G cells slots Q pc lo ll (.int x :: rest) :=
  fun H locs ls hG hS hl hc => lv_if_eq X.1 X.2.1 hdg ht (fun q => kt q H locs ls hG hS hl hc) (fun q => kf q H locs ls hG hS hl hc)
theorem z_if_ne (X : zc p l s m args meth c cc own D dA A) {x : Int32} {off : Int} {tgt : Nat} (hdg : decode cc pc = .ok (.ifCond .ne off, 3)) (ht : (pc : Int) + off = (tgt : Int)) (kf : x = 0 → zz p l e R s m args below meth c A G cells slots Q (pc + 3) lo ll rest) (kt : ¬ x = 0 → zz p l e R s m args below meth c A G cells slots Q tgt lo ll rest) : zz p l e R s m args below meth c A G cells slots Q pc lo ll (.int x :: rest) :=
  fun H locs ls hG hS hl hc => lv_if_ne X.1 X.2.1 hdg ht (fun q => kt q H locs ls hG hS hl hc) (fun q => kf q H locs ls hG hS hl hc)
theorem z_if_lt (X : zc p l s m args meth c cc own D dA A) {x : Int32} {off : Int} {tgt : Nat} (hdg : decode cc pc = .ok (.ifCond .lt off, 3)) (ht : (pc : Int) + off = (tgt : Int)) (kt : x < 0 → zz p l e R s m args below meth c A G cells slots Q tgt lo ll rest) (kf : ¬ x < 0 → zz p l e R s m args below meth c A G cells slots Q (pc + 3) lo ll rest) : zz p l e R s m args below meth c A G cells slots Q pc lo ll (.int x :: rest) :=
  fun H locs ls hG hS hl hc => lv_if_lt X.1 X.2.1 hdg ht (fun q => kt q H locs ls hG hS hl hc) (fun q => kf q H locs ls hG hS hl hc)
theorem z_if_ge (X : zc p l s m args meth c cc own D dA A) {x : Int32} {off : Int} {tgt : Nat} (hdg : decode cc pc = .ok (.ifCond .ge off, 3)) (ht : (pc : Int) + off = (tgt : Int)) (kt : 0 ≤ x → zz p l e R s m args below meth c A G cells slots Q tgt lo ll rest) (kf : ¬ 0 ≤ x → zz p l e R s m args below meth c A G cells slots Q (pc + 3) lo ll rest) : zz p l e R s m args below meth c A G cells slots Q pc lo ll (.int x :: rest) :=
  fun H locs ls hG hS hl hc => lv_if_ge X.1 X.2.1 hdg ht (fun q => kt q H locs ls hG hS hl hc) (fun q => kf q H locs ls hG hS hl hc)
theorem z_if_gt (X : zc p l s m args meth c cc own D dA A) {x : Int32} {off : Int} {tgt : Nat} (hdg : decode cc pc = .ok (.ifCond .gt off, 3)) (ht : (pc : Int) + off = (tgt : Int)) (kt : 0 < x → zz p l e R s m args below meth c A G cells slots Q tgt lo ll rest) (kf : ¬ 0 < x → zz p l e R s m args below meth c A G cells slots Q (pc + 3) lo ll rest) : zz p l e R s m args below meth c A G cells slots Q pc lo ll (.int x :: rest) :=
  fun H locs ls hG hS hl hc => lv_if_gt X.1 X.2.1 hdg ht (fun q => kt q H locs ls hG hS hl hc) (fun q => kf q H locs ls hG hS hl hc)
theorem z_if_le (X : zc p l s m args meth c cc own D dA A) {x : Int32} {off : Int} {tgt : Nat} (hdg : decode cc pc = .ok (.ifCond .le off, 3)) (ht : (pc : Int) + off = (tgt : Int)) (kt : x ≤ 0 → zz p l e R s m args below meth c A G cells slots Q tgt lo ll rest) (kf : ¬ x ≤ 0 → zz p l e R s m args below meth c A G cells slots Q (pc + 3) lo ll rest) : zz p l e R s m args below meth c A G cells slots Q pc lo ll (.int x :: rest) :=
  fun H locs ls hG hS hl hc => lv_if_le X.1 X.2.1 hdg ht (fun q => kt q H locs ls hG hS hl hc) (fun q => kf q H locs ls hG hS hl hc)
theorem z_icmp_eq (X : zc p l s m args meth c cc own D dA A) {x y : Int32} {off : Int} {tgt : Nat} (hdg : decode cc pc = .ok (.if_icmp .eq off, 3)) (ht : (pc : Int) + off = (tgt : Int)) (kt : x = y → zz p l e R s m args below meth c A G cells slots Q tgt lo ll rest) (kf : ¬ x = y → zz p l e R s m args below meth c A G cells slots Q (pc + 3) lo ll rest) : zz p l e R s m args below meth c A G cells slots Q pc lo ll (.int y :: .int x :: rest) :=
  fun H locs ls hG hS hl hc => lv_icmp_eq X.1 X.2.1 hdg ht (fun q => kt q H locs ls hG hS hl hc) (fun q => kf q H locs ls hG hS hl hc)
theorem z_icmp_ne (X : zc p l s m args meth c cc own D dA A) {x y : Int32} {off : Int} {tgt : Nat} (hdg : decode cc pc = .ok (.if_icmp .ne off, 3)) (ht : (pc : Int) + off = (tgt : Int)) (kf : x = y → zz p l e R s m args below meth c A G cells slots Q (pc + 3) lo ll rest) (kt : ¬ x = y → zz p l e R s m args below meth c A G cells slots Q tgt lo ll rest) : zz p l e R s m args below meth c A G cells slots Q pc lo ll (.int y :: .int x :: rest) :=
  fun H locs ls hG hS hl hc => lv_icmp_ne X.1 X.2.1 hdg ht (fun q => kt q H locs ls hG hS hl hc) (fun q => kf q H locs ls hG hS hl hc)
theorem z_icmp_lt (X : zc p l s m args meth c cc own D dA A) {x y : Int32} {off : Int} {tgt : Nat} (hdg : decode cc pc = .ok (.if_icmp .lt off, 3)) (ht : (pc : Int) + off = (tgt : Int)) (kt : x < y → zz p l e R s m args below meth c A G cells slots Q tgt lo ll rest) (kf : ¬ x < y → zz p l e R s m args below meth c A G cells slots Q (pc + 3) lo ll rest) : zz p l e R s m args below meth c A G cells slots Q pc lo ll (.int y :: .int x :: rest) :=
  fun H locs ls hG hS hl hc => lv_icmp_lt X.1 X.2.1 hdg ht (fun q => kt q H locs ls hG hS hl hc) (fun q => kf q H locs ls hG hS hl hc)
theorem z_icmp_ge (X : zc p l s m args meth c cc own D dA A) {x y : Int32} {off : Int} {tgt : Nat} (hdg : decode cc pc = .ok (.if_icmp .ge off, 3)) (ht : (pc : Int) + off = (tgt : Int)) (kt : y ≤ x → zz p l e R s m args below meth c A G cells slots Q tgt lo ll rest) (kf : ¬ y ≤ x → zz p l e R s m args below meth c A G cells slots Q (pc + 3) lo ll rest) : zz p l e R s m args below meth c A G cells slots Q pc lo ll (.int y :: .int x :: rest) :=
  fun H locs ls hG hS hl hc => lv_icmp_ge X.1 X.2.1 hdg ht (fun q => kt q H locs ls hG hS hl hc) (fun q => kf q H locs ls hG hS hl hc)
theorem z_icmp_gt (X : zc p l s m args meth c cc own D dA A) {x y : Int32} {off : Int} {tgt : Nat} (hdg : decode cc pc = .ok (.if_icmp .gt off, 3)) (ht : (pc : Int) + off = (tgt : Int)) (kt : y < x → zz p l e R s m args below meth c A G cells slots Q tgt lo ll rest) (kf : ¬ y < x → zz p l e R s m args below meth c A G cells slots Q (pc + 3) lo ll rest) : zz p l e R s m args below meth c A G cells slots Q pc lo ll (.int y :: .int x :: rest) :=
  fun H locs ls hG hS hl hc => lv_icmp_gt X.1 X.2.1 hdg ht (fun q => kt q H locs ls hG hS hl hc) (fun q => kf q H locs ls hG hS hl hc)
theorem z_icmp_le (X : zc p l s m args meth c cc own D dA A) {x y : Int32} {off : Int} {tgt : Nat} (hdg : decode cc pc = .ok (.if_icmp .le off, 3)) (ht : (pc : Int) + off = (tgt : Int)) (kt : x ≤ y → zz p l e R s m args below meth c A G cells slots Q tgt lo ll rest) (kf : ¬ x ≤ y → zz p l e R s m args below meth c A G cells slots Q (pc + 3) lo ll rest) : zz p l e R s m args below meth c A G cells slots Q pc lo ll (.int y :: .int x :: rest) :=
  fun H locs ls hG hS hl hc => lv_icmp_le X.1 X.2.1 hdg ht (fun q => kt q H locs ls hG hS hl hc) (fun q => kf q H locs ls hG hS hl hc)
theorem z_acmp_eq (X : zc p l s m args meth c cc own D dA A) {x y : Option Nat} {off : Int} {tgt : Nat} (hdg : decode cc pc = .ok (.if_acmp .eq off, 3)) (ht : (pc : Int) + off = (tgt : Int)) (kt : x = y → zz p l e R s m args below meth c A G cells slots Q tgt lo ll rest) (kf : ¬ x = y → zz p l e R s m args below meth c A G cells slots Q (pc + 3) lo ll rest) : zz p l e R s m args below meth c A G cells slots Q pc lo ll (va_rf y :: va_rf x :: rest) :=
  fun H locs ls hG hS hl hc => lv_acmp_eq X.1 X.2.1 hdg ht (fun q => kt q H locs ls hG hS hl hc) (fun q => kf q H locs ls hG hS hl hc)
theorem z_acmp_ne (X : zc p l s m args meth c cc own D dA A) {x y : Option Nat} {off : Int} {tgt : Nat} (hdg : decode cc pc = .ok (.if_acmp .ne off, 3)) (ht : (pc : Int) + off = (tgt : Int)) (kf : x = y → zz p l e R s m args below meth c A G cells slots Q (pc + 3) lo ll rest) (kt : ¬ x = y → zz p l e R s m args below meth c A G cells slots Q tgt lo ll rest) : zz p l e R s m args below meth c A G cells slots Q pc lo ll (va_rf y :: va_rf x :: rest) :=
  fun H locs ls hG hS hl hc => lv_acmp_ne X.1 X.2.1 hdg ht (fun q => kt q H locs ls hG hS hl hc) (fun q => kf q H locs ls hG hS hl hc)
theorem z_ifnull (X : zc p l s m args meth c cc own D dA A) {o : Option Nat} {off : Int} {tgt : Nat} (hdg : decode cc pc = .ok (.ifnull off, 3)) (ht : (pc : Int) + off = (tgt : Int)) (kt : o = none → zz p l e R s m args below meth c A G cells slots Q tgt lo ll rest) (kf : ∀ a, o = some a → zz p l e R s m args below meth c A G cells slots Q (pc + 3) lo ll rest) : zz p l e R s m args below meth c A G cells slots Q pc lo ll (va_rf o :: rest) := by
  intro H locs ls hG hS hl hc
  cases o with
  | none => exact lv_ifnullN X.1 X.2.1 hdg ht (kt rfl H locs ls hG hS hl hc)
  | some a => exact lv_ifnull X.1 X.2.1 hdg (kf a rfl H locs ls hG hS hl hc)
theorem z_ifnonnull (X : zc p l s m args meth c cc own D dA A) {o : Option Nat} {off : Int} {tgt : Nat} (hdg : decode cc pc = .ok (.ifnonnull off, 3)) (ht : (pc : Int) + off = (tgt : Int)) (kf : o = none → zz p l e R s m args below meth c A G cells slots Q (pc + 3) lo ll rest) (kt : ∀ a, o = some a → zz p l e R s m args below meth c A G cells slots Q tgt lo ll rest) : zz p l e R s m args below meth c A G cells slots Q pc lo ll (va_rf o :: rest) := by
  intro H locs ls hG hS hl hc
  cases o with
  | none => exact lv_ifnonnullN X.1 X.2.1 hdg (kf rfl H locs ls hG hS hl hc)
  | some a => exact lv_ifnonnull X.1 X.2.1 hdg ht (kt a rfl H locs ls hG hS hl hc)
theorem z_iret (X : zc p l s m args meth c cc own D dA A) {Qc : Array Value → State → Outcome → State → Prop} {v : Int32} {ty : FieldType} (hr : meth.sig.returnType = some ty) (hn : narrow ty (.int v) = .int v) (hq : ∀ t : State, G t.heap → va_F A s t → s.WarmedH t.vm → Qc args s (.returned (some (.int v))) t) (hdg : decode cc pc = .ok (.ireturn, 1)) : zz p l e R s m args below meth c A G cells slots (MQ below Qc args s cells slots A) pc lo ll [.int v] :=
  fun H locs ls hG hS hl hc => W.zret X.1 X.2.1 hr hn (fun t ht hW => hq t (by rw [ht]; exact hG) (hS.F ht) hW) hS.2.2 hdg X.2.2.2.2.1
theorem z_vret (X : zc p l s m args meth c cc own D dA A) {Qc : Array Value → State → Outcome → State → Prop} (hr : meth.sig.returnType = none) (hq : ∀ t : State, G t.heap → va_F A s t → s.WarmedH t.vm → Qc args s (.returned none) t) (hdg : decode cc pc = .ok (.return_, 1)) : zz p l e R s m args below meth c A G cells slots (MQ below Qc args s cells slots A) pc lo ll [] :=
  fun H locs ls hG hS hl hc => W.vret X.1 X.2.1 hr (fun t ht hW => hq t (by rw [ht]; exact hG) (hS.F ht) hW) hS.2.2 hdg X.2.2.2.2.1
theorem z_aret (X : zc p l s m args meth c cc own D dA A) {Qc : Array Value → State → Outcome → State → Prop} {o : Option Nat} {rt : FieldType} (hr : meth.sig.returnType = some rt) (hrt : (∃ n, rt = .object n) ∨ ∃ t, rt = .array t) (hq : ∀ t : State, G t.heap → va_F A s t → s.WarmedH t.vm → Qc args s (.returned (some (va_rf o))) t) (hdg : decode cc pc = .ok (.areturn, 1)) : zz p l e R s m args below meth c A G cells slots (MQ below Qc args s cells slots A) pc lo ll [va_rf o] :=
  fun H locs ls hG hS hl hc => W.aret X.1 X.2.1 hr hrt (by cases o with | none => exact Or.inl rfl | some a => exact Or.inr ⟨a, rfl⟩) (fun t ht hW => hq t (by rw [ht]; exact hG) (hS.F ht) hW) hS.2.2 hdg X.2.2.2.2.1
/-- the world of a contract's start -/
def zB (D : va_G) (dA : Nat → ClassId) (A : Nat → Prop) (n : Nat) (G : Heap → Prop) (U : State) : Prop := n ≤ U.heap.size ∧ zK D dA U ∧ zSt A U U.heap ∧ G U.heap
theorem zR_moved {k : Nat} {tx : String} {a : Nat} {u U : State} (hvm : u.WarmedH U.vm) (h : vk_R "MeshBiller" k tx a u) : vk_R "MeshBiller" k tx a U := vk_R.warm hvm h
theorem zB_blind {av : List Value} {n : Nat} : FrameBlind (va_Pc av (zB D dA A n G)) := by
  intro a U g mk h
  obtain ⟨h0, h1, h2, h3, h4⟩ := h
  exact ⟨h0, h1, va_K.moved (u := U) (U := U.calling g mk a) (Vm.Alike.refl U.vm) h2, h3.moved (Vm.Alike.refl U.vm) (fun k tx a h => zR_moved (State.WarmedH.refl U) h), h4⟩
theorem zB_at {H : Heap} {locs : List Loc} (X : zc p l s m args meth c cc own D dA A) (hG : G H) (hS : va_S A s.heap H locs) : ∀ U : State, U.heap = H → s.WarmedH U.vm → zB D dA A s.heap.size G U := by
  intro U hU hW
  refine ⟨by rw [hU]; exact hS.1, va_K.moved hW.alike X.2.2.2.2.2.1, ?_, by rw [hU]; exact hG⟩
  rw [hU]
  exact (X.2.2.2.2.2.2.2.1.kept hS.2.1).moved hW.alike (fun k tx a h => zR_moved hW h)
theorem z_met {y : MethodName} {maxL : Nat} {ret : Option FieldType} {rm : Room} {av : List Value} {n mc ms : Nat} {Qc : Array Value → State → Outcome → State → Prop} (hy : plainName y.cls = true) (hA : ∀ q, n ≤ q → A q) (hst : l.stackTraces = false) (hav : (lg_sl av).length ≤ maxL) (hc1 : ∀ v ∈ av, v.category = 1) {lo : List (Nat × Value)} (hlo : lv_args 0 av = lo)
    (k : ∀ (p : Program) (e : Env) (s : State) (m : MethodId) (below : List Frame) (meth : Method) (c : Code), zc p l s m av.toArray meth c cc y.cls D dA A → c.maxLocals = maxL → meth.sig.returnType = ret → meth.name = y.name → zz p l e rm s m av.toArray below meth c A G 0 0 (MQ below Qc av.toArray s mc ms A) 0 lo [] []) :
    Met l y (.code y cc maxL ret :: gT) rm (va_Pc av (zB D dA A n G)) Qc mc ms A := by
  refine Met.ofW hy rfl ?_
  intro p e s m args below meth c s₁ B hml hv
  obtain ⟨rfl, hsz, hK, hSt, hG⟩ := hv
  have hts := atoms_spec (ws := .code y cc maxL ret :: gT) B.pre
  have X : zc p l s m av.toArray meth c cc y.cls D dA A := ⟨B.exec, B.bytes, findClass_of_methodNamed B.named, fun w hw => hts w (List.mem_cons_of_mem _ hw), B.notSynchronized, hK, fun q h => hA q (Nat.le_trans hsz h), hSt, hst⟩
  have hk := k p e s m below meth c X hml B.returns (name_of_methodNamed B.named B.method).1
  have hl := lv_entry av (n := maxL) hav
  rw [lg_entry_eq]
  refine hk s.heap [] _ hG va_S.rf ?_ ?_
  · rw [hml, ← hlo]
    simpa using hl
  · rw [← hlo]
    intro q hq
    have key : ∀ (vs : List Value) (i : Nat) (q : Nat × Value), q ∈ lv_args i vs → q.2 ∈ vs := by
      intro vs
      induction vs with
      | nil => intro i q h; cases h
      | cons v t ih =>
        intro i q h
        rcases List.mem_cons.mp h with rfl | h
        · exact List.mem_cons_self
        · exact List.mem_cons_of_mem _ (ih _ q h)
    exact hc1 _ (key av 0 q hq)
theorem z_gV {x : Cond} {own C : String} {idx : Nat} {y : MethodName} {b : ByteArray} {n : Nat} {ret : Option FieldType} (h1 : Cond.methodLink own idx y ∈ gT) (h2 : Cond.instanceMethod y ∈ gT) (h3 : Cond.selects C y y ∈ gT) (h4 : Cond.initialized C ∈ gT) (h5 : Cond.code y b n ret ∈ gT) : GoodIn gT (wsV own idx C y (.code y b n ret :: gT)) := by
  have key : ∀ w ∈ gT, w ∈ gT ∧ ((w.onTables && w.keeps) = true ∨ ∃ ty, w = .arrayClass ty) := fun w h => ⟨h, gT_good h⟩
  intro w hw
  rcases List.mem_append.mp hw with hw | hw
  · simp only [List.mem_cons, List.not_mem_nil, or_false] at hw
    rcases hw with rfl | rfl | rfl | rfl
    · exact key _ h1
    · exact key _ h2
    · exact key _ h3
    · exact key _ h4
  · rcases List.mem_cons.mp hw with rfl | hw
    · exact key _ h5
    · exact key _ hw
theorem z_gS {own : String} {idx : Nat} {y : MethodName} {b : ByteArray} {n : Nat} {ret : Option FieldType} (h1 : Cond.methodLink own idx y ∈ gT) (h2 : Cond.static y ∈ gT) (h4 : Cond.initialized own ∈ gT) (h5 : Cond.code y b n ret ∈ gT) : GoodIn gT (wsS own idx y (.code y b n ret :: gT)) := by
  have key : ∀ w ∈ gT, w ∈ gT ∧ ((w.onTables && w.keeps) = true ∨ ∃ ty, w = .arrayClass ty) := fun w h => ⟨h, gT_good h⟩
  intro w hw
  rcases List.mem_append.mp hw with hw | hw
  · simp only [List.mem_cons, List.not_mem_nil, or_false] at hw
    rcases hw with rfl | rfl | rfl
    · exact key _ h1
    · exact key _ h2
    · exact key _ h4
  · rcases List.mem_cons.mp hw with rfl | hw
    · exact key _ h5
    · exact key _ hw
theorem z_gC {y : MethodName} {b : ByteArray} {n : Nat} {ret : Option FieldType} (h5 : Cond.code y b n ret ∈ gT) : GoodIn gT (.code y b n ret :: gT) := by
  intro w hw
  rcases List.mem_cons.mp hw with rfl | hw
  · exact ⟨h5, gT_good h5⟩
  · exact ⟨hw, gT_good hw⟩
theorem z_callVi (X : zc p l s m args meth c cc own D dA A) {y : MethodName} {b : ByteArray} {maxL idx nA mc ms : Nat} {C : String} {ret : Option FieldType} {rm : Room} {a : Nat} {As st : List Value} {S : Type} {r0 : Int32} {pu : S → Prop} {G1 : S → Heap → Prop} (hM : Met l y (.code y b maxL ret :: gT) rm (va_Pc (.ref a :: As) (zB D dA A s.heap.size G)) (va_Qi (fun r u => r = r0 ∧ pu u) (fun u t => G1 u t.heap) A) mc ms A) (h1 : Cond.methodLink own idx y ∈ gT) (h2 : Cond.instanceMethod y ∈ gT) (h3 : Cond.selects C y y ∈ gT) (h4 : Cond.initialized C ∈ gT) (h5 : Cond.code y b maxL ret ∈ gT) (hd : y.cls = C ∧ y.cls ≠ "java/lang/invoke/MethodHandle" ∧ y.cls ≠ "java/lang/invoke/VarHandle" ∧ (parseMethodDescriptor y.desc).map (fun d => d.parameters.length) = some nA) (hrm : rm.cells = mc ∧ rm.slots = ms ∧ rm.frames + 1 ≤ R.frames ∧ 8 + (maxL + 11) + rm.locals ≤ R.locals) (hn : As.length = nA) (hrec : ∀ H, G H → ∃ cell : Cell, H[a]? = some cell ∧ cell.vm.isStatics = false ∧ s.vm.findClass C = some cell.cls) (hst : st = As.reverse ++ .ref a :: rest) (hcat : (rest.map fun v => v.category).sum ≤ 8) (hdg : decode cc pc = .ok (.invokevirtual idx, 3)) (hf : cells + mc ≤ R.cells ∧ slots + ms ≤ R.slots)
    (k : ∀ u, pu u → zz p l e R s m args below meth c A (G1 u) (cells + mc) (slots + ms) Q (pc + 3) lo ll (.int r0 :: rest)) : zz p l e R s m args below meth c A G cells slots Q pc lo ll st := by
  subst hst
  intro H locs ls hG hS hl hc
  exact va_calli (va_runV (As := As) (rest := rest) ⟨X.1, X.2.1, rfl, X.2.2.1, X.2.2.2.1⟩ hM (cwV nA X.2.2.2.1 (z_gV (x := .tt) h1 h2 h3 h4 h5) rfl hrm.1 hrm.2.1 hd hrm.2.2) ⟨zB_blind, hrec H hG, fun U hU hW => ⟨rfl, zB_at X hG hS U hU hW⟩⟩ rfl hn hl.1 rfl (lv_room hcat) hdg hf) hS (fun _ _ h => h) (fun _ h => h) (fun r u t H1 locs1 ht _ hp hB _ _ hS1 => by obtain ⟨rfl, hp⟩ := hp; exact k u hp H1 locs1 ls (by rw [← ht]; exact hB) hS1 hl hc)
theorem z_callVv (X : zc p l s m args meth c cc own D dA A) {y : MethodName} {b : ByteArray} {maxL idx nA mc ms : Nat} {C : String} {ret : Option FieldType} {rm : Room} {a : Nat} {As st : List Value} {S : Type} {pu : S → Prop} {G1 : S → Heap → Prop} (hM : Met l y (.code y b maxL ret :: gT) rm (va_Pc (.ref a :: As) (zB D dA A s.heap.size G)) (va_Qv pu (fun u t => G1 u t.heap) A) mc ms A) (h1 : Cond.methodLink own idx y ∈ gT) (h2 : Cond.instanceMethod y ∈ gT) (h3 : Cond.selects C y y ∈ gT) (h4 : Cond.initialized C ∈ gT) (h5 : Cond.code y b maxL ret ∈ gT) (hd : y.cls = C ∧ y.cls ≠ "java/lang/invoke/MethodHandle" ∧ y.cls ≠ "java/lang/invoke/VarHandle" ∧ (parseMethodDescriptor y.desc).map (fun d => d.parameters.length) = some nA) (hrm : rm.cells = mc ∧ rm.slots = ms ∧ rm.frames + 1 ≤ R.frames ∧ 8 + (maxL + 11) + rm.locals ≤ R.locals) (hn : As.length = nA) (hrec : ∀ H, G H → ∃ cell : Cell, H[a]? = some cell ∧ cell.vm.isStatics = false ∧ s.vm.findClass C = some cell.cls) (hst : st = As.reverse ++ .ref a :: rest) (hcat : (rest.map fun v => v.category).sum ≤ 8) (hdg : decode cc pc = .ok (.invokevirtual idx, 3)) (hf : cells + mc ≤ R.cells ∧ slots + ms ≤ R.slots)
    (k : ∀ u, pu u → zz p l e R s m args below meth c A (G1 u) (cells + mc) (slots + ms) Q (pc + 3) lo ll (rest)) : zz p l e R s m args below meth c A G cells slots Q pc lo ll st := by
  subst hst
  intro H locs ls hG hS hl hc
  exact va_callv (va_runV (As := As) (rest := rest) ⟨X.1, X.2.1, rfl, X.2.2.1, X.2.2.2.1⟩ hM (cwV nA X.2.2.2.1 (z_gV (x := .tt) h1 h2 h3 h4 h5) rfl hrm.1 hrm.2.1 hd hrm.2.2) ⟨zB_blind, hrec H hG, fun U hU hW => ⟨rfl, zB_at X hG hS U hU hW⟩⟩ rfl hn hl.1 rfl (lv_room hcat) hdg hf) hS (fun _ _ h => h) (fun _ h => h) (fun u t H1 locs1 ht _ hp hB _ _ hS1 => k u hp H1 locs1 ls (by rw [← ht]; exact hB) hS1 hl hc)
theorem z_callVl (X : zc p l s m args meth c cc own D dA A) {y : MethodName} {b : ByteArray} {maxL idx nA mc ms : Nat} {C : String} {ret : Option FieldType} {rm : Room} {a : Nat} {As st : List Value} {S : Type} {r0 : Int64} {pu : S → Prop} {G1 : S → Heap → Prop} (hM : Met l y (.code y b maxL ret :: gT) rm (va_Pc (.ref a :: As) (zB D dA A s.heap.size G)) (va_Ql (fun r u => r = r0 ∧ pu u) (fun u t => G1 u t.heap) A) mc ms A) (h1 : Cond.methodLink own idx y ∈ gT) (h2 : Cond.instanceMethod y ∈ gT) (h3 : Cond.selects C y y ∈ gT) (h4 : Cond.initialized C ∈ gT) (h5 : Cond.code y b maxL ret ∈ gT) (hd : y.cls = C ∧ y.cls ≠ "java/lang/invoke/MethodHandle" ∧ y.cls ≠ "java/lang/invoke/VarHandle" ∧ (parseMethodDescriptor y.desc).map (fun d => d.parameters.length) = some nA) (hrm : rm.cells = mc ∧ rm.slots = ms ∧ rm.frames + 1 ≤ R.frames ∧ 8 + (maxL + 11) + rm.locals ≤ R.locals) (hn : As.length = nA) (hrec : ∀ H, G H → ∃ cell : Cell, H[a]? = some cell ∧ cell.vm.isStatics = false ∧ s.vm.findClass C = some cell.cls) (hst : st = As.reverse ++ .ref a :: rest) (hcat : (rest.map fun v => v.category).sum ≤ 8) (hdg : decode cc pc = .ok (.invokevirtual idx, 3)) (hf : cells + mc ≤ R.cells ∧ slots + ms ≤ R.slots)
    (k : ∀ u, pu u → zz p l e R s m args below meth c A (G1 u) (cells + mc) (slots + ms) Q (pc + 3) lo ll (.long r0 :: rest)) : zz p l e R s m args below meth c A G cells slots Q pc lo ll st := by
  subst hst
  intro H locs ls hG hS hl hc
  exact va_calll (va_runV (As := As) (rest := rest) ⟨X.1, X.2.1, rfl, X.2.2.1, X.2.2.2.1⟩ hM (cwV nA X.2.2.2.1 (z_gV (x := .tt) h1 h2 h3 h4 h5) rfl hrm.1 hrm.2.1 hd hrm.2.2) ⟨zB_blind, hrec H hG, fun U hU hW => ⟨rfl, zB_at X hG hS U hU hW⟩⟩ rfl hn hl.1 rfl (lv_room hcat) hdg hf) hS (fun _ _ h => h) (fun _ h => h) (fun r u t H1 locs1 ht _ hp hB _ _ hS1 => by obtain ⟨rfl, hp⟩ := hp; exact k u hp H1 locs1 ls (by rw [← ht]; exact hB) hS1 hl hc)
theorem z_callVq (X : zc p l s m args meth c cc own D dA A) {y : MethodName} {b : ByteArray} {maxL idx nA mc ms : Nat} {C : String} {ret : Option FieldType} {rm : Room} {a : Nat} {As st : List Value} {S : Type} {ro : S → Option Nat} {pu : S → Prop} {G1 : S → Heap → Prop} (hM : Met l y (.code y b maxL ret :: gT) rm (va_Pc (.ref a :: As) (zB D dA A s.heap.size G)) (va_Qq (fun r u => r = ro u ∧ pu u) (fun u t => G1 u t.heap) A) mc ms A) (h1 : Cond.methodLink own idx y ∈ gT) (h2 : Cond.instanceMethod y ∈ gT) (h3 : Cond.selects C y y ∈ gT) (h4 : Cond.initialized C ∈ gT) (h5 : Cond.code y b maxL ret ∈ gT) (hd : y.cls = C ∧ y.cls ≠ "java/lang/invoke/MethodHandle" ∧ y.cls ≠ "java/lang/invoke/VarHandle" ∧ (parseMethodDescriptor y.desc).map (fun d => d.parameters.length) = some nA) (hrm : rm.cells = mc ∧ rm.slots = ms ∧ rm.frames + 1 ≤ R.frames ∧ 8 + (maxL + 11) + rm.locals ≤ R.locals) (hn : As.length = nA) (hrec : ∀ H, G H → ∃ cell : Cell, H[a]? = some cell ∧ cell.vm.isStatics = false ∧ s.vm.findClass C = some cell.cls) (hst : st = As.reverse ++ .ref a :: rest) (hcat : (rest.map fun v => v.category).sum ≤ 8) (hdg : decode cc pc = .ok (.invokevirtual idx, 3)) (hf : cells + mc ≤ R.cells ∧ slots + ms ≤ R.slots)
    (k : ∀ u, pu u → zz p l e R s m args below meth c A (G1 u) (cells + mc) (slots + ms) Q (pc + 3) lo ll (va_rf (ro u) :: rest)) : zz p l e R s m args below meth c A G cells slots Q pc lo ll st := by
  subst hst
  intro H locs ls hG hS hl hc
  exact va_callq (va_runV (As := As) (rest := rest) ⟨X.1, X.2.1, rfl, X.2.2.1, X.2.2.2.1⟩ hM (cwV nA X.2.2.2.1 (z_gV (x := .tt) h1 h2 h3 h4 h5) rfl hrm.1 hrm.2.1 hd hrm.2.2) ⟨zB_blind, hrec H hG, fun U hU hW => ⟨rfl, zB_at X hG hS U hU hW⟩⟩ rfl hn hl.1 rfl (lv_room hcat) hdg hf) hS (fun _ _ h => h) (fun _ h => h) (fun r u t H1 locs1 ht _ hp hB _ _ hS1 => by obtain ⟨rfl, hp⟩ := hp; exact k u hp H1 locs1 ls (by rw [← ht]; exact hB) hS1 hl hc)
theorem z_callSi (X : zc p l s m args meth c cc own D dA A) {y : MethodName} {b : ByteArray} {maxL idx nA mc ms : Nat} {C : String} {ret : Option FieldType} {rm : Room} {a : Nat} {As st : List Value} {S : Type} {r0 : Int32} {pu : S → Prop} {G1 : S → Heap → Prop} (hM : Met l y (.code y b maxL ret :: gT) rm (va_Pc As (zB D dA A s.heap.size G)) (va_Qi (fun r u => r = r0 ∧ pu u) (fun u t => G1 u t.heap) A) mc ms A) (h1 : Cond.methodLink own idx y ∈ gT) (h2 : Cond.static y ∈ gT) (h4 : Cond.initialized own ∈ gT) (h5 : Cond.code y b maxL ret ∈ gT) (hd : y.cls = own ∧ y.cls ≠ "java/lang/invoke/MethodHandle" ∧ y.cls ≠ "java/lang/invoke/VarHandle" ∧ (parseMethodDescriptor y.desc).map (fun d => d.parameters.length) = some nA) (hrm : rm.cells = mc ∧ rm.slots = ms ∧ rm.frames + 1 ≤ R.frames ∧ 8 + (maxL + 11) + rm.locals ≤ R.locals) (hn : As.length = nA)  (hst : st = As.reverse ++ rest) (hcat : (rest.map fun v => v.category).sum ≤ 8) (hdg : decode cc pc = .ok (.invokestatic idx, 3)) (hf : cells + mc ≤ R.cells ∧ slots + ms ≤ R.slots)
    (k : ∀ u, pu u → zz p l e R s m args below meth c A (G1 u) (cells + mc) (slots + ms) Q (pc + 3) lo ll (.int r0 :: rest)) : zz p l e R s m args below meth c A G cells slots Q pc lo ll st := by
  subst hst
  intro H locs ls hG hS hl hc
  exact va_calli (va_runS (As := As) (rest := rest) ⟨X.1, X.2.1, rfl, X.2.2.1, X.2.2.2.1⟩ hM (cwS nA X.2.2.2.1 (z_gS h1 h2 h4 h5) rfl hrm.1 hrm.2.1 hd hrm.2.2) ⟨zB_blind, fun U hU hW => ⟨rfl, zB_at X hG hS U hU hW⟩⟩ rfl hn hl.1 rfl (lv_room hcat) hdg hf) hS (fun _ _ h => h) (fun _ h => h) (fun r u t H1 locs1 ht _ hp hB _ _ hS1 => by obtain ⟨rfl, hp⟩ := hp; exact k u hp H1 locs1 ls (by rw [← ht]; exact hB) hS1 hl hc)
theorem z_callSv (X : zc p l s m args meth c cc own D dA A) {y : MethodName} {b : ByteArray} {maxL idx nA mc ms : Nat} {C : String} {ret : Option FieldType} {rm : Room} {a : Nat} {As st : List Value} {S : Type} {pu : S → Prop} {G1 : S → Heap → Prop} (hM : Met l y (.code y b maxL ret :: gT) rm (va_Pc As (zB D dA A s.heap.size G)) (va_Qv pu (fun u t => G1 u t.heap) A) mc ms A) (h1 : Cond.methodLink own idx y ∈ gT) (h2 : Cond.static y ∈ gT) (h4 : Cond.initialized own ∈ gT) (h5 : Cond.code y b maxL ret ∈ gT) (hd : y.cls = own ∧ y.cls ≠ "java/lang/invoke/MethodHandle" ∧ y.cls ≠ "java/lang/invoke/VarHandle" ∧ (parseMethodDescriptor y.desc).map (fun d => d.parameters.length) = some nA) (hrm : rm.cells = mc ∧ rm.slots = ms ∧ rm.frames + 1 ≤ R.frames ∧ 8 + (maxL + 11) + rm.locals ≤ R.locals) (hn : As.length = nA)  (hst : st = As.reverse ++ rest) (hcat : (rest.map fun v => v.category).sum ≤ 8) (hdg : decode cc pc = .ok (.invokestatic idx, 3)) (hf : cells + mc ≤ R.cells ∧ slots + ms ≤ R.slots)
    (k : ∀ u, pu u → zz p l e R s m args below meth c A (G1 u) (cells + mc) (slots + ms) Q (pc + 3) lo ll (rest)) : zz p l e R s m args below meth c A G cells slots Q pc lo ll st := by
  subst hst
  intro H locs ls hG hS hl hc
  exact va_callv (va_runS (As := As) (rest := rest) ⟨X.1, X.2.1, rfl, X.2.2.1, X.2.2.2.1⟩ hM (cwS nA X.2.2.2.1 (z_gS h1 h2 h4 h5) rfl hrm.1 hrm.2.1 hd hrm.2.2) ⟨zB_blind, fun U hU hW => ⟨rfl, zB_at X hG hS U hU hW⟩⟩ rfl hn hl.1 rfl (lv_room hcat) hdg hf) hS (fun _ _ h => h) (fun _ h => h) (fun u t H1 locs1 ht _ hp hB _ _ hS1 => k u hp H1 locs1 ls (by rw [← ht]; exact hB) hS1 hl hc)
theorem z_callSl (X : zc p l s m args meth c cc own D dA A) {y : MethodName} {b : ByteArray} {maxL idx nA mc ms : Nat} {C : String} {ret : Option FieldType} {rm : Room} {a : Nat} {As st : List Value} {S : Type} {r0 : Int64} {pu : S → Prop} {G1 : S → Heap → Prop} (hM : Met l y (.code y b maxL ret :: gT) rm (va_Pc As (zB D dA A s.heap.size G)) (va_Ql (fun r u => r = r0 ∧ pu u) (fun u t => G1 u t.heap) A) mc ms A) (h1 : Cond.methodLink own idx y ∈ gT) (h2 : Cond.static y ∈ gT) (h4 : Cond.initialized own ∈ gT) (h5 : Cond.code y b maxL ret ∈ gT) (hd : y.cls = own ∧ y.cls ≠ "java/lang/invoke/MethodHandle" ∧ y.cls ≠ "java/lang/invoke/VarHandle" ∧ (parseMethodDescriptor y.desc).map (fun d => d.parameters.length) = some nA) (hrm : rm.cells = mc ∧ rm.slots = ms ∧ rm.frames + 1 ≤ R.frames ∧ 8 + (maxL + 11) + rm.locals ≤ R.locals) (hn : As.length = nA)  (hst : st = As.reverse ++ rest) (hcat : (rest.map fun v => v.category).sum ≤ 8) (hdg : decode cc pc = .ok (.invokestatic idx, 3)) (hf : cells + mc ≤ R.cells ∧ slots + ms ≤ R.slots)
    (k : ∀ u, pu u → zz p l e R s m args below meth c A (G1 u) (cells + mc) (slots + ms) Q (pc + 3) lo ll (.long r0 :: rest)) : zz p l e R s m args below meth c A G cells slots Q pc lo ll st := by
  subst hst
  intro H locs ls hG hS hl hc
  exact va_calll (va_runS (As := As) (rest := rest) ⟨X.1, X.2.1, rfl, X.2.2.1, X.2.2.2.1⟩ hM (cwS nA X.2.2.2.1 (z_gS h1 h2 h4 h5) rfl hrm.1 hrm.2.1 hd hrm.2.2) ⟨zB_blind, fun U hU hW => ⟨rfl, zB_at X hG hS U hU hW⟩⟩ rfl hn hl.1 rfl (lv_room hcat) hdg hf) hS (fun _ _ h => h) (fun _ h => h) (fun r u t H1 locs1 ht _ hp hB _ _ hS1 => by obtain ⟨rfl, hp⟩ := hp; exact k u hp H1 locs1 ls (by rw [← ht]; exact hB) hS1 hl hc)
theorem z_callSq (X : zc p l s m args meth c cc own D dA A) {y : MethodName} {b : ByteArray} {maxL idx nA mc ms : Nat} {C : String} {ret : Option FieldType} {rm : Room} {a : Nat} {As st : List Value} {S : Type} {ro : S → Option Nat} {pu : S → Prop} {G1 : S → Heap → Prop} (hM : Met l y (.code y b maxL ret :: gT) rm (va_Pc As (zB D dA A s.heap.size G)) (va_Qq (fun r u => r = ro u ∧ pu u) (fun u t => G1 u t.heap) A) mc ms A) (h1 : Cond.methodLink own idx y ∈ gT) (h2 : Cond.static y ∈ gT) (h4 : Cond.initialized own ∈ gT) (h5 : Cond.code y b maxL ret ∈ gT) (hd : y.cls = own ∧ y.cls ≠ "java/lang/invoke/MethodHandle" ∧ y.cls ≠ "java/lang/invoke/VarHandle" ∧ (parseMethodDescriptor y.desc).map (fun d => d.parameters.length) = some nA) (hrm : rm.cells = mc ∧ rm.slots = ms ∧ rm.frames + 1 ≤ R.frames ∧ 8 + (maxL + 11) + rm.locals ≤ R.locals) (hn : As.length = nA)  (hst : st = As.reverse ++ rest) (hcat : (rest.map fun v => v.category).sum ≤ 8) (hdg : decode cc pc = .ok (.invokestatic idx, 3)) (hf : cells + mc ≤ R.cells ∧ slots + ms ≤ R.slots)
    (k : ∀ u, pu u → zz p l e R s m args below meth c A (G1 u) (cells + mc) (slots + ms) Q (pc + 3) lo ll (va_rf (ro u) :: rest)) : zz p l e R s m args below meth c A G cells slots Q pc lo ll st := by
  subst hst
  intro H locs ls hG hS hl hc
  exact va_callq (va_runS (As := As) (rest := rest) ⟨X.1, X.2.1, rfl, X.2.2.1, X.2.2.2.1⟩ hM (cwS nA X.2.2.2.1 (z_gS h1 h2 h4 h5) rfl hrm.1 hrm.2.1 hd hrm.2.2) ⟨zB_blind, fun U hU hW => ⟨rfl, zB_at X hG hS U hU hW⟩⟩ rfl hn hl.1 rfl (lv_room hcat) hdg hf) hS (fun _ _ h => h) (fun _ h => h) (fun r u t H1 locs1 ht _ hp hB _ _ hS1 => by obtain ⟨rfl, hp⟩ := hp; exact k u hp H1 locs1 ls (by rw [← ht]; exact hB) hS1 hl hc)
theorem z_min (X : zc p l s m args meth c cc own D dA A) {index : Nat} {x y : Int32} (h1 : Cond.methodLink own index Lib.Math.min.name ∈ gT) (h2 : Cond.static Lib.Math.min.name ∈ gT) (h3 : Cond.initialized "java/lang/Math" ∈ gT) (h4 : Cond.code Lib.Math.min.name Lib.Math.min.code 2 (some .int) ∈ gT) (hfr : 1 ≤ R.frames) (hlo : (rest.map fun v => v.category).sum + 13 ≤ R.locals) (hcs : cells ≤ R.cells ∧ slots ≤ R.slots) (hdg : decode cc pc = .ok (.invokestatic index, 3)) (k : zz p l e R s m args below meth c A G cells slots Q (pc + 3) lo ll (.int (if y < x then y else x) :: rest)) : zz p l e R s m args below meth c A G cells slots Q pc lo ll (.int y :: .int x :: rest) :=
  fun H locs ls hG hS hl hc => va_mmin X.1 X.2.1 hl.1.symm X.2.2.1 (X.2.2.2.1 _ h1) (X.2.2.2.1 _ h2) (X.2.2.2.1 _ h3) (X.2.2.2.1 _ h4) hfr hlo hcs.1 hcs.2 hdg (k H locs ls hG hS hl hc)
theorem z_max (X : zc p l s m args meth c cc own D dA A) {index : Nat} {x y : Int32} (h1 : Cond.methodLink own index Lib.Math.max.name ∈ gT) (h2 : Cond.static Lib.Math.max.name ∈ gT) (h3 : Cond.initialized "java/lang/Math" ∈ gT) (h4 : Cond.code Lib.Math.max.name Lib.Math.max.code 2 (some .int) ∈ gT) (hfr : 1 ≤ R.frames) (hlo : (rest.map fun v => v.category).sum + 13 ≤ R.locals) (hcs : cells ≤ R.cells ∧ slots ≤ R.slots) (hdg : decode cc pc = .ok (.invokestatic index, 3)) (k : zz p l e R s m args below meth c A G cells slots Q (pc + 3) lo ll (.int (if x < y then y else x) :: rest)) : zz p l e R s m args below meth c A G cells slots Q pc lo ll (.int y :: .int x :: rest) :=
  fun H locs ls hG hS hl hc => va_mmax X.1 X.2.1 hl.1.symm X.2.2.1 (X.2.2.2.1 _ h1) (X.2.2.2.1 _ h2) (X.2.2.2.1 _ h3) (X.2.2.2.1 _ h4) hfr hlo hcs.1 hcs.2 hdg (k H locs ls hG hS hl hc)
end ZZ
end
