theorem dX0_init_0 : decode cX0_init 0 = .ok (.aload_n 0, 1) := by decide +kernel
theorem dX0_init_1 : decode cX0_init 1 = .ok (.invokespecial 1, 3) := by decide +kernel
theorem dX0_init_4 : decode cX0_init 4 = .ok (.aload_n 0, 1) := by decide +kernel
theorem dX0_init_5 : decode cX0_init 5 = .ok (.iload_n 1, 1) := by decide +kernel
theorem dX0_init_6 : decode cX0_init 6 = .ok (.putfield 7, 3) := by decide +kernel
theorem dX0_init_9 : decode cX0_init 9 = .ok (.aload_n 0, 1) := by decide +kernel
theorem dX0_init_10 : decode cX0_init 10 = .ok (.iload_n 2, 1) := by decide +kernel
theorem dX0_init_11 : decode cX0_init 11 = .ok (.putfield 13, 3) := by decide +kernel
theorem dX0_init_14 : decode cX0_init 14 = .ok (.aload_n 0, 1) := by decide +kernel
theorem dX0_init_15 : decode cX0_init 15 = .ok (.iload_n 3, 1) := by decide +kernel
theorem dX0_init_16 : decode cX0_init 16 = .ok (.putfield 16, 3) := by decide +kernel
theorem dX0_init_19 : decode cX0_init 19 = .ok (.aload_n 0, 1) := by decide +kernel
theorem dX0_init_20 : decode cX0_init 20 = .ok (.iload 4, 2) := by decide +kernel
theorem dX0_init_22 : decode cX0_init 22 = .ok (.putfield 19, 3) := by decide +kernel
theorem dX0_init_25 : decode cX0_init 25 = .ok (.return_, 1) := by decide +kernel
theorem dX0_isFor_0 : decode cX0_isFor 0 = .ok (.aload_n 0, 1) := by decide +kernel
theorem dX0_isFor_1 : decode cX0_isFor 1 = .ok (.getfield 7, 3) := by decide +kernel
theorem dX0_isFor_4 : decode cX0_isFor 4 = .ok (.aload_n 1, 1) := by decide +kernel
theorem dX0_isFor_5 : decode cX0_isFor 5 = .ok (.getfield 22, 3) := by decide +kernel
theorem dX0_isFor_8 : decode cX0_isFor 8 = .ok (.ishr, 1) := by decide +kernel
theorem dX0_isFor_9 : decode cX0_isFor 9 = .ok (.iconst 1, 1) := by decide +kernel
theorem dX0_isFor_10 : decode cX0_isFor 10 = .ok (.iand, 1) := by decide +kernel
theorem dX0_isFor_11 : decode cX0_isFor 11 = .ok (.iconst 1, 1) := by decide +kernel
theorem dX0_isFor_12 : decode cX0_isFor 12 = .ok (.if_icmp .ne 7, 3) := by decide +kernel
theorem dX0_isFor_15 : decode cX0_isFor 15 = .ok (.iconst 1, 1) := by decide +kernel
theorem dX0_isFor_16 : decode cX0_isFor 16 = .ok (.goto 4, 3) := by decide +kernel
theorem dX0_isFor_19 : decode cX0_isFor 19 = .ok (.iconst 0, 1) := by decide +kernel
theorem dX0_isFor_20 : decode cX0_isFor 20 = .ok (.ireturn, 1) := by decide +kernel
theorem dX0_isOver_0 : decode cX0_isOver 0 = .ok (.iload_n 1, 1) := by decide +kernel
theorem dX0_isOver_1 : decode cX0_isOver 1 = .ok (.aload_n 0, 1) := by decide +kernel
theorem dX0_isOver_2 : decode cX0_isOver 2 = .ok (.getfield 16, 3) := by decide +kernel
theorem dX0_isOver_5 : decode cX0_isOver 5 = .ok (.if_icmp .lt 7, 3) := by decide +kernel
theorem dX0_isOver_8 : decode cX0_isOver 8 = .ok (.iconst 1, 1) := by decide +kernel
theorem dX0_isOver_9 : decode cX0_isOver 9 = .ok (.goto 4, 3) := by decide +kernel
theorem dX0_isOver_12 : decode cX0_isOver 12 = .ok (.iconst 0, 1) := by decide +kernel
theorem dX0_isOver_13 : decode cX0_isOver 13 = .ok (.ireturn, 1) := by decide +kernel
theorem dX0_isUsedAhead_0 : decode cX0_isUsedAhead 0 = .ok (.aload_n 0, 1) := by decide +kernel
theorem dX0_isUsedAhead_1 : decode cX0_isUsedAhead 1 = .ok (.getfield 19, 3) := by decide +kernel
theorem dX0_isUsedAhead_4 : decode cX0_isUsedAhead 4 = .ok (.aload_n 1, 1) := by decide +kernel
theorem dX0_isUsedAhead_5 : decode cX0_isUsedAhead 5 = .ok (.getfield 19, 3) := by decide +kernel
theorem dX0_isUsedAhead_8 : decode cX0_isUsedAhead 8 = .ok (.if_icmp .lt 25, 3) := by decide +kernel
theorem dX0_isUsedAhead_11 : decode cX0_isUsedAhead 11 = .ok (.aload_n 0, 1) := by decide +kernel
theorem dX0_isUsedAhead_12 : decode cX0_isUsedAhead 12 = .ok (.getfield 19, 3) := by decide +kernel
theorem dX0_isUsedAhead_15 : decode cX0_isUsedAhead 15 = .ok (.aload_n 1, 1) := by decide +kernel
theorem dX0_isUsedAhead_16 : decode cX0_isUsedAhead 16 = .ok (.getfield 19, 3) := by decide +kernel
theorem dX0_isUsedAhead_19 : decode cX0_isUsedAhead 19 = .ok (.if_icmp .ne 18, 3) := by decide +kernel
theorem dX0_isUsedAhead_22 : decode cX0_isUsedAhead 22 = .ok (.aload_n 0, 1) := by decide +kernel
theorem dX0_isUsedAhead_23 : decode cX0_isUsedAhead 23 = .ok (.getfield 16, 3) := by decide +kernel
theorem dX0_isUsedAhead_26 : decode cX0_isUsedAhead 26 = .ok (.aload_n 1, 1) := by decide +kernel
theorem dX0_isUsedAhead_27 : decode cX0_isUsedAhead 27 = .ok (.getfield 16, 3) := by decide +kernel
theorem dX0_isUsedAhead_30 : decode cX0_isUsedAhead 30 = .ok (.if_icmp .ge 7, 3) := by decide +kernel
theorem dX0_isUsedAhead_33 : decode cX0_isUsedAhead 33 = .ok (.iconst 1, 1) := by decide +kernel
theorem dX0_isUsedAhead_34 : decode cX0_isUsedAhead 34 = .ok (.goto 4, 3) := by decide +kernel
theorem dX0_isUsedAhead_37 : decode cX0_isUsedAhead 37 = .ok (.iconst 0, 1) := by decide +kernel
theorem dX0_isUsedAhead_38 : decode cX0_isUsedAhead 38 = .ok (.ireturn, 1) := by decide +kernel
theorem dX1_init_0 : decode cX1_init 0 = .ok (.aload_n 0, 1) := by decide +kernel
theorem dX1_init_1 : decode cX1_init 1 = .ok (.invokespecial 3, 3) := by decide +kernel
theorem dX1_init_4 : decode cX1_init 4 = .ok (.aload_n 0, 1) := by decide +kernel
theorem dX1_init_5 : decode cX1_init 5 = .ok (.new 9, 3) := by decide +kernel
theorem dX1_init_8 : decode cX1_init 8 = .ok (.dup, 1) := by decide +kernel
theorem dX1_init_9 : decode cX1_init 9 = .ok (.invokespecial 11, 3) := by decide +kernel
theorem dX1_init_12 : decode cX1_init 12 = .ok (.putfield 12, 3) := by decide +kernel
theorem dX1_init_15 : decode cX1_init 15 = .ok (.aload_n 0, 1) := by decide +kernel
theorem dX1_init_16 : decode cX1_init 16 = .ok (.iload_n 1, 1) := by decide +kernel
theorem dX1_init_17 : decode cX1_init 17 = .ok (.putfield 18, 3) := by decide +kernel
theorem dX1_init_20 : decode cX1_init 20 = .ok (.aload_n 0, 1) := by decide +kernel
theorem dX1_init_21 : decode cX1_init 21 = .ok (.aload_n 2, 1) := by decide +kernel
theorem dX1_init_22 : decode cX1_init 22 = .ok (.putfield 22, 3) := by decide +kernel
theorem dX1_init_25 : decode cX1_init 25 = .ok (.return_, 1) := by decide +kernel
theorem dX1_countParties_0 : decode cX1_countParties 0 = .ok (.iconst 0, 1) := by decide +kernel
theorem dX1_countParties_1 : decode cX1_countParties 1 = .ok (.istore_n 1, 1) := by decide +kernel
theorem dX1_countParties_2 : decode cX1_countParties 2 = .ok (.iconst 0, 1) := by decide +kernel
theorem dX1_countParties_3 : decode cX1_countParties 3 = .ok (.istore_n 2, 1) := by decide +kernel
theorem dX1_countParties_4 : decode cX1_countParties 4 = .ok (.iload_n 2, 1) := by decide +kernel
theorem dX1_countParties_5 : decode cX1_countParties 5 = .ok (.aload_n 0, 1) := by decide +kernel
theorem dX1_countParties_6 : decode cX1_countParties 6 = .ok (.getfield 12, 3) := by decide +kernel
theorem dX1_countParties_9 : decode cX1_countParties 9 = .ok (.invokevirtual 26, 3) := by decide +kernel
theorem dX1_countParties_12 : decode cX1_countParties 12 = .ok (.if_icmp .ge 29, 3) := by decide +kernel
theorem dX1_countParties_15 : decode cX1_countParties 15 = .ok (.aload_n 0, 1) := by decide +kernel
theorem dX1_countParties_16 : decode cX1_countParties 16 = .ok (.getfield 12, 3) := by decide +kernel
theorem dX1_countParties_19 : decode cX1_countParties 19 = .ok (.iload_n 2, 1) := by decide +kernel
theorem dX1_countParties_20 : decode cX1_countParties 20 = .ok (.invokevirtual 30, 3) := by decide +kernel
theorem dX1_countParties_23 : decode cX1_countParties 23 = .ok (.checkcast 34, 3) := by decide +kernel
theorem dX1_countParties_26 : decode cX1_countParties 26 = .ok (.getfield 36, 3) := by decide +kernel
theorem dX1_countParties_29 : decode cX1_countParties 29 = .ok (.ifCond .ne 6, 3) := by decide +kernel
theorem dX1_countParties_32 : decode cX1_countParties 32 = .ok (.iinc 1 1, 3) := by decide +kernel
theorem dX1_countParties_35 : decode cX1_countParties 35 = .ok (.iinc 2 1, 3) := by decide +kernel
theorem dX1_countParties_38 : decode cX1_countParties 38 = .ok (.goto (-34), 3) := by decide +kernel
theorem dX1_countParties_41 : decode cX1_countParties 41 = .ok (.iload_n 1, 1) := by decide +kernel
theorem dX1_countParties_42 : decode cX1_countParties 42 = .ok (.ireturn, 1) := by decide +kernel
theorem dX1_findOnlyParty_0 : decode cX1_findOnlyParty 0 = .ok (.aconst_null, 1) := by decide +kernel
theorem dX1_findOnlyParty_1 : decode cX1_findOnlyParty 1 = .ok (.astore_n 1, 1) := by decide +kernel
theorem dX1_findOnlyParty_2 : decode cX1_findOnlyParty 2 = .ok (.iconst 0, 1) := by decide +kernel
theorem dX1_findOnlyParty_3 : decode cX1_findOnlyParty 3 = .ok (.istore_n 2, 1) := by decide +kernel
theorem dX1_findOnlyParty_4 : decode cX1_findOnlyParty 4 = .ok (.iload_n 2, 1) := by decide +kernel
theorem dX1_findOnlyParty_5 : decode cX1_findOnlyParty 5 = .ok (.aload_n 0, 1) := by decide +kernel
theorem dX1_findOnlyParty_6 : decode cX1_findOnlyParty 6 = .ok (.getfield 12, 3) := by decide +kernel
theorem dX1_findOnlyParty_9 : decode cX1_findOnlyParty 9 = .ok (.invokevirtual 26, 3) := by decide +kernel
theorem dX1_findOnlyParty_12 : decode cX1_findOnlyParty 12 = .ok (.if_icmp .ge 36, 3) := by decide +kernel
theorem dX1_findOnlyParty_15 : decode cX1_findOnlyParty 15 = .ok (.aload_n 0, 1) := by decide +kernel
theorem dX1_findOnlyParty_16 : decode cX1_findOnlyParty 16 = .ok (.getfield 12, 3) := by decide +kernel
theorem dX1_findOnlyParty_19 : decode cX1_findOnlyParty 19 = .ok (.iload_n 2, 1) := by decide +kernel
theorem dX1_findOnlyParty_20 : decode cX1_findOnlyParty 20 = .ok (.invokevirtual 30, 3) := by decide +kernel
theorem dX1_findOnlyParty_23 : decode cX1_findOnlyParty 23 = .ok (.checkcast 34, 3) := by decide +kernel
theorem dX1_findOnlyParty_26 : decode cX1_findOnlyParty 26 = .ok (.astore_n 3, 1) := by decide +kernel
theorem dX1_findOnlyParty_27 : decode cX1_findOnlyParty 27 = .ok (.aload_n 3, 1) := by decide +kernel
theorem dX1_findOnlyParty_28 : decode cX1_findOnlyParty 28 = .ok (.getfield 36, 3) := by decide +kernel
theorem dX1_findOnlyParty_31 : decode cX1_findOnlyParty 31 = .ok (.ifCond .ne 11, 3) := by decide +kernel
theorem dX1_findOnlyParty_34 : decode cX1_findOnlyParty 34 = .ok (.aload_n 1, 1) := by decide +kernel
theorem dX1_findOnlyParty_35 : decode cX1_findOnlyParty 35 = .ok (.ifnull 5, 3) := by decide +kernel
theorem dX1_findOnlyParty_38 : decode cX1_findOnlyParty 38 = .ok (.aconst_null, 1) := by decide +kernel
theorem dX1_findOnlyParty_39 : decode cX1_findOnlyParty 39 = .ok (.areturn, 1) := by decide +kernel
theorem dX1_findOnlyParty_40 : decode cX1_findOnlyParty 40 = .ok (.aload_n 3, 1) := by decide +kernel
theorem dX1_findOnlyParty_41 : decode cX1_findOnlyParty 41 = .ok (.astore_n 1, 1) := by decide +kernel
theorem dX1_findOnlyParty_42 : decode cX1_findOnlyParty 42 = .ok (.iinc 2 1, 3) := by decide +kernel
theorem dX1_findOnlyParty_45 : decode cX1_findOnlyParty 45 = .ok (.goto (-41), 3) := by decide +kernel
theorem dX1_findOnlyParty_48 : decode cX1_findOnlyParty 48 = .ok (.aload_n 1, 1) := by decide +kernel
theorem dX1_findOnlyParty_49 : decode cX1_findOnlyParty 49 = .ok (.areturn, 1) := by decide +kernel
theorem dX2_init_0 : decode cX2_init 0 = .ok (.aload_n 0, 1) := by decide +kernel
theorem dX2_init_1 : decode cX2_init 1 = .ok (.invokespecial 3, 3) := by decide +kernel
theorem dX2_init_4 : decode cX2_init 4 = .ok (.aload_n 0, 1) := by decide +kernel
theorem dX2_init_5 : decode cX2_init 5 = .ok (.iconst 3, 1) := by decide +kernel
theorem dX2_init_6 : decode cX2_init 6 = .ok (.putfield 9, 3) := by decide +kernel
theorem dX2_init_9 : decode cX2_init 9 = .ok (.aload_n 0, 1) := by decide +kernel
theorem dX2_init_10 : decode cX2_init 10 = .ok (.iconst 0, 1) := by decide +kernel
theorem dX2_init_11 : decode cX2_init 11 = .ok (.putfield 15, 3) := by decide +kernel
theorem dX2_init_14 : decode cX2_init 14 = .ok (.aload_n 0, 1) := by decide +kernel
theorem dX2_init_15 : decode cX2_init 15 = .ok (.iload_n 1, 1) := by decide +kernel
theorem dX2_init_16 : decode cX2_init 16 = .ok (.putfield 18, 3) := by decide +kernel
theorem dX2_init_19 : decode cX2_init 19 = .ok (.aload_n 0, 1) := by decide +kernel
theorem dX2_init_20 : decode cX2_init 20 = .ok (.aload_n 2, 1) := by decide +kernel
theorem dX2_init_21 : decode cX2_init 21 = .ok (.putfield 21, 3) := by decide +kernel
theorem dX2_init_24 : decode cX2_init 24 = .ok (.return_, 1) := by decide +kernel
theorem dX2_isNextTo_0 : decode cX2_isNextTo 0 = .ok (.aload_n 0, 1) := by decide +kernel
theorem dX2_isNextTo_1 : decode cX2_isNextTo 1 = .ok (.getfield 18, 3) := by decide +kernel
theorem dX2_isNextTo_4 : decode cX2_isNextTo 4 = .ok (.aload_n 1, 1) := by decide +kernel
theorem dX2_isNextTo_5 : decode cX2_isNextTo 5 = .ok (.getfield 18, 3) := by decide +kernel
theorem dX2_isNextTo_8 : decode cX2_isNextTo 8 = .ok (.isub, 1) := by decide +kernel
theorem dX2_isNextTo_9 : decode cX2_isNextTo 9 = .ok (.invokestatic 25, 3) := by decide +kernel
theorem dX2_isNextTo_12 : decode cX2_isNextTo 12 = .ok (.istore_n 2, 1) := by decide +kernel
theorem dX2_isNextTo_13 : decode cX2_isNextTo 13 = .ok (.iload_n 2, 1) := by decide +kernel
theorem dX2_isNextTo_14 : decode cX2_isNextTo 14 = .ok (.iconst 1, 1) := by decide +kernel
theorem dX2_isNextTo_15 : decode cX2_isNextTo 15 = .ok (.if_icmp .eq 9, 3) := by decide +kernel
theorem dX2_isNextTo_18 : decode cX2_isNextTo 18 = .ok (.iload_n 2, 1) := by decide +kernel
theorem dX2_isNextTo_19 : decode cX2_isNextTo 19 = .ok (.bipush 7, 2) := by decide +kernel
theorem dX2_isNextTo_21 : decode cX2_isNextTo 21 = .ok (.if_icmp .ne 7, 3) := by decide +kernel
theorem dX2_isNextTo_24 : decode cX2_isNextTo 24 = .ok (.iconst 1, 1) := by decide +kernel
theorem dX2_isNextTo_25 : decode cX2_isNextTo 25 = .ok (.goto 4, 3) := by decide +kernel
theorem dX2_isNextTo_28 : decode cX2_isNextTo 28 = .ok (.iconst 0, 1) := by decide +kernel
theorem dX2_isNextTo_29 : decode cX2_isNextTo 29 = .ok (.ireturn, 1) := by decide +kernel
theorem dX3_init_0 : decode cX3_init 0 = .ok (.aload_n 0, 1) := by decide +kernel
theorem dX3_init_1 : decode cX3_init 1 = .ok (.invokespecial 1, 3) := by decide +kernel
theorem dX3_init_4 : decode cX3_init 4 = .ok (.aload_n 0, 1) := by decide +kernel
theorem dX3_init_5 : decode cX3_init 5 = .ok (.iload_n 1, 1) := by decide +kernel
theorem dX3_init_6 : decode cX3_init 6 = .ok (.putfield 7, 3) := by decide +kernel
theorem dX3_init_9 : decode cX3_init 9 = .ok (.aload_n 0, 1) := by decide +kernel
theorem dX3_init_10 : decode cX3_init 10 = .ok (.iload_n 2, 1) := by decide +kernel
theorem dX3_init_11 : decode cX3_init 11 = .ok (.putfield 13, 3) := by decide +kernel
theorem dX3_init_14 : decode cX3_init 14 = .ok (.aload_n 0, 1) := by decide +kernel
theorem dX3_init_15 : decode cX3_init 15 = .ok (.aload_n 3, 1) := by decide +kernel
theorem dX3_init_16 : decode cX3_init 16 = .ok (.putfield 16, 3) := by decide +kernel
theorem dX3_init_19 : decode cX3_init 19 = .ok (.return_, 1) := by decide +kernel
theorem dX4_init_0 : decode cX4_init 0 = .ok (.aload_n 0, 1) := by decide +kernel
theorem dX4_init_1 : decode cX4_init 1 = .ok (.invokespecial 3, 3) := by decide +kernel
theorem dX4_init_4 : decode cX4_init 4 = .ok (.aload_n 0, 1) := by decide +kernel
theorem dX4_init_5 : decode cX4_init 5 = .ok (.new 9, 3) := by decide +kernel
theorem dX4_init_8 : decode cX4_init 8 = .ok (.dup, 1) := by decide +kernel
theorem dX4_init_9 : decode cX4_init 9 = .ok (.invokespecial 11, 3) := by decide +kernel
theorem dX4_init_12 : decode cX4_init 12 = .ok (.putfield 12, 3) := by decide +kernel
theorem dX4_init_15 : decode cX4_init 15 = .ok (.aload_n 0, 1) := by decide +kernel
theorem dX4_init_16 : decode cX4_init 16 = .ok (.new 18, 3) := by decide +kernel
theorem dX4_init_19 : decode cX4_init 19 = .ok (.dup, 1) := by decide +kernel
theorem dX4_init_20 : decode cX4_init 20 = .ok (.invokespecial 20, 3) := by decide +kernel
theorem dX4_init_23 : decode cX4_init 23 = .ok (.putfield 21, 3) := by decide +kernel
theorem dX4_init_26 : decode cX4_init 26 = .ok (.aload_n 0, 1) := by decide +kernel
theorem dX4_init_27 : decode cX4_init 27 = .ok (.iconst 0, 1) := by decide +kernel
theorem dX4_init_28 : decode cX4_init 28 = .ok (.putfield 25, 3) := by decide +kernel
theorem dX4_init_31 : decode cX4_init 31 = .ok (.aload_n 0, 1) := by decide +kernel
theorem dX4_init_32 : decode cX4_init 32 = .ok (.iconst 0, 1) := by decide +kernel
theorem dX4_init_33 : decode cX4_init 33 = .ok (.putfield 29, 3) := by decide +kernel
theorem dX4_init_36 : decode cX4_init 36 = .ok (.aload_n 0, 1) := by decide +kernel
theorem dX4_init_37 : decode cX4_init 37 = .ok (.iconst 0, 1) := by decide +kernel
theorem dX4_init_38 : decode cX4_init 38 = .ok (.putfield 32, 3) := by decide +kernel
theorem dX4_init_41 : decode cX4_init 41 = .ok (.aload_n 0, 1) := by decide +kernel
theorem dX4_init_42 : decode cX4_init 42 = .ok (.iconst 0, 1) := by decide +kernel
theorem dX4_init_43 : decode cX4_init 43 = .ok (.putfield 35, 3) := by decide +kernel
theorem dX4_init_46 : decode cX4_init 46 = .ok (.aload_n 0, 1) := by decide +kernel
theorem dX4_init_47 : decode cX4_init 47 = .ok (.iload_n 1, 1) := by decide +kernel
theorem dX4_init_48 : decode cX4_init 48 = .ok (.putfield 38, 3) := by decide +kernel
theorem dX4_init_51 : decode cX4_init 51 = .ok (.aload_n 0, 1) := by decide +kernel
theorem dX4_init_52 : decode cX4_init 52 = .ok (.aload_n 2, 1) := by decide +kernel
theorem dX4_init_53 : decode cX4_init 53 = .ok (.putfield 41, 3) := by decide +kernel
theorem dX4_init_56 : decode cX4_init 56 = .ok (.aload_n 0, 1) := by decide +kernel
theorem dX4_init_57 : decode cX4_init 57 = .ok (.aload_n 3, 1) := by decide +kernel
theorem dX4_init_58 : decode cX4_init 58 = .ok (.putfield 45, 3) := by decide +kernel
theorem dX4_init_61 : decode cX4_init 61 = .ok (.aload_n 0, 1) := by decide +kernel
theorem dX4_init_62 : decode cX4_init 62 = .ok (.aload 4, 2) := by decide +kernel
theorem dX4_init_64 : decode cX4_init 64 = .ok (.putfield 49, 3) := by decide +kernel
theorem dX4_init_67 : decode cX4_init 67 = .ok (.aload_n 0, 1) := by decide +kernel
theorem dX4_init_68 : decode cX4_init 68 = .ok (.iload 5, 2) := by decide +kernel
theorem dX4_init_70 : decode cX4_init 70 = .ok (.putfield 53, 3) := by decide +kernel
theorem dX4_init_73 : decode cX4_init 73 = .ok (.aload_n 0, 1) := by decide +kernel
theorem dX4_init_74 : decode cX4_init 74 = .ok (.aload_n 2, 1) := by decide +kernel
theorem dX4_init_75 : decode cX4_init 75 = .ok (.getfield 56, 3) := by decide +kernel
theorem dX4_init_78 : decode cX4_init 78 = .ok (.i2b, 1) := by decide +kernel
theorem dX4_init_79 : decode cX4_init 79 = .ok (.putfield 59, 3) := by decide +kernel
theorem dX4_init_82 : decode cX4_init 82 = .ok (.return_, 1) := by decide +kernel
theorem dX4_keepEvent_0 : decode cX4_keepEvent 0 = .ok (.aload_n 0, 1) := by decide +kernel
theorem dX4_keepEvent_1 : decode cX4_keepEvent 1 = .ok (.getfield 21, 3) := by decide +kernel
theorem dX4_keepEvent_4 : decode cX4_keepEvent 4 = .ok (.invokevirtual 63, 3) := by decide +kernel
theorem dX4_keepEvent_7 : decode cX4_keepEvent 7 = .ok (.sipush 600, 3) := by decide +kernel
theorem dX4_keepEvent_10 : decode cX4_keepEvent 10 = .ok (.if_icmp .ge 21, 3) := by decide +kernel
theorem dX4_keepEvent_13 : decode cX4_keepEvent 13 = .ok (.aload_n 0, 1) := by decide +kernel
theorem dX4_keepEvent_14 : decode cX4_keepEvent 14 = .ok (.getfield 21, 3) := by decide +kernel
theorem dX4_keepEvent_17 : decode cX4_keepEvent 17 = .ok (.new 67, 3) := by decide +kernel
theorem dX4_keepEvent_20 : decode cX4_keepEvent 20 = .ok (.dup, 1) := by decide +kernel
theorem dX4_keepEvent_21 : decode cX4_keepEvent 21 = .ok (.iload_n 1, 1) := by decide +kernel
theorem dX4_keepEvent_22 : decode cX4_keepEvent 22 = .ok (.iload_n 2, 1) := by decide +kernel
theorem dX4_keepEvent_23 : decode cX4_keepEvent 23 = .ok (.aload_n 3, 1) := by decide +kernel
theorem dX4_keepEvent_24 : decode cX4_keepEvent 24 = .ok (.invokespecial 69, 3) := by decide +kernel
theorem dX4_keepEvent_27 : decode cX4_keepEvent 27 = .ok (.invokevirtual 72, 3) := by decide +kernel
theorem dX4_keepEvent_30 : decode cX4_keepEvent 30 = .ok (.pop, 1) := by decide +kernel
theorem dX4_keepEvent_31 : decode cX4_keepEvent 31 = .ok (.return_, 1) := by decide +kernel
theorem dX4_firstUnratedSecond_0 : decode cX4_firstUnratedSecond 0 = .ok (.aload_n 0, 1) := by decide +kernel
theorem dX4_firstUnratedSecond_1 : decode cX4_firstUnratedSecond 1 = .ok (.getfield 53, 3) := by decide +kernel
theorem dX4_firstUnratedSecond_4 : decode cX4_firstUnratedSecond 4 = .ok (.aload_n 0, 1) := by decide +kernel
theorem dX4_firstUnratedSecond_5 : decode cX4_firstUnratedSecond 5 = .ok (.getfield 29, 3) := by decide +kernel
theorem dX4_firstUnratedSecond_8 : decode cX4_firstUnratedSecond 8 = .ok (.iadd, 1) := by decide +kernel
theorem dX4_firstUnratedSecond_9 : decode cX4_firstUnratedSecond 9 = .ok (.ireturn, 1) := by decide +kernel
theorem dX4_useSecond_0 : decode cX4_useSecond 0 = .ok (.aload_n 0, 1) := by decide +kernel
theorem dX4_useSecond_1 : decode cX4_useSecond 1 = .ok (.getfield 12, 3) := by decide +kernel
theorem dX4_useSecond_4 : decode cX4_useSecond 4 = .ok (.dup, 1) := by decide +kernel
theorem dX4_useSecond_5 : decode cX4_useSecond 5 = .ok (.getfield 76, 3) := by decide +kernel
theorem dX4_useSecond_8 : decode cX4_useSecond 8 = .ok (.iconst 1, 1) := by decide +kernel
theorem dX4_useSecond_9 : decode cX4_useSecond 9 = .ok (.isub, 1) := by decide +kernel
theorem dX4_useSecond_10 : decode cX4_useSecond 10 = .ok (.putfield 76, 3) := by decide +kernel
theorem dX4_useSecond_13 : decode cX4_useSecond 13 = .ok (.aload_n 0, 1) := by decide +kernel
theorem dX4_useSecond_14 : decode cX4_useSecond 14 = .ok (.dup, 1) := by decide +kernel
theorem dX4_useSecond_15 : decode cX4_useSecond 15 = .ok (.getfield 29, 3) := by decide +kernel
theorem dX4_useSecond_18 : decode cX4_useSecond 18 = .ok (.iconst 1, 1) := by decide +kernel
theorem dX4_useSecond_19 : decode cX4_useSecond 19 = .ok (.iadd, 1) := by decide +kernel
theorem dX4_useSecond_20 : decode cX4_useSecond 20 = .ok (.putfield 29, 3) := by decide +kernel
theorem dX4_useSecond_23 : decode cX4_useSecond 23 = .ok (.aload_n 0, 1) := by decide +kernel
theorem dX4_useSecond_24 : decode cX4_useSecond 24 = .ok (.getfield 12, 3) := by decide +kernel
theorem dX4_useSecond_27 : decode cX4_useSecond 27 = .ok (.getfield 79, 3) := by decide +kernel
theorem dX4_useSecond_30 : decode cX4_useSecond 30 = .ok (.ifnonnull 38, 3) := by decide +kernel
theorem dX4_useSecond_33 : decode cX4_useSecond 33 = .ok (.aload_n 0, 1) := by decide +kernel
theorem dX4_useSecond_34 : decode cX4_useSecond 34 = .ok (.dup, 1) := by decide +kernel
theorem dX4_useSecond_35 : decode cX4_useSecond 35 = .ok (.getfield 32, 3) := by decide +kernel
theorem dX4_useSecond_38 : decode cX4_useSecond 38 = .ok (.iload_n 1, 1) := by decide +kernel
theorem dX4_useSecond_39 : decode cX4_useSecond 39 = .ok (.iadd, 1) := by decide +kernel
theorem dX4_useSecond_40 : decode cX4_useSecond 40 = .ok (.putfield 32, 3) := by decide +kernel
theorem dX4_useSecond_43 : decode cX4_useSecond 43 = .ok (.aload_n 0, 1) := by decide +kernel
theorem dX4_useSecond_44 : decode cX4_useSecond 44 = .ok (.getfield 49, 3) := by decide +kernel
theorem dX4_useSecond_47 : decode cX4_useSecond 47 = .ok (.dup, 1) := by decide +kernel
theorem dX4_useSecond_48 : decode cX4_useSecond 48 = .ok (.getfield 83, 3) := by decide +kernel
theorem dX4_useSecond_51 : decode cX4_useSecond 51 = .ok (.iload_n 1, 1) := by decide +kernel
theorem dX4_useSecond_52 : decode cX4_useSecond 52 = .ok (.iadd, 1) := by decide +kernel
theorem dX4_useSecond_53 : decode cX4_useSecond 53 = .ok (.putfield 83, 3) := by decide +kernel
theorem dX4_useSecond_56 : decode cX4_useSecond 56 = .ok (.aload_n 0, 1) := by decide +kernel
theorem dX4_useSecond_57 : decode cX4_useSecond 57 = .ok (.getfield 41, 3) := by decide +kernel
theorem dX4_useSecond_60 : decode cX4_useSecond 60 = .ok (.iload_n 1, 1) := by decide +kernel
theorem dX4_useSecond_61 : decode cX4_useSecond 61 = .ok (.iload_n 2, 1) := by decide +kernel
theorem dX4_useSecond_62 : decode cX4_useSecond 62 = .ok (.invokevirtual 88, 3) := by decide +kernel
theorem dX4_useSecond_65 : decode cX4_useSecond 65 = .ok (.goto 13, 3) := by decide +kernel
theorem dX4_useSecond_68 : decode cX4_useSecond 68 = .ok (.aload_n 0, 1) := by decide +kernel
theorem dX4_useSecond_69 : decode cX4_useSecond 69 = .ok (.dup, 1) := by decide +kernel
theorem dX4_useSecond_70 : decode cX4_useSecond 70 = .ok (.getfield 35, 3) := by decide +kernel
theorem dX4_useSecond_73 : decode cX4_useSecond 73 = .ok (.iload_n 1, 1) := by decide +kernel
theorem dX4_useSecond_74 : decode cX4_useSecond 74 = .ok (.iadd, 1) := by decide +kernel
theorem dX4_useSecond_75 : decode cX4_useSecond 75 = .ok (.putfield 35, 3) := by decide +kernel
theorem dX4_useSecond_78 : decode cX4_useSecond 78 = .ok (.aload_n 0, 1) := by decide +kernel
theorem dX4_useSecond_79 : decode cX4_useSecond 79 = .ok (.iconst 3, 1) := by decide +kernel
theorem dX4_useSecond_80 : decode cX4_useSecond 80 = .ok (.aload_n 0, 1) := by decide +kernel
theorem dX4_useSecond_81 : decode cX4_useSecond 81 = .ok (.getfield 59, 3) := by decide +kernel
theorem dX4_useSecond_84 : decode cX4_useSecond 84 = .ok (.imul, 1) := by decide +kernel
theorem dX4_useSecond_85 : decode cX4_useSecond 85 = .ok (.iload_n 1, 1) := by decide +kernel
theorem dX4_useSecond_86 : decode cX4_useSecond 86 = .ok (.iadd, 1) := by decide +kernel
theorem dX4_useSecond_87 : decode cX4_useSecond 87 = .ok (.i2b, 1) := by decide +kernel
theorem dX4_useSecond_88 : decode cX4_useSecond 88 = .ok (.putfield 59, 3) := by decide +kernel
theorem dX4_useSecond_91 : decode cX4_useSecond 91 = .ok (.return_, 1) := by decide +kernel
theorem dX4_computeSeal_0 : decode cX4_computeSeal 0 = .ok (.aload_n 0, 1) := by decide +kernel
theorem dX4_computeSeal_1 : decode cX4_computeSeal 1 = .ok (.getfield 41, 3) := by decide +kernel
theorem dX4_computeSeal_4 : decode cX4_computeSeal 4 = .ok (.getfield 56, 3) := by decide +kernel
theorem dX4_computeSeal_7 : decode cX4_computeSeal 7 = .ok (.istore_n 1, 1) := by decide +kernel
theorem dX4_computeSeal_8 : decode cX4_computeSeal 8 = .ok (.iconst 0, 1) := by decide +kernel
theorem dX4_computeSeal_9 : decode cX4_computeSeal 9 = .ok (.istore_n 2, 1) := by decide +kernel
theorem dX4_computeSeal_10 : decode cX4_computeSeal 10 = .ok (.iload_n 2, 1) := by decide +kernel
theorem dX4_computeSeal_11 : decode cX4_computeSeal 11 = .ok (.aload_n 0, 1) := by decide +kernel
theorem dX4_computeSeal_12 : decode cX4_computeSeal 12 = .ok (.getfield 21, 3) := by decide +kernel
theorem dX4_computeSeal_15 : decode cX4_computeSeal 15 = .ok (.invokevirtual 63, 3) := by decide +kernel
theorem dX4_computeSeal_18 : decode cX4_computeSeal 18 = .ok (.if_icmp .ge 58, 3) := by decide +kernel
theorem dX4_computeSeal_21 : decode cX4_computeSeal 21 = .ok (.aload_n 0, 1) := by decide +kernel
theorem dX4_computeSeal_22 : decode cX4_computeSeal 22 = .ok (.getfield 21, 3) := by decide +kernel
theorem dX4_computeSeal_25 : decode cX4_computeSeal 25 = .ok (.iload_n 2, 1) := by decide +kernel
theorem dX4_computeSeal_26 : decode cX4_computeSeal 26 = .ok (.invokevirtual 92, 3) := by decide +kernel
theorem dX4_computeSeal_29 : decode cX4_computeSeal 29 = .ok (.checkcast 67, 3) := by decide +kernel
theorem dX4_computeSeal_32 : decode cX4_computeSeal 32 = .ok (.astore_n 3, 1) := by decide +kernel
theorem dX4_computeSeal_33 : decode cX4_computeSeal 33 = .ok (.iload_n 1, 1) := by decide +kernel
theorem dX4_computeSeal_34 : decode cX4_computeSeal 34 = .ok (.iconst 5, 1) := by decide +kernel
theorem dX4_computeSeal_35 : decode cX4_computeSeal 35 = .ok (.ishl, 1) := by decide +kernel
theorem dX4_computeSeal_36 : decode cX4_computeSeal 36 = .ok (.iload_n 1, 1) := by decide +kernel
theorem dX4_computeSeal_37 : decode cX4_computeSeal 37 = .ok (.bipush 27, 2) := by decide +kernel
theorem dX4_computeSeal_39 : decode cX4_computeSeal 39 = .ok (.iushr, 1) := by decide +kernel
theorem dX4_computeSeal_40 : decode cX4_computeSeal 40 = .ok (.ior, 1) := by decide +kernel
theorem dX4_computeSeal_41 : decode cX4_computeSeal 41 = .ok (.istore_n 1, 1) := by decide +kernel
theorem dX4_computeSeal_42 : decode cX4_computeSeal 42 = .ok (.iload_n 1, 1) := by decide +kernel
theorem dX4_computeSeal_43 : decode cX4_computeSeal 43 = .ok (.bipush 31, 2) := by decide +kernel
theorem dX4_computeSeal_45 : decode cX4_computeSeal 45 = .ok (.aload_n 3, 1) := by decide +kernel
theorem dX4_computeSeal_46 : decode cX4_computeSeal 46 = .ok (.getfield 96, 3) := by decide +kernel
theorem dX4_computeSeal_49 : decode cX4_computeSeal 49 = .ok (.imul, 1) := by decide +kernel
theorem dX4_computeSeal_50 : decode cX4_computeSeal 50 = .ok (.iadd, 1) := by decide +kernel
theorem dX4_computeSeal_51 : decode cX4_computeSeal 51 = .ok (.istore_n 1, 1) := by decide +kernel
theorem dX4_computeSeal_52 : decode cX4_computeSeal 52 = .ok (.iload_n 1, 1) := by decide +kernel
theorem dX4_computeSeal_53 : decode cX4_computeSeal 53 = .ok (.bipush 8, 2) := by decide +kernel
theorem dX4_computeSeal_55 : decode cX4_computeSeal 55 = .ok (.aload_n 3, 1) := by decide +kernel
theorem dX4_computeSeal_56 : decode cX4_computeSeal 56 = .ok (.getfield 99, 3) := by decide +kernel
theorem dX4_computeSeal_59 : decode cX4_computeSeal 59 = .ok (.imul, 1) := by decide +kernel
theorem dX4_computeSeal_60 : decode cX4_computeSeal 60 = .ok (.aload_n 3, 1) := by decide +kernel
theorem dX4_computeSeal_61 : decode cX4_computeSeal 61 = .ok (.getfield 102, 3) := by decide +kernel
theorem dX4_computeSeal_64 : decode cX4_computeSeal 64 = .ok (.getfield 106, 3) := by decide +kernel
theorem dX4_computeSeal_67 : decode cX4_computeSeal 67 = .ok (.iadd, 1) := by decide +kernel
theorem dX4_computeSeal_68 : decode cX4_computeSeal 68 = .ok (.ixor, 1) := by decide +kernel
theorem dX4_computeSeal_69 : decode cX4_computeSeal 69 = .ok (.istore_n 1, 1) := by decide +kernel
theorem dX4_computeSeal_70 : decode cX4_computeSeal 70 = .ok (.iinc 2 1, 3) := by decide +kernel
theorem dX4_computeSeal_73 : decode cX4_computeSeal 73 = .ok (.goto (-63), 3) := by decide +kernel
theorem dX4_computeSeal_76 : decode cX4_computeSeal 76 = .ok (.iload_n 1, 1) := by decide +kernel
theorem dX4_computeSeal_77 : decode cX4_computeSeal 77 = .ok (.iload_n 1, 1) := by decide +kernel
theorem dX4_computeSeal_78 : decode cX4_computeSeal 78 = .ok (.bipush 16, 2) := by decide +kernel
theorem dX4_computeSeal_80 : decode cX4_computeSeal 80 = .ok (.iushr, 1) := by decide +kernel
theorem dX4_computeSeal_81 : decode cX4_computeSeal 81 = .ok (.ixor, 1) := by decide +kernel
theorem dX4_computeSeal_82 : decode cX4_computeSeal 82 = .ok (.ireturn, 1) := by decide +kernel
theorem dX5_init_0 : decode cX5_init 0 = .ok (.aload_n 0, 1) := by decide +kernel
theorem dX5_init_1 : decode cX5_init 1 = .ok (.invokespecial 3, 3) := by decide +kernel
theorem dX5_init_4 : decode cX5_init 4 = .ok (.aload_n 0, 1) := by decide +kernel
theorem dX5_init_5 : decode cX5_init 5 = .ok (.iconst (-1), 1) := by decide +kernel
theorem dX5_init_6 : decode cX5_init 6 = .ok (.putfield 9, 3) := by decide +kernel
theorem dX5_init_9 : decode cX5_init 9 = .ok (.aload_n 0, 1) := by decide +kernel
theorem dX5_init_10 : decode cX5_init 10 = .ok (.aconst_null, 1) := by decide +kernel
theorem dX5_init_11 : decode cX5_init 11 = .ok (.putfield 15, 3) := by decide +kernel
theorem dX5_init_14 : decode cX5_init 14 = .ok (.aload_n 0, 1) := by decide +kernel
theorem dX5_init_15 : decode cX5_init 15 = .ok (.iconst 0, 1) := by decide +kernel
theorem dX5_init_16 : decode cX5_init 16 = .ok (.putfield 19, 3) := by decide +kernel
theorem dX5_init_19 : decode cX5_init 19 = .ok (.aload_n 0, 1) := by decide +kernel
theorem dX5_init_20 : decode cX5_init 20 = .ok (.iconst 0, 1) := by decide +kernel
theorem dX5_init_21 : decode cX5_init 21 = .ok (.putfield 22, 3) := by decide +kernel
theorem dX5_init_24 : decode cX5_init 24 = .ok (.aload_n 0, 1) := by decide +kernel
theorem dX5_init_25 : decode cX5_init 25 = .ok (.iload_n 1, 1) := by decide +kernel
theorem dX5_init_26 : decode cX5_init 26 = .ok (.putfield 25, 3) := by decide +kernel
theorem dX5_init_29 : decode cX5_init 29 = .ok (.aload_n 0, 1) := by decide +kernel
theorem dX5_init_30 : decode cX5_init 30 = .ok (.aload_n 2, 1) := by decide +kernel
theorem dX5_init_31 : decode cX5_init 31 = .ok (.putfield 28, 3) := by decide +kernel
theorem dX5_init_34 : decode cX5_init 34 = .ok (.aload_n 0, 1) := by decide +kernel
theorem dX5_init_35 : decode cX5_init 35 = .ok (.aload_n 3, 1) := by decide +kernel
theorem dX5_init_36 : decode cX5_init 36 = .ok (.putfield 32, 3) := by decide +kernel
theorem dX5_init_39 : decode cX5_init 39 = .ok (.return_, 1) := by decide +kernel
theorem dX5_addCost_0 : decode cX5_addCost 0 = .ok (.aload_n 0, 1) := by decide +kernel
theorem dX5_addCost_1 : decode cX5_addCost 1 = .ok (.getfield 19, 3) := by decide +kernel
theorem dX5_addCost_4 : decode cX5_addCost 4 = .ok (.iload_n 2, 1) := by decide +kernel
theorem dX5_addCost_5 : decode cX5_addCost 5 = .ok (.if_icmp .eq 13, 3) := by decide +kernel
theorem dX5_addCost_8 : decode cX5_addCost 8 = .ok (.aload_n 0, 1) := by decide +kernel
theorem dX5_addCost_9 : decode cX5_addCost 9 = .ok (.iload_n 2, 1) := by decide +kernel
theorem dX5_addCost_10 : decode cX5_addCost 10 = .ok (.putfield 19, 3) := by decide +kernel
theorem dX5_addCost_13 : decode cX5_addCost 13 = .ok (.aload_n 0, 1) := by decide +kernel
theorem dX5_addCost_14 : decode cX5_addCost 14 = .ok (.iconst 0, 1) := by decide +kernel
theorem dX5_addCost_15 : decode cX5_addCost 15 = .ok (.putfield 22, 3) := by decide +kernel
theorem dX5_addCost_18 : decode cX5_addCost 18 = .ok (.aload_n 0, 1) := by decide +kernel
theorem dX5_addCost_19 : decode cX5_addCost 19 = .ok (.dup, 1) := by decide +kernel
theorem dX5_addCost_20 : decode cX5_addCost 20 = .ok (.getfield 22, 3) := by decide +kernel
theorem dX5_addCost_23 : decode cX5_addCost 23 = .ok (.iload_n 1, 1) := by decide +kernel
theorem dX5_addCost_24 : decode cX5_addCost 24 = .ok (.iadd, 1) := by decide +kernel
theorem dX5_addCost_25 : decode cX5_addCost 25 = .ok (.putfield 22, 3) := by decide +kernel
theorem dX5_addCost_28 : decode cX5_addCost 28 = .ok (.return_, 1) := by decide +kernel
theorem dX5_mostByCap_0 : decode cX5_mostByCap 0 = .ok (.aload_n 0, 1) := by decide +kernel
theorem dX5_mostByCap_1 : decode cX5_mostByCap 1 = .ok (.getfield 9, 3) := by decide +kernel
theorem dX5_mostByCap_4 : decode cX5_mostByCap 4 = .ok (.iconst (-1), 1) := by decide +kernel
theorem dX5_mostByCap_5 : decode cX5_mostByCap 5 = .ok (.if_icmp .ne 6, 3) := by decide +kernel
theorem dX5_mostByCap_8 : decode cX5_mostByCap 8 = .ok (.ldc 36, 2) := by decide +kernel
theorem dX5_mostByCap_10 : decode cX5_mostByCap 10 = .ok (.ireturn, 1) := by decide +kernel
theorem dX5_mostByCap_11 : decode cX5_mostByCap 11 = .ok (.aload_n 0, 1) := by decide +kernel
theorem dX5_mostByCap_12 : decode cX5_mostByCap 12 = .ok (.getfield 19, 3) := by decide +kernel
theorem dX5_mostByCap_15 : decode cX5_mostByCap 15 = .ok (.iload_n 1, 1) := by decide +kernel
theorem dX5_mostByCap_16 : decode cX5_mostByCap 16 = .ok (.if_icmp .ne 15, 3) := by decide +kernel
theorem dX5_mostByCap_19 : decode cX5_mostByCap 19 = .ok (.aload_n 0, 1) := by decide +kernel
theorem dX5_mostByCap_20 : decode cX5_mostByCap 20 = .ok (.getfield 9, 3) := by decide +kernel
theorem dX5_mostByCap_23 : decode cX5_mostByCap 23 = .ok (.aload_n 0, 1) := by decide +kernel
theorem dX5_mostByCap_24 : decode cX5_mostByCap 24 = .ok (.getfield 22, 3) := by decide +kernel
theorem dX5_mostByCap_27 : decode cX5_mostByCap 27 = .ok (.isub, 1) := by decide +kernel
theorem dX5_mostByCap_28 : decode cX5_mostByCap 28 = .ok (.goto 7, 3) := by decide +kernel
theorem dX5_mostByCap_31 : decode cX5_mostByCap 31 = .ok (.aload_n 0, 1) := by decide +kernel
theorem dX5_mostByCap_32 : decode cX5_mostByCap 32 = .ok (.getfield 9, 3) := by decide +kernel
theorem dX5_mostByCap_35 : decode cX5_mostByCap 35 = .ok (.ireturn, 1) := by decide +kernel
theorem dX6_init_0 : decode cX6_init 0 = .ok (.aload_n 0, 1) := by decide +kernel
theorem dX6_init_1 : decode cX6_init 1 = .ok (.invokespecial 3, 3) := by decide +kernel
theorem dX6_init_4 : decode cX6_init 4 = .ok (.aload_n 0, 1) := by decide +kernel
theorem dX6_init_5 : decode cX6_init 5 = .ok (.new 9, 3) := by decide +kernel
theorem dX6_init_8 : decode cX6_init 8 = .ok (.dup, 1) := by decide +kernel
theorem dX6_init_9 : decode cX6_init 9 = .ok (.invokespecial 11, 3) := by decide +kernel
theorem dX6_init_12 : decode cX6_init 12 = .ok (.putfield 12, 3) := by decide +kernel
theorem dX6_init_15 : decode cX6_init 15 = .ok (.aload_n 0, 1) := by decide +kernel
theorem dX6_init_16 : decode cX6_init 16 = .ok (.iload_n 1, 1) := by decide +kernel
theorem dX6_init_17 : decode cX6_init 17 = .ok (.putfield 18, 3) := by decide +kernel
theorem dX6_init_20 : decode cX6_init 20 = .ok (.aload_n 0, 1) := by decide +kernel
theorem dX6_init_21 : decode cX6_init 21 = .ok (.getfield 12, 3) := by decide +kernel
theorem dX6_init_24 : decode cX6_init 24 = .ok (.new 22, 3) := by decide +kernel
theorem dX6_init_27 : decode cX6_init 27 = .ok (.dup, 1) := by decide +kernel
theorem dX6_init_28 : decode cX6_init 28 = .ok (.iconst 0, 1) := by decide +kernel
theorem dX6_init_29 : decode cX6_init 29 = .ok (.iload_n 1, 1) := by decide +kernel
theorem dX6_init_30 : decode cX6_init 30 = .ok (.invokespecial 24, 3) := by decide +kernel
theorem dX6_init_33 : decode cX6_init 33 = .ok (.invokevirtual 27, 3) := by decide +kernel
theorem dX6_init_36 : decode cX6_init 36 = .ok (.pop, 1) := by decide +kernel
theorem dX6_init_37 : decode cX6_init 37 = .ok (.return_, 1) := by decide +kernel
theorem dX6_change_0 : decode cX6_change 0 = .ok (.aload_n 0, 1) := by decide +kernel
theorem dX6_change_1 : decode cX6_change 1 = .ok (.iload_n 2, 1) := by decide +kernel
theorem dX6_change_2 : decode cX6_change 2 = .ok (.putfield 18, 3) := by decide +kernel
theorem dX6_change_5 : decode cX6_change 5 = .ok (.aload_n 0, 1) := by decide +kernel
theorem dX6_change_6 : decode cX6_change 6 = .ok (.getfield 12, 3) := by decide +kernel
theorem dX6_change_9 : decode cX6_change 9 = .ok (.invokevirtual 31, 3) := by decide +kernel
theorem dX6_change_12 : decode cX6_change 12 = .ok (.sipush 600, 3) := by decide +kernel
theorem dX6_change_15 : decode cX6_change 15 = .ok (.if_icmp .ge 20, 3) := by decide +kernel
theorem dX6_change_18 : decode cX6_change 18 = .ok (.aload_n 0, 1) := by decide +kernel
theorem dX6_change_19 : decode cX6_change 19 = .ok (.getfield 12, 3) := by decide +kernel
theorem dX6_change_22 : decode cX6_change 22 = .ok (.new 22, 3) := by decide +kernel
theorem dX6_change_25 : decode cX6_change 25 = .ok (.dup, 1) := by decide +kernel
theorem dX6_change_26 : decode cX6_change 26 = .ok (.iload_n 1, 1) := by decide +kernel
theorem dX6_change_27 : decode cX6_change 27 = .ok (.iload_n 2, 1) := by decide +kernel
theorem dX6_change_28 : decode cX6_change 28 = .ok (.invokespecial 24, 3) := by decide +kernel
theorem dX6_change_31 : decode cX6_change 31 = .ok (.invokevirtual 27, 3) := by decide +kernel
theorem dX6_change_34 : decode cX6_change 34 = .ok (.pop, 1) := by decide +kernel
theorem dX6_change_35 : decode cX6_change 35 = .ok (.return_, 1) := by decide +kernel
theorem dX6_costOf_0 : decode cX6_costOf 0 = .ok (.iconst 0, 1) := by decide +kernel
theorem dX6_costOf_1 : decode cX6_costOf 1 = .ok (.istore_n 3, 1) := by decide +kernel
theorem dX6_costOf_2 : decode cX6_costOf 2 = .ok (.iconst 0, 1) := by decide +kernel
theorem dX6_costOf_3 : decode cX6_costOf 3 = .ok (.istore 4, 2) := by decide +kernel
theorem dX6_costOf_5 : decode cX6_costOf 5 = .ok (.iload 4, 2) := by decide +kernel
theorem dX6_costOf_7 : decode cX6_costOf 7 = .ok (.aload_n 0, 1) := by decide +kernel
theorem dX6_costOf_8 : decode cX6_costOf 8 = .ok (.getfield 12, 3) := by decide +kernel
theorem dX6_costOf_11 : decode cX6_costOf 11 = .ok (.invokevirtual 31, 3) := by decide +kernel
theorem dX6_costOf_14 : decode cX6_costOf 14 = .ok (.if_icmp .ge 93, 3) := by decide +kernel
theorem dX6_costOf_17 : decode cX6_costOf 17 = .ok (.aload_n 0, 1) := by decide +kernel
theorem dX6_costOf_18 : decode cX6_costOf 18 = .ok (.getfield 12, 3) := by decide +kernel
theorem dX6_costOf_21 : decode cX6_costOf 21 = .ok (.iload 4, 2) := by decide +kernel
theorem dX6_costOf_23 : decode cX6_costOf 23 = .ok (.invokevirtual 35, 3) := by decide +kernel
theorem dX6_costOf_26 : decode cX6_costOf 26 = .ok (.checkcast 22, 3) := by decide +kernel
theorem dX6_costOf_29 : decode cX6_costOf 29 = .ok (.astore 5, 2) := by decide +kernel
theorem dX6_costOf_31 : decode cX6_costOf 31 = .ok (.iload_n 1, 1) := by decide +kernel
theorem dX6_costOf_32 : decode cX6_costOf 32 = .ok (.aload 5, 2) := by decide +kernel
theorem dX6_costOf_34 : decode cX6_costOf 34 = .ok (.getfield 39, 3) := by decide +kernel
theorem dX6_costOf_37 : decode cX6_costOf 37 = .ok (.invokestatic 42, 3) := by decide +kernel
theorem dX6_costOf_40 : decode cX6_costOf 40 = .ok (.istore 6, 2) := by decide +kernel
theorem dX6_costOf_42 : decode cX6_costOf 42 = .ok (.iload 4, 2) := by decide +kernel
theorem dX6_costOf_44 : decode cX6_costOf 44 = .ok (.iconst 1, 1) := by decide +kernel
theorem dX6_costOf_45 : decode cX6_costOf 45 = .ok (.iadd, 1) := by decide +kernel
theorem dX6_costOf_46 : decode cX6_costOf 46 = .ok (.aload_n 0, 1) := by decide +kernel
theorem dX6_costOf_47 : decode cX6_costOf 47 = .ok (.getfield 12, 3) := by decide +kernel
theorem dX6_costOf_50 : decode cX6_costOf 50 = .ok (.invokevirtual 31, 3) := by decide +kernel
theorem dX6_costOf_53 : decode cX6_costOf 53 = .ok (.if_icmp .ge 27, 3) := by decide +kernel
theorem dX6_costOf_56 : decode cX6_costOf 56 = .ok (.iload_n 2, 1) := by decide +kernel
theorem dX6_costOf_57 : decode cX6_costOf 57 = .ok (.aload_n 0, 1) := by decide +kernel
theorem dX6_costOf_58 : decode cX6_costOf 58 = .ok (.getfield 12, 3) := by decide +kernel
theorem dX6_costOf_61 : decode cX6_costOf 61 = .ok (.iload 4, 2) := by decide +kernel
theorem dX6_costOf_63 : decode cX6_costOf 63 = .ok (.iconst 1, 1) := by decide +kernel
theorem dX6_costOf_64 : decode cX6_costOf 64 = .ok (.iadd, 1) := by decide +kernel
theorem dX6_costOf_65 : decode cX6_costOf 65 = .ok (.invokevirtual 35, 3) := by decide +kernel
theorem dX6_costOf_68 : decode cX6_costOf 68 = .ok (.checkcast 22, 3) := by decide +kernel
theorem dX6_costOf_71 : decode cX6_costOf 71 = .ok (.getfield 39, 3) := by decide +kernel
theorem dX6_costOf_74 : decode cX6_costOf 74 = .ok (.invokestatic 48, 3) := by decide +kernel
theorem dX6_costOf_77 : decode cX6_costOf 77 = .ok (.goto 4, 3) := by decide +kernel
theorem dX6_costOf_80 : decode cX6_costOf 80 = .ok (.iload_n 2, 1) := by decide +kernel
theorem dX6_costOf_81 : decode cX6_costOf 81 = .ok (.istore 7, 2) := by decide +kernel
theorem dX6_costOf_83 : decode cX6_costOf 83 = .ok (.iload_n 3, 1) := by decide +kernel
theorem dX6_costOf_84 : decode cX6_costOf 84 = .ok (.iconst 0, 1) := by decide +kernel
theorem dX6_costOf_85 : decode cX6_costOf 85 = .ok (.iload 7, 2) := by decide +kernel
theorem dX6_costOf_87 : decode cX6_costOf 87 = .ok (.iload 6, 2) := by decide +kernel
theorem dX6_costOf_89 : decode cX6_costOf 89 = .ok (.isub, 1) := by decide +kernel
theorem dX6_costOf_90 : decode cX6_costOf 90 = .ok (.invokestatic 42, 3) := by decide +kernel
theorem dX6_costOf_93 : decode cX6_costOf 93 = .ok (.aload 5, 2) := by decide +kernel
theorem dX6_costOf_95 : decode cX6_costOf 95 = .ok (.getfield 51, 3) := by decide +kernel
theorem dX6_costOf_98 : decode cX6_costOf 98 = .ok (.imul, 1) := by decide +kernel
theorem dX6_costOf_99 : decode cX6_costOf 99 = .ok (.iadd, 1) := by decide +kernel
theorem dX6_costOf_100 : decode cX6_costOf 100 = .ok (.istore_n 3, 1) := by decide +kernel
theorem dX6_costOf_101 : decode cX6_costOf 101 = .ok (.iinc 4 1, 3) := by decide +kernel
theorem dX6_costOf_104 : decode cX6_costOf 104 = .ok (.goto (-99), 3) := by decide +kernel
theorem dX6_costOf_107 : decode cX6_costOf 107 = .ok (.iload_n 3, 1) := by decide +kernel
theorem dX6_costOf_108 : decode cX6_costOf 108 = .ok (.ireturn, 1) := by decide +kernel
theorem dX7_init_0 : decode cX7_init 0 = .ok (.aload_n 0, 1) := by decide +kernel
theorem dX7_init_1 : decode cX7_init 1 = .ok (.invokespecial 1, 3) := by decide +kernel
theorem dX7_init_4 : decode cX7_init 4 = .ok (.aload_n 0, 1) := by decide +kernel
theorem dX7_init_5 : decode cX7_init 5 = .ok (.iload_n 1, 1) := by decide +kernel
theorem dX7_init_6 : decode cX7_init 6 = .ok (.putfield 7, 3) := by decide +kernel
theorem dX7_init_9 : decode cX7_init 9 = .ok (.aload_n 0, 1) := by decide +kernel
theorem dX7_init_10 : decode cX7_init 10 = .ok (.iload_n 2, 1) := by decide +kernel
theorem dX7_init_11 : decode cX7_init 11 = .ok (.putfield 13, 3) := by decide +kernel
theorem dX7_init_14 : decode cX7_init 14 = .ok (.return_, 1) := by decide +kernel
theorem dX8_init_0 : decode cX8_init 0 = .ok (.aload_n 0, 1) := by decide +kernel
theorem dX8_init_1 : decode cX8_init 1 = .ok (.invokespecial 1, 3) := by decide +kernel
theorem dX8_init_4 : decode cX8_init 4 = .ok (.aload_n 0, 1) := by decide +kernel
theorem dX8_init_5 : decode cX8_init 5 = .ok (.iconst 0, 1) := by decide +kernel
theorem dX8_init_6 : decode cX8_init 6 = .ok (.putfield 7, 3) := by decide +kernel
theorem dX8_init_9 : decode cX8_init 9 = .ok (.aload_n 0, 1) := by decide +kernel
theorem dX8_init_10 : decode cX8_init 10 = .ok (.iconst 0, 1) := by decide +kernel
theorem dX8_init_11 : decode cX8_init 11 = .ok (.putfield 13, 3) := by decide +kernel
theorem dX8_init_14 : decode cX8_init 14 = .ok (.aload_n 0, 1) := by decide +kernel
theorem dX8_init_15 : decode cX8_init 15 = .ok (.aconst_null, 1) := by decide +kernel
theorem dX8_init_16 : decode cX8_init 16 = .ok (.putfield 16, 3) := by decide +kernel
theorem dX8_init_19 : decode cX8_init 19 = .ok (.return_, 1) := by decide +kernel
theorem dX8_takeFromBundle_0 : decode cX8_takeFromBundle 0 = .ok (.aload_n 1, 1) := by decide +kernel
theorem dX8_takeFromBundle_1 : decode cX8_takeFromBundle 1 = .ok (.dup, 1) := by decide +kernel
theorem dX8_takeFromBundle_2 : decode cX8_takeFromBundle 2 = .ok (.getfield 20, 3) := by decide +kernel
theorem dX8_takeFromBundle_5 : decode cX8_takeFromBundle 5 = .ok (.iload_n 2, 1) := by decide +kernel
theorem dX8_takeFromBundle_6 : decode cX8_takeFromBundle 6 = .ok (.isub, 1) := by decide +kernel
theorem dX8_takeFromBundle_7 : decode cX8_takeFromBundle 7 = .ok (.putfield 20, 3) := by decide +kernel
theorem dX8_takeFromBundle_10 : decode cX8_takeFromBundle 10 = .ok (.aload_n 0, 1) := by decide +kernel
theorem dX8_takeFromBundle_11 : decode cX8_takeFromBundle 11 = .ok (.aload_n 1, 1) := by decide +kernel
theorem dX8_takeFromBundle_12 : decode cX8_takeFromBundle 12 = .ok (.putfield 16, 3) := by decide +kernel
theorem dX8_takeFromBundle_15 : decode cX8_takeFromBundle 15 = .ok (.aload_n 0, 1) := by decide +kernel
theorem dX8_takeFromBundle_16 : decode cX8_takeFromBundle 16 = .ok (.iconst 0, 1) := by decide +kernel
theorem dX8_takeFromBundle_17 : decode cX8_takeFromBundle 17 = .ok (.putfield 13, 3) := by decide +kernel
theorem dX8_takeFromBundle_20 : decode cX8_takeFromBundle 20 = .ok (.aload_n 0, 1) := by decide +kernel
theorem dX8_takeFromBundle_21 : decode cX8_takeFromBundle 21 = .ok (.iload_n 2, 1) := by decide +kernel
theorem dX8_takeFromBundle_22 : decode cX8_takeFromBundle 22 = .ok (.putfield 7, 3) := by decide +kernel
theorem dX8_takeFromBundle_25 : decode cX8_takeFromBundle 25 = .ok (.return_, 1) := by decide +kernel
theorem dX8_takeFromMoney_0 : decode cX8_takeFromMoney 0 = .ok (.aload_n 0, 1) := by decide +kernel
theorem dX8_takeFromMoney_1 : decode cX8_takeFromMoney 1 = .ok (.aconst_null, 1) := by decide +kernel
theorem dX8_takeFromMoney_2 : decode cX8_takeFromMoney 2 = .ok (.putfield 16, 3) := by decide +kernel
theorem dX8_takeFromMoney_5 : decode cX8_takeFromMoney 5 = .ok (.aload_n 0, 1) := by decide +kernel
theorem dX8_takeFromMoney_6 : decode cX8_takeFromMoney 6 = .ok (.iload_n 2, 1) := by decide +kernel
theorem dX8_takeFromMoney_7 : decode cX8_takeFromMoney 7 = .ok (.putfield 13, 3) := by decide +kernel
theorem dX8_takeFromMoney_10 : decode cX8_takeFromMoney 10 = .ok (.aload_n 0, 1) := by decide +kernel
theorem dX8_takeFromMoney_11 : decode cX8_takeFromMoney 11 = .ok (.iload_n 1, 1) := by decide +kernel
theorem dX8_takeFromMoney_12 : decode cX8_takeFromMoney 12 = .ok (.putfield 7, 3) := by decide +kernel
theorem dX8_takeFromMoney_15 : decode cX8_takeFromMoney 15 = .ok (.return_, 1) := by decide +kernel
theorem dX8_moneyLeft_0 : decode cX8_moneyLeft 0 = .ok (.aload_n 0, 1) := by decide +kernel
theorem dX8_moneyLeft_1 : decode cX8_moneyLeft 1 = .ok (.getfield 16, 3) := by decide +kernel
theorem dX8_moneyLeft_4 : decode cX8_moneyLeft 4 = .ok (.ifnonnull 15, 3) := by decide +kernel
theorem dX8_moneyLeft_7 : decode cX8_moneyLeft 7 = .ok (.aload_n 0, 1) := by decide +kernel
theorem dX8_moneyLeft_8 : decode cX8_moneyLeft 8 = .ok (.getfield 7, 3) := by decide +kernel
theorem dX8_moneyLeft_11 : decode cX8_moneyLeft 11 = .ok (.aload_n 0, 1) := by decide +kernel
theorem dX8_moneyLeft_12 : decode cX8_moneyLeft 12 = .ok (.getfield 13, 3) := by decide +kernel
theorem dX8_moneyLeft_15 : decode cX8_moneyLeft 15 = .ok (.imul, 1) := by decide +kernel
theorem dX8_moneyLeft_16 : decode cX8_moneyLeft 16 = .ok (.goto 4, 3) := by decide +kernel
theorem dX8_moneyLeft_19 : decode cX8_moneyLeft 19 = .ok (.iconst 0, 1) := by decide +kernel
theorem dX8_moneyLeft_20 : decode cX8_moneyLeft 20 = .ok (.ireturn, 1) := by decide +kernel
theorem dX9_init_0 : decode cX9_init 0 = .ok (.aload_n 0, 1) := by decide +kernel
theorem dX9_init_1 : decode cX9_init 1 = .ok (.invokespecial 1, 3) := by decide +kernel
theorem dX9_init_4 : decode cX9_init 4 = .ok (.aload_n 0, 1) := by decide +kernel
theorem dX9_init_5 : decode cX9_init 5 = .ok (.new 7, 3) := by decide +kernel
theorem dX9_init_8 : decode cX9_init 8 = .ok (.dup, 1) := by decide +kernel
theorem dX9_init_9 : decode cX9_init 9 = .ok (.invokespecial 9, 3) := by decide +kernel
theorem dX9_init_12 : decode cX9_init 12 = .ok (.putfield 10, 3) := by decide +kernel
theorem dX9_init_15 : decode cX9_init 15 = .ok (.aload_n 0, 1) := by decide +kernel
theorem dX9_init_16 : decode cX9_init 16 = .ok (.iconst 0, 1) := by decide +kernel
theorem dX9_init_17 : decode cX9_init 17 = .ok (.putfield 16, 3) := by decide +kernel
theorem dX9_init_20 : decode cX9_init 20 = .ok (.aload_n 0, 1) := by decide +kernel
theorem dX9_init_21 : decode cX9_init 21 = .ok (.iconst 0, 1) := by decide +kernel
theorem dX9_init_22 : decode cX9_init 22 = .ok (.putfield 20, 3) := by decide +kernel
theorem dX9_init_25 : decode cX9_init 25 = .ok (.aload_n 0, 1) := by decide +kernel
theorem dX9_init_26 : decode cX9_init 26 = .ok (.iload_n 1, 1) := by decide +kernel
theorem dX9_init_27 : decode cX9_init 27 = .ok (.putfield 23, 3) := by decide +kernel
theorem dX9_init_30 : decode cX9_init 30 = .ok (.return_, 1) := by decide +kernel
theorem dX9_addInOrderOfUse_0 : decode cX9_addInOrderOfUse 0 = .ok (.aload_n 0, 1) := by decide +kernel
theorem dX9_addInOrderOfUse_1 : decode cX9_addInOrderOfUse 1 = .ok (.getfield 10, 3) := by decide +kernel
theorem dX9_addInOrderOfUse_4 : decode cX9_addInOrderOfUse 4 = .ok (.invokevirtual 26, 3) := by decide +kernel
theorem dX9_addInOrderOfUse_7 : decode cX9_addInOrderOfUse 7 = .ok (.istore_n 2, 1) := by decide +kernel
theorem dX9_addInOrderOfUse_8 : decode cX9_addInOrderOfUse 8 = .ok (.aload_n 0, 1) := by decide +kernel
theorem dX9_addInOrderOfUse_9 : decode cX9_addInOrderOfUse 9 = .ok (.getfield 10, 3) := by decide +kernel
theorem dX9_addInOrderOfUse_12 : decode cX9_addInOrderOfUse 12 = .ok (.invokevirtual 26, 3) := by decide +kernel
theorem dX9_addInOrderOfUse_15 : decode cX9_addInOrderOfUse 15 = .ok (.iconst 1, 1) := by decide +kernel
theorem dX9_addInOrderOfUse_16 : decode cX9_addInOrderOfUse 16 = .ok (.isub, 1) := by decide +kernel
theorem dX9_addInOrderOfUse_17 : decode cX9_addInOrderOfUse 17 = .ok (.istore_n 3, 1) := by decide +kernel
theorem dX9_addInOrderOfUse_18 : decode cX9_addInOrderOfUse 18 = .ok (.iload_n 3, 1) := by decide +kernel
theorem dX9_addInOrderOfUse_19 : decode cX9_addInOrderOfUse 19 = .ok (.ifCond .lt 29, 3) := by decide +kernel
theorem dX9_addInOrderOfUse_22 : decode cX9_addInOrderOfUse 22 = .ok (.aload_n 1, 1) := by decide +kernel
theorem dX9_addInOrderOfUse_23 : decode cX9_addInOrderOfUse 23 = .ok (.aload_n 0, 1) := by decide +kernel
theorem dX9_addInOrderOfUse_24 : decode cX9_addInOrderOfUse 24 = .ok (.getfield 10, 3) := by decide +kernel
theorem dX9_addInOrderOfUse_27 : decode cX9_addInOrderOfUse 27 = .ok (.iload_n 3, 1) := by decide +kernel
theorem dX9_addInOrderOfUse_28 : decode cX9_addInOrderOfUse 28 = .ok (.invokevirtual 30, 3) := by decide +kernel
theorem dX9_addInOrderOfUse_31 : decode cX9_addInOrderOfUse 31 = .ok (.checkcast 34, 3) := by decide +kernel
theorem dX9_addInOrderOfUse_34 : decode cX9_addInOrderOfUse 34 = .ok (.invokevirtual 36, 3) := by decide +kernel
theorem dX9_addInOrderOfUse_37 : decode cX9_addInOrderOfUse 37 = .ok (.ifCond .eq 11, 3) := by decide +kernel
theorem dX9_addInOrderOfUse_40 : decode cX9_addInOrderOfUse 40 = .ok (.iload_n 3, 1) := by decide +kernel
theorem dX9_addInOrderOfUse_41 : decode cX9_addInOrderOfUse 41 = .ok (.istore_n 2, 1) := by decide +kernel
theorem dX9_addInOrderOfUse_42 : decode cX9_addInOrderOfUse 42 = .ok (.iinc 3 (-1), 3) := by decide +kernel
theorem dX9_addInOrderOfUse_45 : decode cX9_addInOrderOfUse 45 = .ok (.goto (-27), 3) := by decide +kernel
theorem dX9_addInOrderOfUse_48 : decode cX9_addInOrderOfUse 48 = .ok (.aload_n 0, 1) := by decide +kernel
theorem dX9_addInOrderOfUse_49 : decode cX9_addInOrderOfUse 49 = .ok (.getfield 10, 3) := by decide +kernel
theorem dX9_addInOrderOfUse_52 : decode cX9_addInOrderOfUse 52 = .ok (.iload_n 2, 1) := by decide +kernel
theorem dX9_addInOrderOfUse_53 : decode cX9_addInOrderOfUse 53 = .ok (.aload_n 1, 1) := by decide +kernel
theorem dX9_addInOrderOfUse_54 : decode cX9_addInOrderOfUse 54 = .ok (.invokevirtual 40, 3) := by decide +kernel
theorem dX9_addInOrderOfUse_57 : decode cX9_addInOrderOfUse 57 = .ok (.return_, 1) := by decide +kernel
theorem dX9_findBundle_0 : decode cX9_findBundle 0 = .ok (.iconst 0, 1) := by decide +kernel
theorem dX9_findBundle_1 : decode cX9_findBundle 1 = .ok (.istore_n 3, 1) := by decide +kernel
theorem dX9_findBundle_2 : decode cX9_findBundle 2 = .ok (.iload_n 3, 1) := by decide +kernel
theorem dX9_findBundle_3 : decode cX9_findBundle 3 = .ok (.aload_n 0, 1) := by decide +kernel
theorem dX9_findBundle_4 : decode cX9_findBundle 4 = .ok (.getfield 10, 3) := by decide +kernel
theorem dX9_findBundle_7 : decode cX9_findBundle 7 = .ok (.invokevirtual 26, 3) := by decide +kernel
theorem dX9_findBundle_10 : decode cX9_findBundle 10 = .ok (.if_icmp .ge 51, 3) := by decide +kernel
theorem dX9_findBundle_13 : decode cX9_findBundle 13 = .ok (.aload_n 0, 1) := by decide +kernel
theorem dX9_findBundle_14 : decode cX9_findBundle 14 = .ok (.getfield 10, 3) := by decide +kernel
theorem dX9_findBundle_17 : decode cX9_findBundle 17 = .ok (.iload_n 3, 1) := by decide +kernel
theorem dX9_findBundle_18 : decode cX9_findBundle 18 = .ok (.invokevirtual 30, 3) := by decide +kernel
theorem dX9_findBundle_21 : decode cX9_findBundle 21 = .ok (.checkcast 34, 3) := by decide +kernel
theorem dX9_findBundle_24 : decode cX9_findBundle 24 = .ok (.astore 4, 2) := by decide +kernel
theorem dX9_findBundle_26 : decode cX9_findBundle 26 = .ok (.aload 4, 2) := by decide +kernel
theorem dX9_findBundle_28 : decode cX9_findBundle 28 = .ok (.aload_n 1, 1) := by decide +kernel
theorem dX9_findBundle_29 : decode cX9_findBundle 29 = .ok (.invokevirtual 44, 3) := by decide +kernel
theorem dX9_findBundle_32 : decode cX9_findBundle 32 = .ok (.ifCond .eq 23, 3) := by decide +kernel
theorem dX9_findBundle_35 : decode cX9_findBundle 35 = .ok (.aload 4, 2) := by decide +kernel
theorem dX9_findBundle_37 : decode cX9_findBundle 37 = .ok (.iload_n 2, 1) := by decide +kernel
theorem dX9_findBundle_38 : decode cX9_findBundle 38 = .ok (.invokevirtual 48, 3) := by decide +kernel
theorem dX9_findBundle_41 : decode cX9_findBundle 41 = .ok (.ifCond .ne 14, 3) := by decide +kernel
theorem dX9_findBundle_44 : decode cX9_findBundle 44 = .ok (.aload 4, 2) := by decide +kernel
theorem dX9_findBundle_46 : decode cX9_findBundle 46 = .ok (.getfield 52, 3) := by decide +kernel
theorem dX9_findBundle_49 : decode cX9_findBundle 49 = .ok (.ifCond .le 6, 3) := by decide +kernel
theorem dX9_findBundle_52 : decode cX9_findBundle 52 = .ok (.aload 4, 2) := by decide +kernel
theorem dX9_findBundle_54 : decode cX9_findBundle 54 = .ok (.areturn, 1) := by decide +kernel
theorem dX9_findBundle_55 : decode cX9_findBundle 55 = .ok (.iinc 3 1, 3) := by decide +kernel
theorem dX9_findBundle_58 : decode cX9_findBundle 58 = .ok (.goto (-56), 3) := by decide +kernel
theorem dX9_findBundle_61 : decode cX9_findBundle 61 = .ok (.aconst_null, 1) := by decide +kernel
theorem dX9_findBundle_62 : decode cX9_findBundle 62 = .ok (.areturn, 1) := by decide +kernel
theorem dX10_init_0 : decode cX10_init 0 = .ok (.aload_n 0, 1) := by decide +kernel
theorem dX10_init_1 : decode cX10_init 1 = .ok (.invokespecial 1, 3) := by decide +kernel
theorem dX10_init_4 : decode cX10_init 4 = .ok (.aload_n 0, 1) := by decide +kernel
theorem dX10_init_5 : decode cX10_init 5 = .ok (.iload_n 1, 1) := by decide +kernel
theorem dX10_init_6 : decode cX10_init 6 = .ok (.putfield 7, 3) := by decide +kernel
theorem dX10_init_9 : decode cX10_init 9 = .ok (.aload_n 0, 1) := by decide +kernel
theorem dX10_init_10 : decode cX10_init 10 = .ok (.new 13, 3) := by decide +kernel
theorem dX10_init_13 : decode cX10_init 13 = .ok (.dup, 1) := by decide +kernel
theorem dX10_init_14 : decode cX10_init 14 = .ok (.bipush 20, 2) := by decide +kernel
theorem dX10_init_16 : decode cX10_init 16 = .ok (.iload_n 1, 1) := by decide +kernel
theorem dX10_init_17 : decode cX10_init 17 = .ok (.iconst 1, 1) := by decide +kernel
theorem dX10_init_18 : decode cX10_init 18 = .ok (.iadd, 1) := by decide +kernel
theorem dX10_init_19 : decode cX10_init 19 = .ok (.imul, 1) := by decide +kernel
theorem dX10_init_20 : decode cX10_init 20 = .ok (.invokespecial 15, 3) := by decide +kernel
theorem dX10_init_23 : decode cX10_init 23 = .ok (.putfield 18, 3) := by decide +kernel
theorem dX10_init_26 : decode cX10_init 26 = .ok (.aload_n 0, 1) := by decide +kernel
theorem dX10_init_27 : decode cX10_init 27 = .ok (.new 13, 3) := by decide +kernel
theorem dX10_init_30 : decode cX10_init 30 = .ok (.dup, 1) := by decide +kernel
theorem dX10_init_31 : decode cX10_init 31 = .ok (.bipush 10, 2) := by decide +kernel
theorem dX10_init_33 : decode cX10_init 33 = .ok (.iload_n 1, 1) := by decide +kernel
theorem dX10_init_34 : decode cX10_init 34 = .ok (.iconst 1, 1) := by decide +kernel
theorem dX10_init_35 : decode cX10_init 35 = .ok (.iadd, 1) := by decide +kernel
theorem dX10_init_36 : decode cX10_init 36 = .ok (.imul, 1) := by decide +kernel
theorem dX10_init_37 : decode cX10_init 37 = .ok (.invokespecial 15, 3) := by decide +kernel
theorem dX10_init_40 : decode cX10_init 40 = .ok (.putfield 22, 3) := by decide +kernel
theorem dX10_init_43 : decode cX10_init 43 = .ok (.return_, 1) := by decide +kernel
theorem dX10_historyFor_0 : decode cX10_historyFor 0 = .ok (.iload_n 1, 1) := by decide +kernel
theorem dX10_historyFor_1 : decode cX10_historyFor 1 = .ok (.ifCond .eq 10, 3) := by decide +kernel
theorem dX10_historyFor_4 : decode cX10_historyFor 4 = .ok (.aload_n 0, 1) := by decide +kernel
theorem dX10_historyFor_5 : decode cX10_historyFor 5 = .ok (.getfield 18, 3) := by decide +kernel
theorem dX10_historyFor_8 : decode cX10_historyFor 8 = .ok (.goto 7, 3) := by decide +kernel
theorem dX10_historyFor_11 : decode cX10_historyFor 11 = .ok (.aload_n 0, 1) := by decide +kernel
theorem dX10_historyFor_12 : decode cX10_historyFor 12 = .ok (.getfield 22, 3) := by decide +kernel
theorem dX10_historyFor_15 : decode cX10_historyFor 15 = .ok (.areturn, 1) := by decide +kernel
theorem dX11_init_0 : decode cX11_init 0 = .ok (.aload_n 0, 1) := by decide +kernel
theorem dX11_init_1 : decode cX11_init 1 = .ok (.invokespecial 3, 3) := by decide +kernel
theorem dX11_init_4 : decode cX11_init 4 = .ok (.aload_n 0, 1) := by decide +kernel
theorem dX11_init_5 : decode cX11_init 5 = .ok (.iconst 3, 1) := by decide +kernel
theorem dX11_init_6 : decode cX11_init 6 = .ok (.anewarray 9, 3) := by decide +kernel
theorem dX11_init_9 : decode cX11_init 9 = .ok (.putfield 11, 3) := by decide +kernel
theorem dX11_init_12 : decode cX11_init 12 = .ok (.aload_n 0, 1) := by decide +kernel
theorem dX11_init_13 : decode cX11_init 13 = .ok (.bipush 8, 2) := by decide +kernel
theorem dX11_init_15 : decode cX11_init 15 = .ok (.anewarray 15, 3) := by decide +kernel
theorem dX11_init_18 : decode cX11_init 18 = .ok (.putfield 17, 3) := by decide +kernel
theorem dX11_init_21 : decode cX11_init 21 = .ok (.aload_n 0, 1) := by decide +kernel
theorem dX11_init_22 : decode cX11_init 22 = .ok (.iconst 4, 1) := by decide +kernel
theorem dX11_init_23 : decode cX11_init 23 = .ok (.anewarray 21, 3) := by decide +kernel
theorem dX11_init_26 : decode cX11_init 26 = .ok (.putfield 23, 3) := by decide +kernel
theorem dX11_init_29 : decode cX11_init 29 = .ok (.aload_n 0, 1) := by decide +kernel
theorem dX11_init_30 : decode cX11_init 30 = .ok (.bipush 10, 2) := by decide +kernel
theorem dX11_init_32 : decode cX11_init 32 = .ok (.anewarray 27, 3) := by decide +kernel
theorem dX11_init_35 : decode cX11_init 35 = .ok (.putfield 29, 3) := by decide +kernel
theorem dX11_init_38 : decode cX11_init 38 = .ok (.aload_n 0, 1) := by decide +kernel
theorem dX11_init_39 : decode cX11_init 39 = .ok (.new 33, 3) := by decide +kernel
theorem dX11_init_42 : decode cX11_init 42 = .ok (.dup, 1) := by decide +kernel
theorem dX11_init_43 : decode cX11_init 43 = .ok (.invokespecial 35, 3) := by decide +kernel
theorem dX11_init_46 : decode cX11_init 46 = .ok (.putfield 36, 3) := by decide +kernel
theorem dX11_init_49 : decode cX11_init 49 = .ok (.aload_n 0, 1) := by decide +kernel
theorem dX11_init_50 : decode cX11_init 50 = .ok (.new 33, 3) := by decide +kernel
theorem dX11_init_53 : decode cX11_init 53 = .ok (.dup, 1) := by decide +kernel
theorem dX11_init_54 : decode cX11_init 54 = .ok (.invokespecial 35, 3) := by decide +kernel
theorem dX11_init_57 : decode cX11_init 57 = .ok (.putfield 40, 3) := by decide +kernel
theorem dX11_init_60 : decode cX11_init 60 = .ok (.aload_n 0, 1) := by decide +kernel
theorem dX11_init_61 : decode cX11_init 61 = .ok (.new 33, 3) := by decide +kernel
theorem dX11_init_64 : decode cX11_init 64 = .ok (.dup, 1) := by decide +kernel
theorem dX11_init_65 : decode cX11_init 65 = .ok (.invokespecial 35, 3) := by decide +kernel
theorem dX11_init_68 : decode cX11_init 68 = .ok (.putfield 43, 3) := by decide +kernel
theorem dX11_init_71 : decode cX11_init 71 = .ok (.aload_n 0, 1) := by decide +kernel
theorem dX11_init_72 : decode cX11_init 72 = .ok (.bipush 20, 2) := by decide +kernel
theorem dX11_init_74 : decode cX11_init 74 = .ok (.putfield 46, 3) := by decide +kernel
theorem dX11_init_77 : decode cX11_init 77 = .ok (.aload_n 0, 1) := by decide +kernel
theorem dX11_init_78 : decode cX11_init 78 = .ok (.iconst 0, 1) := by decide +kernel
theorem dX11_init_79 : decode cX11_init 79 = .ok (.putfield 50, 3) := by decide +kernel
theorem dX11_init_82 : decode cX11_init 82 = .ok (.iconst 0, 1) := by decide +kernel
theorem dX11_init_83 : decode cX11_init 83 = .ok (.istore_n 1, 1) := by decide +kernel
theorem dX11_init_84 : decode cX11_init 84 = .ok (.iload_n 1, 1) := by decide +kernel
theorem dX11_init_85 : decode cX11_init 85 = .ok (.iconst 3, 1) := by decide +kernel
theorem dX11_init_86 : decode cX11_init 86 = .ok (.if_icmp .ge 23, 3) := by decide +kernel
theorem dX11_init_89 : decode cX11_init 89 = .ok (.aload_n 0, 1) := by decide +kernel
theorem dX11_init_90 : decode cX11_init 90 = .ok (.getfield 11, 3) := by decide +kernel
theorem dX11_init_93 : decode cX11_init 93 = .ok (.iload_n 1, 1) := by decide +kernel
theorem dX11_init_94 : decode cX11_init 94 = .ok (.new 9, 3) := by decide +kernel
theorem dX11_init_97 : decode cX11_init 97 = .ok (.dup, 1) := by decide +kernel
theorem dX11_init_98 : decode cX11_init 98 = .ok (.iload_n 1, 1) := by decide +kernel
theorem dX11_init_99 : decode cX11_init 99 = .ok (.invokespecial 53, 3) := by decide +kernel
theorem dX11_init_102 : decode cX11_init 102 = .ok (.aastore, 1) := by decide +kernel
theorem dX11_init_103 : decode cX11_init 103 = .ok (.iinc 1 1, 3) := by decide +kernel
theorem dX11_init_106 : decode cX11_init 106 = .ok (.goto (-22), 3) := by decide +kernel
theorem dX11_init_109 : decode cX11_init 109 = .ok (.iconst 0, 1) := by decide +kernel
theorem dX11_init_110 : decode cX11_init 110 = .ok (.istore_n 1, 1) := by decide +kernel
theorem dX11_init_111 : decode cX11_init 111 = .ok (.iload_n 1, 1) := by decide +kernel
theorem dX11_init_112 : decode cX11_init 112 = .ok (.bipush 8, 2) := by decide +kernel
theorem dX11_init_114 : decode cX11_init 114 = .ok (.if_icmp .ge 31, 3) := by decide +kernel
theorem dX11_init_117 : decode cX11_init 117 = .ok (.aload_n 0, 1) := by decide +kernel
theorem dX11_init_118 : decode cX11_init 118 = .ok (.getfield 17, 3) := by decide +kernel
theorem dX11_init_121 : decode cX11_init 121 = .ok (.iload_n 1, 1) := by decide +kernel
theorem dX11_init_122 : decode cX11_init 122 = .ok (.new 15, 3) := by decide +kernel
theorem dX11_init_125 : decode cX11_init 125 = .ok (.dup, 1) := by decide +kernel
theorem dX11_init_126 : decode cX11_init 126 = .ok (.iload_n 1, 1) := by decide +kernel
theorem dX11_init_127 : decode cX11_init 127 = .ok (.aload_n 0, 1) := by decide +kernel
theorem dX11_init_128 : decode cX11_init 128 = .ok (.getfield 11, 3) := by decide +kernel
theorem dX11_init_131 : decode cX11_init 131 = .ok (.iload_n 1, 1) := by decide +kernel
theorem dX11_init_132 : decode cX11_init 132 = .ok (.iconst 3, 1) := by decide +kernel
theorem dX11_init_133 : decode cX11_init 133 = .ok (.irem, 1) := by decide +kernel
theorem dX11_init_134 : decode cX11_init 134 = .ok (.aaload, 1) := by decide +kernel
theorem dX11_init_135 : decode cX11_init 135 = .ok (.invokespecial 56, 3) := by decide +kernel
theorem dX11_init_138 : decode cX11_init 138 = .ok (.aastore, 1) := by decide +kernel
theorem dX11_init_139 : decode cX11_init 139 = .ok (.iinc 1 1, 3) := by decide +kernel
theorem dX11_init_142 : decode cX11_init 142 = .ok (.goto (-31), 3) := by decide +kernel
theorem dX11_init_145 : decode cX11_init 145 = .ok (.iconst 0, 1) := by decide +kernel
theorem dX11_init_146 : decode cX11_init 146 = .ok (.istore_n 1, 1) := by decide +kernel
theorem dX11_init_147 : decode cX11_init 147 = .ok (.iload_n 1, 1) := by decide +kernel
theorem dX11_init_148 : decode cX11_init 148 = .ok (.iconst 4, 1) := by decide +kernel
theorem dX11_init_149 : decode cX11_init 149 = .ok (.if_icmp .ge 23, 3) := by decide +kernel
theorem dX11_init_152 : decode cX11_init 152 = .ok (.aload_n 0, 1) := by decide +kernel
theorem dX11_init_153 : decode cX11_init 153 = .ok (.getfield 23, 3) := by decide +kernel
theorem dX11_init_156 : decode cX11_init 156 = .ok (.iload_n 1, 1) := by decide +kernel
theorem dX11_init_157 : decode cX11_init 157 = .ok (.new 21, 3) := by decide +kernel
theorem dX11_init_160 : decode cX11_init 160 = .ok (.dup, 1) := by decide +kernel
theorem dX11_init_161 : decode cX11_init 161 = .ok (.iload_n 1, 1) := by decide +kernel
theorem dX11_init_162 : decode cX11_init 162 = .ok (.invokespecial 59, 3) := by decide +kernel
theorem dX11_init_165 : decode cX11_init 165 = .ok (.aastore, 1) := by decide +kernel
theorem dX11_init_166 : decode cX11_init 166 = .ok (.iinc 1 1, 3) := by decide +kernel
theorem dX11_init_169 : decode cX11_init 169 = .ok (.goto (-22), 3) := by decide +kernel
theorem dX11_init_172 : decode cX11_init 172 = .ok (.iconst 0, 1) := by decide +kernel
theorem dX11_init_173 : decode cX11_init 173 = .ok (.istore_n 1, 1) := by decide +kernel
theorem dX11_init_174 : decode cX11_init 174 = .ok (.iload_n 1, 1) := by decide +kernel
theorem dX11_init_175 : decode cX11_init 175 = .ok (.bipush 10, 2) := by decide +kernel
theorem dX11_init_177 : decode cX11_init 177 = .ok (.if_icmp .ge 40, 3) := by decide +kernel
theorem dX11_init_180 : decode cX11_init 180 = .ok (.aload_n 0, 1) := by decide +kernel
theorem dX11_init_181 : decode cX11_init 181 = .ok (.getfield 29, 3) := by decide +kernel
theorem dX11_init_184 : decode cX11_init 184 = .ok (.iload_n 1, 1) := by decide +kernel
theorem dX11_init_185 : decode cX11_init 185 = .ok (.new 27, 3) := by decide +kernel
theorem dX11_init_188 : decode cX11_init 188 = .ok (.dup, 1) := by decide +kernel
theorem dX11_init_189 : decode cX11_init 189 = .ok (.iload_n 1, 1) := by decide +kernel
theorem dX11_init_190 : decode cX11_init 190 = .ok (.aload_n 0, 1) := by decide +kernel
theorem dX11_init_191 : decode cX11_init 191 = .ok (.getfield 17, 3) := by decide +kernel
theorem dX11_init_194 : decode cX11_init 194 = .ok (.iload_n 1, 1) := by decide +kernel
theorem dX11_init_195 : decode cX11_init 195 = .ok (.bipush 8, 2) := by decide +kernel
theorem dX11_init_197 : decode cX11_init 197 = .ok (.irem, 1) := by decide +kernel
theorem dX11_init_198 : decode cX11_init 198 = .ok (.aaload, 1) := by decide +kernel
theorem dX11_init_199 : decode cX11_init 199 = .ok (.aload_n 0, 1) := by decide +kernel
theorem dX11_init_200 : decode cX11_init 200 = .ok (.getfield 23, 3) := by decide +kernel
theorem dX11_init_203 : decode cX11_init 203 = .ok (.iload_n 1, 1) := by decide +kernel
theorem dX11_init_204 : decode cX11_init 204 = .ok (.iconst 4, 1) := by decide +kernel
theorem dX11_init_205 : decode cX11_init 205 = .ok (.irem, 1) := by decide +kernel
theorem dX11_init_206 : decode cX11_init 206 = .ok (.aaload, 1) := by decide +kernel
theorem dX11_init_207 : decode cX11_init 207 = .ok (.invokespecial 60, 3) := by decide +kernel
theorem dX11_init_210 : decode cX11_init 210 = .ok (.aastore, 1) := by decide +kernel
theorem dX11_init_211 : decode cX11_init 211 = .ok (.iinc 1 1, 3) := by decide +kernel
theorem dX11_init_214 : decode cX11_init 214 = .ok (.goto (-40), 3) := by decide +kernel
theorem dX11_init_217 : decode cX11_init 217 = .ok (.return_, 1) := by decide +kernel
theorem dX11_setZone_0 : decode cX11_setZone 0 = .ok (.aload_n 0, 1) := by decide +kernel
theorem dX11_setZone_1 : decode cX11_setZone 1 = .ok (.iload_n 1, 1) := by decide +kernel
theorem dX11_setZone_2 : decode cX11_setZone 2 = .ok (.invokevirtual 63, 3) := by decide +kernel
theorem dX11_setZone_5 : decode cX11_setZone 5 = .ok (.astore_n 3, 1) := by decide +kernel
theorem dX11_setZone_6 : decode cX11_setZone 6 = .ok (.iload_n 2, 1) := by decide +kernel
theorem dX11_setZone_7 : decode cX11_setZone 7 = .ok (.iconst 0, 1) := by decide +kernel
theorem dX11_setZone_8 : decode cX11_setZone 8 = .ok (.iconst 2, 1) := by decide +kernel
theorem dX11_setZone_9 : decode cX11_setZone 9 = .ok (.invokestatic 67, 3) := by decide +kernel
theorem dX11_setZone_12 : decode cX11_setZone 12 = .ok (.ifCond .eq 13, 3) := by decide +kernel
theorem dX11_setZone_15 : decode cX11_setZone 15 = .ok (.new 71, 3) := by decide +kernel
theorem dX11_setZone_18 : decode cX11_setZone 18 = .ok (.dup, 1) := by decide +kernel
theorem dX11_setZone_19 : decode cX11_setZone 19 = .ok (.ldc 73, 2) := by decide +kernel
theorem dX11_setZone_21 : decode cX11_setZone 21 = .ok (.invokespecial 75, 3) := by decide +kernel
theorem dX11_setZone_24 : decode cX11_setZone 24 = .ok (.athrow, 1) := by decide +kernel
theorem dX11_setZone_25 : decode cX11_setZone 25 = .ok (.aload_n 0, 1) := by decide +kernel
theorem dX11_setZone_26 : decode cX11_setZone 26 = .ok (.getfield 40, 3) := by decide +kernel
theorem dX11_setZone_29 : decode cX11_setZone 29 = .ok (.invokevirtual 78, 3) := by decide +kernel
theorem dX11_setZone_32 : decode cX11_setZone 32 = .ok (.ifCond .ne 13, 3) := by decide +kernel
theorem dX11_setZone_35 : decode cX11_setZone 35 = .ok (.new 82, 3) := by decide +kernel
theorem dX11_setZone_38 : decode cX11_setZone 38 = .ok (.dup, 1) := by decide +kernel
theorem dX11_setZone_39 : decode cX11_setZone 39 = .ok (.ldc 84, 2) := by decide +kernel
theorem dX11_setZone_41 : decode cX11_setZone 41 = .ok (.invokespecial 86, 3) := by decide +kernel
theorem dX11_setZone_44 : decode cX11_setZone 44 = .ok (.athrow, 1) := by decide +kernel
theorem dX11_setZone_45 : decode cX11_setZone 45 = .ok (.aload_n 3, 1) := by decide +kernel
theorem dX11_setZone_46 : decode cX11_setZone 46 = .ok (.getfield 87, 3) := by decide +kernel
theorem dX11_setZone_49 : decode cX11_setZone 49 = .ok (.getfield 91, 3) := by decide +kernel
theorem dX11_setZone_52 : decode cX11_setZone 52 = .ok (.istore 4, 2) := by decide +kernel
theorem dX11_setZone_54 : decode cX11_setZone 54 = .ok (.aload_n 3, 1) := by decide +kernel
theorem dX11_setZone_55 : decode cX11_setZone 55 = .ok (.aload_n 0, 1) := by decide +kernel
theorem dX11_setZone_56 : decode cX11_setZone 56 = .ok (.getfield 11, 3) := by decide +kernel
theorem dX11_setZone_59 : decode cX11_setZone 59 = .ok (.iload_n 2, 1) := by decide +kernel
theorem dX11_setZone_60 : decode cX11_setZone 60 = .ok (.aaload, 1) := by decide +kernel
theorem dX11_setZone_61 : decode cX11_setZone 61 = .ok (.putfield 87, 3) := by decide +kernel
theorem dX11_setZone_64 : decode cX11_setZone 64 = .ok (.iload 4, 2) := by decide +kernel
theorem dX11_setZone_66 : decode cX11_setZone 66 = .ok (.ireturn, 1) := by decide +kernel
theorem dX11_setChannels_0 : decode cX11_setChannels 0 = .ok (.aload_n 0, 1) := by decide +kernel
theorem dX11_setChannels_1 : decode cX11_setChannels 1 = .ok (.iload_n 1, 1) := by decide +kernel
theorem dX11_setChannels_2 : decode cX11_setChannels 2 = .ok (.invokevirtual 63, 3) := by decide +kernel
theorem dX11_setChannels_5 : decode cX11_setChannels 5 = .ok (.astore 4, 2) := by decide +kernel
theorem dX11_setChannels_7 : decode cX11_setChannels 7 = .ok (.iload_n 2, 1) := by decide +kernel
theorem dX11_setChannels_8 : decode cX11_setChannels 8 = .ok (.iconst 0, 1) := by decide +kernel
theorem dX11_setChannels_9 : decode cX11_setChannels 9 = .ok (.bipush 10, 2) := by decide +kernel
theorem dX11_setChannels_11 : decode cX11_setChannels 11 = .ok (.invokestatic 67, 3) := by decide +kernel
theorem dX11_setChannels_14 : decode cX11_setChannels 14 = .ok (.ifCond .ne 12, 3) := by decide +kernel
theorem dX11_setChannels_17 : decode cX11_setChannels 17 = .ok (.iload_n 3, 1) := by decide +kernel
theorem dX11_setChannels_18 : decode cX11_setChannels 18 = .ok (.iconst 0, 1) := by decide +kernel
theorem dX11_setChannels_19 : decode cX11_setChannels 19 = .ok (.iload_n 2, 1) := by decide +kernel
theorem dX11_setChannels_20 : decode cX11_setChannels 20 = .ok (.invokestatic 67, 3) := by decide +kernel
theorem dX11_setChannels_23 : decode cX11_setChannels 23 = .ok (.ifCond .eq 13, 3) := by decide +kernel
theorem dX11_setChannels_26 : decode cX11_setChannels 26 = .ok (.new 71, 3) := by decide +kernel
theorem dX11_setChannels_29 : decode cX11_setChannels 29 = .ok (.dup, 1) := by decide +kernel
theorem dX11_setChannels_30 : decode cX11_setChannels 30 = .ok (.ldc 94, 2) := by decide +kernel
theorem dX11_setChannels_32 : decode cX11_setChannels 32 = .ok (.invokespecial 75, 3) := by decide +kernel
theorem dX11_setChannels_35 : decode cX11_setChannels 35 = .ok (.athrow, 1) := by decide +kernel
theorem dX11_setChannels_36 : decode cX11_setChannels 36 = .ok (.aload 4, 2) := by decide +kernel
theorem dX11_setChannels_38 : decode cX11_setChannels 38 = .ok (.iload_n 2, 1) := by decide +kernel
theorem dX11_setChannels_39 : decode cX11_setChannels 39 = .ok (.putfield 96, 3) := by decide +kernel
theorem dX11_setChannels_42 : decode cX11_setChannels 42 = .ok (.aload 4, 2) := by decide +kernel
theorem dX11_setChannels_44 : decode cX11_setChannels 44 = .ok (.iload_n 3, 1) := by decide +kernel
theorem dX11_setChannels_45 : decode cX11_setChannels 45 = .ok (.putfield 99, 3) := by decide +kernel
theorem dX11_setChannels_48 : decode cX11_setChannels 48 = .ok (.aload_n 0, 1) := by decide +kernel
theorem dX11_setChannels_49 : decode cX11_setChannels 49 = .ok (.aload 4, 2) := by decide +kernel
theorem dX11_setChannels_51 : decode cX11_setChannels 51 = .ok (.invokevirtual 102, 3) := by decide +kernel
theorem dX11_setChannels_54 : decode cX11_setChannels 54 = .ok (.ireturn, 1) := by decide +kernel
theorem dX11_setRate_0 : decode cX11_setRate 0 = .ok (.iload_n 1, 1) := by decide +kernel
theorem dX11_setRate_1 : decode cX11_setRate 1 = .ok (.iconst 0, 1) := by decide +kernel
theorem dX11_setRate_2 : decode cX11_setRate 2 = .ok (.iconst 2, 1) := by decide +kernel
theorem dX11_setRate_3 : decode cX11_setRate 3 = .ok (.invokestatic 67, 3) := by decide +kernel
theorem dX11_setRate_6 : decode cX11_setRate 6 = .ok (.ifCond .ne 14, 3) := by decide +kernel
theorem dX11_setRate_9 : decode cX11_setRate 9 = .ok (.iload_n 3, 1) := by decide +kernel
theorem dX11_setRate_10 : decode cX11_setRate 10 = .ok (.iconst 0, 1) := by decide +kernel
theorem dX11_setRate_11 : decode cX11_setRate 11 = .ok (.sipush 1000, 3) := by decide +kernel
theorem dX11_setRate_14 : decode cX11_setRate 14 = .ok (.invokestatic 67, 3) := by decide +kernel
theorem dX11_setRate_17 : decode cX11_setRate 17 = .ok (.ifCond .eq 13, 3) := by decide +kernel
theorem dX11_setRate_20 : decode cX11_setRate 20 = .ok (.new 71, 3) := by decide +kernel
theorem dX11_setRate_23 : decode cX11_setRate 23 = .ok (.dup, 1) := by decide +kernel
theorem dX11_setRate_24 : decode cX11_setRate 24 = .ok (.ldc 106, 2) := by decide +kernel
theorem dX11_setRate_26 : decode cX11_setRate 26 = .ok (.invokespecial 75, 3) := by decide +kernel
theorem dX11_setRate_29 : decode cX11_setRate 29 = .ok (.athrow, 1) := by decide +kernel
theorem dX11_setRate_30 : decode cX11_setRate 30 = .ok (.aload_n 0, 1) := by decide +kernel
theorem dX11_setRate_31 : decode cX11_setRate 31 = .ok (.getfield 11, 3) := by decide +kernel
theorem dX11_setRate_34 : decode cX11_setRate 34 = .ok (.iload_n 1, 1) := by decide +kernel
theorem dX11_setRate_35 : decode cX11_setRate 35 = .ok (.aaload, 1) := by decide +kernel
theorem dX11_setRate_36 : decode cX11_setRate 36 = .ok (.iload_n 2, 1) := by decide +kernel
theorem dX11_setRate_37 : decode cX11_setRate 37 = .ok (.invokevirtual 108, 3) := by decide +kernel
theorem dX11_setRate_40 : decode cX11_setRate 40 = .ok (.astore 4, 2) := by decide +kernel
theorem dX11_setRate_42 : decode cX11_setRate 42 = .ok (.aload 4, 2) := by decide +kernel
theorem dX11_setRate_44 : decode cX11_setRate 44 = .ok (.getfield 112, 3) := by decide +kernel
theorem dX11_setRate_47 : decode cX11_setRate 47 = .ok (.istore 5, 2) := by decide +kernel
theorem dX11_setRate_49 : decode cX11_setRate 49 = .ok (.aload 4, 2) := by decide +kernel
theorem dX11_setRate_51 : decode cX11_setRate 51 = .ok (.aload_n 0, 1) := by decide +kernel
theorem dX11_setRate_52 : decode cX11_setRate 52 = .ok (.getfield 50, 3) := by decide +kernel
theorem dX11_setRate_55 : decode cX11_setRate 55 = .ok (.iload_n 3, 1) := by decide +kernel
theorem dX11_setRate_56 : decode cX11_setRate 56 = .ok (.invokevirtual 117, 3) := by decide +kernel
theorem dX11_setRate_59 : decode cX11_setRate 59 = .ok (.iload 5, 2) := by decide +kernel
theorem dX11_setRate_61 : decode cX11_setRate 61 = .ok (.ireturn, 1) := by decide +kernel
theorem dX11_setSlice_0 : decode cX11_setSlice 0 = .ok (.iload_n 1, 1) := by decide +kernel
theorem dX11_setSlice_1 : decode cX11_setSlice 1 = .ok (.iconst 1, 1) := by decide +kernel
theorem dX11_setSlice_2 : decode cX11_setSlice 2 = .ok (.bipush 100, 2) := by decide +kernel
theorem dX11_setSlice_4 : decode cX11_setSlice 4 = .ok (.invokestatic 67, 3) := by decide +kernel
theorem dX11_setSlice_7 : decode cX11_setSlice 7 = .ok (.ifCond .eq 13, 3) := by decide +kernel
theorem dX11_setSlice_10 : decode cX11_setSlice 10 = .ok (.new 71, 3) := by decide +kernel
theorem dX11_setSlice_13 : decode cX11_setSlice 13 = .ok (.dup, 1) := by decide +kernel
theorem dX11_setSlice_14 : decode cX11_setSlice 14 = .ok (.ldc 121, 2) := by decide +kernel
theorem dX11_setSlice_16 : decode cX11_setSlice 16 = .ok (.invokespecial 75, 3) := by decide +kernel
theorem dX11_setSlice_19 : decode cX11_setSlice 19 = .ok (.athrow, 1) := by decide +kernel
theorem dX11_setSlice_20 : decode cX11_setSlice 20 = .ok (.aload_n 0, 1) := by decide +kernel
theorem dX11_setSlice_21 : decode cX11_setSlice 21 = .ok (.getfield 46, 3) := by decide +kernel
theorem dX11_setSlice_24 : decode cX11_setSlice 24 = .ok (.istore_n 2, 1) := by decide +kernel
theorem dX11_setSlice_25 : decode cX11_setSlice 25 = .ok (.aload_n 0, 1) := by decide +kernel
theorem dX11_setSlice_26 : decode cX11_setSlice 26 = .ok (.iload_n 1, 1) := by decide +kernel
theorem dX11_setSlice_27 : decode cX11_setSlice 27 = .ok (.putfield 46, 3) := by decide +kernel
theorem dX11_setSlice_30 : decode cX11_setSlice 30 = .ok (.iload_n 2, 1) := by decide +kernel
theorem dX11_setSlice_31 : decode cX11_setSlice 31 = .ok (.ireturn, 1) := by decide +kernel
theorem dX11_setCap_0 : decode cX11_setCap 0 = .ok (.aload_n 0, 1) := by decide +kernel
theorem dX11_setCap_1 : decode cX11_setCap 1 = .ok (.iload_n 1, 1) := by decide +kernel
theorem dX11_setCap_2 : decode cX11_setCap 2 = .ok (.invokevirtual 123, 3) := by decide +kernel
theorem dX11_setCap_5 : decode cX11_setCap 5 = .ok (.astore_n 3, 1) := by decide +kernel
theorem dX11_setCap_6 : decode cX11_setCap 6 = .ok (.iload_n 2, 1) := by decide +kernel
theorem dX11_setCap_7 : decode cX11_setCap 7 = .ok (.iconst (-1), 1) := by decide +kernel
theorem dX11_setCap_8 : decode cX11_setCap 8 = .ok (.if_icmp .eq 23, 3) := by decide +kernel
theorem dX11_setCap_11 : decode cX11_setCap 11 = .ok (.iload_n 2, 1) := by decide +kernel
theorem dX11_setCap_12 : decode cX11_setCap 12 = .ok (.iconst 0, 1) := by decide +kernel
theorem dX11_setCap_13 : decode cX11_setCap 13 = .ok (.ldc 127, 2) := by decide +kernel
theorem dX11_setCap_15 : decode cX11_setCap 15 = .ok (.invokestatic 67, 3) := by decide +kernel
theorem dX11_setCap_18 : decode cX11_setCap 18 = .ok (.ifCond .eq 13, 3) := by decide +kernel
theorem dX11_setCap_21 : decode cX11_setCap 21 = .ok (.new 71, 3) := by decide +kernel
theorem dX11_setCap_24 : decode cX11_setCap 24 = .ok (.dup, 1) := by decide +kernel
theorem dX11_setCap_25 : decode cX11_setCap 25 = .ok (.ldc 128, 2) := by decide +kernel
theorem dX11_setCap_27 : decode cX11_setCap 27 = .ok (.invokespecial 75, 3) := by decide +kernel
theorem dX11_setCap_30 : decode cX11_setCap 30 = .ok (.athrow, 1) := by decide +kernel
theorem dX11_setCap_31 : decode cX11_setCap 31 = .ok (.aload_n 3, 1) := by decide +kernel
theorem dX11_setCap_32 : decode cX11_setCap 32 = .ok (.getfield 130, 3) := by decide +kernel
theorem dX11_setCap_35 : decode cX11_setCap 35 = .ok (.istore 4, 2) := by decide +kernel
theorem dX11_setCap_37 : decode cX11_setCap 37 = .ok (.aload_n 3, 1) := by decide +kernel
theorem dX11_setCap_38 : decode cX11_setCap 38 = .ok (.iload_n 2, 1) := by decide +kernel
theorem dX11_setCap_39 : decode cX11_setCap 39 = .ok (.putfield 130, 3) := by decide +kernel
theorem dX11_setCap_42 : decode cX11_setCap 42 = .ok (.iload 4, 2) := by decide +kernel
theorem dX11_setCap_44 : decode cX11_setCap 44 = .ok (.ireturn, 1) := by decide +kernel
theorem dX11_setWallet_0 : decode cX11_setWallet 0 = .ok (.aload_n 0, 1) := by decide +kernel
theorem dX11_setWallet_1 : decode cX11_setWallet 1 = .ok (.iload_n 1, 1) := by decide +kernel
theorem dX11_setWallet_2 : decode cX11_setWallet 2 = .ok (.invokevirtual 123, 3) := by decide +kernel
theorem dX11_setWallet_5 : decode cX11_setWallet 5 = .ok (.astore_n 3, 1) := by decide +kernel
theorem dX11_setWallet_6 : decode cX11_setWallet 6 = .ok (.aload_n 0, 1) := by decide +kernel
theorem dX11_setWallet_7 : decode cX11_setWallet 7 = .ok (.iload_n 2, 1) := by decide +kernel
theorem dX11_setWallet_8 : decode cX11_setWallet 8 = .ok (.invokevirtual 133, 3) := by decide +kernel
theorem dX11_setWallet_11 : decode cX11_setWallet 11 = .ok (.astore 4, 2) := by decide +kernel
theorem dX11_setWallet_13 : decode cX11_setWallet 13 = .ok (.aload_n 3, 1) := by decide +kernel
theorem dX11_setWallet_14 : decode cX11_setWallet 14 = .ok (.getfield 137, 3) := by decide +kernel
theorem dX11_setWallet_17 : decode cX11_setWallet 17 = .ok (.ifnull 13, 3) := by decide +kernel
theorem dX11_setWallet_20 : decode cX11_setWallet 20 = .ok (.new 82, 3) := by decide +kernel
theorem dX11_setWallet_23 : decode cX11_setWallet 23 = .ok (.dup, 1) := by decide +kernel
theorem dX11_setWallet_24 : decode cX11_setWallet 24 = .ok (.ldc 141, 2) := by decide +kernel
theorem dX11_setWallet_26 : decode cX11_setWallet 26 = .ok (.invokespecial 86, 3) := by decide +kernel
theorem dX11_setWallet_29 : decode cX11_setWallet 29 = .ok (.athrow, 1) := by decide +kernel
theorem dX11_setWallet_30 : decode cX11_setWallet 30 = .ok (.aload_n 3, 1) := by decide +kernel
theorem dX11_setWallet_31 : decode cX11_setWallet 31 = .ok (.getfield 143, 3) := by decide +kernel
theorem dX11_setWallet_34 : decode cX11_setWallet 34 = .ok (.getfield 147, 3) := by decide +kernel
theorem dX11_setWallet_37 : decode cX11_setWallet 37 = .ok (.istore 5, 2) := by decide +kernel
theorem dX11_setWallet_39 : decode cX11_setWallet 39 = .ok (.aload_n 3, 1) := by decide +kernel
theorem dX11_setWallet_40 : decode cX11_setWallet 40 = .ok (.aload 4, 2) := by decide +kernel
theorem dX11_setWallet_42 : decode cX11_setWallet 42 = .ok (.putfield 143, 3) := by decide +kernel
theorem dX11_setWallet_45 : decode cX11_setWallet 45 = .ok (.iload 5, 2) := by decide +kernel
theorem dX11_setWallet_47 : decode cX11_setWallet 47 = .ok (.ireturn, 1) := by decide +kernel
theorem dX11_top_0 : decode cX11_top 0 = .ok (.aload_n 0, 1) := by decide +kernel
theorem dX11_top_1 : decode cX11_top 1 = .ok (.iload_n 1, 1) := by decide +kernel
theorem dX11_top_2 : decode cX11_top 2 = .ok (.invokevirtual 133, 3) := by decide +kernel
theorem dX11_top_5 : decode cX11_top 5 = .ok (.astore_n 3, 1) := by decide +kernel
theorem dX11_top_6 : decode cX11_top 6 = .ok (.iload_n 2, 1) := by decide +kernel
theorem dX11_top_7 : decode cX11_top 7 = .ok (.iconst 1, 1) := by decide +kernel
theorem dX11_top_8 : decode cX11_top 8 = .ok (.ldc 127, 2) := by decide +kernel
theorem dX11_top_10 : decode cX11_top 10 = .ok (.invokestatic 67, 3) := by decide +kernel
theorem dX11_top_13 : decode cX11_top 13 = .ok (.ifCond .eq 13, 3) := by decide +kernel
theorem dX11_top_16 : decode cX11_top 16 = .ok (.new 71, 3) := by decide +kernel
theorem dX11_top_19 : decode cX11_top 19 = .ok (.dup, 1) := by decide +kernel
theorem dX11_top_20 : decode cX11_top 20 = .ok (.ldc 148, 2) := by decide +kernel
theorem dX11_top_22 : decode cX11_top 22 = .ok (.invokespecial 75, 3) := by decide +kernel
theorem dX11_top_25 : decode cX11_top 25 = .ok (.athrow, 1) := by decide +kernel
theorem dX11_top_26 : decode cX11_top 26 = .ok (.aload_n 3, 1) := by decide +kernel
theorem dX11_top_27 : decode cX11_top 27 = .ok (.dup, 1) := by decide +kernel
theorem dX11_top_28 : decode cX11_top 28 = .ok (.getfield 150, 3) := by decide +kernel
theorem dX11_top_31 : decode cX11_top 31 = .ok (.iload_n 2, 1) := by decide +kernel
theorem dX11_top_32 : decode cX11_top 32 = .ok (.iadd, 1) := by decide +kernel
theorem dX11_top_33 : decode cX11_top 33 = .ok (.putfield 150, 3) := by decide +kernel
theorem dX11_top_36 : decode cX11_top 36 = .ok (.aload_n 3, 1) := by decide +kernel
theorem dX11_top_37 : decode cX11_top 37 = .ok (.getfield 150, 3) := by decide +kernel
theorem dX11_top_40 : decode cX11_top 40 = .ok (.ireturn, 1) := by decide +kernel
theorem dX11_give_0 : decode cX11_give 0 = .ok (.aload_n 0, 1) := by decide +kernel
theorem dX11_give_1 : decode cX11_give 1 = .ok (.iload_n 1, 1) := by decide +kernel
theorem dX11_give_2 : decode cX11_give 2 = .ok (.invokevirtual 133, 3) := by decide +kernel
theorem dX11_give_5 : decode cX11_give 5 = .ok (.astore 4, 2) := by decide +kernel
theorem dX11_give_7 : decode cX11_give 7 = .ok (.aload_n 0, 1) := by decide +kernel
theorem dX11_give_8 : decode cX11_give 8 = .ok (.iload_n 2, 1) := by decide +kernel
theorem dX11_give_9 : decode cX11_give 9 = .ok (.invokevirtual 133, 3) := by decide +kernel
theorem dX11_give_12 : decode cX11_give 12 = .ok (.astore 5, 2) := by decide +kernel
theorem dX11_give_14 : decode cX11_give 14 = .ok (.iload_n 1, 1) := by decide +kernel
theorem dX11_give_15 : decode cX11_give 15 = .ok (.iload_n 2, 1) := by decide +kernel
theorem dX11_give_16 : decode cX11_give 16 = .ok (.if_icmp .eq 13, 3) := by decide +kernel
theorem dX11_give_19 : decode cX11_give 19 = .ok (.iload_n 3, 1) := by decide +kernel
theorem dX11_give_20 : decode cX11_give 20 = .ok (.iconst 1, 1) := by decide +kernel
theorem dX11_give_21 : decode cX11_give 21 = .ok (.ldc 127, 2) := by decide +kernel
theorem dX11_give_23 : decode cX11_give 23 = .ok (.invokestatic 67, 3) := by decide +kernel
theorem dX11_give_26 : decode cX11_give 26 = .ok (.ifCond .eq 13, 3) := by decide +kernel
theorem dX11_give_29 : decode cX11_give 29 = .ok (.new 71, 3) := by decide +kernel
theorem dX11_give_32 : decode cX11_give 32 = .ok (.dup, 1) := by decide +kernel
theorem dX11_give_33 : decode cX11_give 33 = .ok (.ldc 153, 2) := by decide +kernel
theorem dX11_give_35 : decode cX11_give 35 = .ok (.invokespecial 75, 3) := by decide +kernel
theorem dX11_give_38 : decode cX11_give 38 = .ok (.athrow, 1) := by decide +kernel
theorem dX11_give_39 : decode cX11_give 39 = .ok (.aload 4, 2) := by decide +kernel
theorem dX11_give_41 : decode cX11_give 41 = .ok (.getfield 150, 3) := by decide +kernel
theorem dX11_give_44 : decode cX11_give 44 = .ok (.iload_n 3, 1) := by decide +kernel
theorem dX11_give_45 : decode cX11_give 45 = .ok (.if_icmp .ge 13, 3) := by decide +kernel
theorem dX11_give_48 : decode cX11_give 48 = .ok (.new 82, 3) := by decide +kernel
theorem dX11_give_51 : decode cX11_give 51 = .ok (.dup, 1) := by decide +kernel
theorem dX11_give_52 : decode cX11_give 52 = .ok (.ldc 155, 2) := by decide +kernel
theorem dX11_give_54 : decode cX11_give 54 = .ok (.invokespecial 86, 3) := by decide +kernel
theorem dX11_give_57 : decode cX11_give 57 = .ok (.athrow, 1) := by decide +kernel
theorem dX11_give_58 : decode cX11_give 58 = .ok (.aload 4, 2) := by decide +kernel
theorem dX11_give_60 : decode cX11_give 60 = .ok (.dup, 1) := by decide +kernel
theorem dX11_give_61 : decode cX11_give 61 = .ok (.getfield 150, 3) := by decide +kernel
theorem dX11_give_64 : decode cX11_give 64 = .ok (.iload_n 3, 1) := by decide +kernel
theorem dX11_give_65 : decode cX11_give 65 = .ok (.isub, 1) := by decide +kernel
theorem dX11_give_66 : decode cX11_give 66 = .ok (.putfield 150, 3) := by decide +kernel
theorem dX11_give_69 : decode cX11_give 69 = .ok (.aload 5, 2) := by decide +kernel
theorem dX11_give_71 : decode cX11_give 71 = .ok (.dup, 1) := by decide +kernel
theorem dX11_give_72 : decode cX11_give 72 = .ok (.getfield 150, 3) := by decide +kernel
theorem dX11_give_75 : decode cX11_give 75 = .ok (.iload_n 3, 1) := by decide +kernel
theorem dX11_give_76 : decode cX11_give 76 = .ok (.iadd, 1) := by decide +kernel
theorem dX11_give_77 : decode cX11_give 77 = .ok (.putfield 150, 3) := by decide +kernel
theorem dX11_give_80 : decode cX11_give 80 = .ok (.aload 4, 2) := by decide +kernel
theorem dX11_give_82 : decode cX11_give 82 = .ok (.getfield 150, 3) := by decide +kernel
theorem dX11_give_85 : decode cX11_give 85 = .ok (.ireturn, 1) := by decide +kernel
theorem dX11_buy_0 : decode cX11_buy 0 = .ok (.aload_n 0, 1) := by decide +kernel
theorem dX11_buy_1 : decode cX11_buy 1 = .ok (.iload_n 1, 1) := by decide +kernel
theorem dX11_buy_2 : decode cX11_buy 2 = .ok (.invokevirtual 133, 3) := by decide +kernel
theorem dX11_buy_5 : decode cX11_buy 5 = .ok (.astore 7, 2) := by decide +kernel
theorem dX11_buy_7 : decode cX11_buy 7 = .ok (.iload_n 2, 1) := by decide +kernel
theorem dX11_buy_8 : decode cX11_buy 8 = .ok (.iconst 1, 1) := by decide +kernel
theorem dX11_buy_9 : decode cX11_buy 9 = .ok (.bipush 7, 2) := by decide +kernel
theorem dX11_buy_11 : decode cX11_buy 11 = .ok (.invokestatic 67, 3) := by decide +kernel
theorem dX11_buy_14 : decode cX11_buy 14 = .ok (.ifCond .ne 47, 3) := by decide +kernel
theorem dX11_buy_17 : decode cX11_buy 17 = .ok (.iload_n 3, 1) := by decide +kernel
theorem dX11_buy_18 : decode cX11_buy 18 = .ok (.iconst 1, 1) := by decide +kernel
theorem dX11_buy_19 : decode cX11_buy 19 = .ok (.sipush 5000, 3) := by decide +kernel
theorem dX11_buy_22 : decode cX11_buy 22 = .ok (.invokestatic 67, 3) := by decide +kernel
theorem dX11_buy_25 : decode cX11_buy 25 = .ok (.ifCond .ne 36, 3) := by decide +kernel
theorem dX11_buy_28 : decode cX11_buy 28 = .ok (.iload 4, 2) := by decide +kernel
theorem dX11_buy_30 : decode cX11_buy 30 = .ok (.iconst 1, 1) := by decide +kernel
theorem dX11_buy_31 : decode cX11_buy 31 = .ok (.bipush 30, 2) := by decide +kernel
theorem dX11_buy_33 : decode cX11_buy 33 = .ok (.invokestatic 67, 3) := by decide +kernel
theorem dX11_buy_36 : decode cX11_buy 36 = .ok (.ifCond .ne 25, 3) := by decide +kernel
theorem dX11_buy_39 : decode cX11_buy 39 = .ok (.iload 5, 2) := by decide +kernel
theorem dX11_buy_41 : decode cX11_buy 41 = .ok (.iconst 0, 1) := by decide +kernel
theorem dX11_buy_42 : decode cX11_buy 42 = .ok (.bipush 9, 2) := by decide +kernel
theorem dX11_buy_44 : decode cX11_buy 44 = .ok (.invokestatic 67, 3) := by decide +kernel
theorem dX11_buy_47 : decode cX11_buy 47 = .ok (.ifCond .ne 14, 3) := by decide +kernel
theorem dX11_buy_50 : decode cX11_buy 50 = .ok (.iload 6, 2) := by decide +kernel
theorem dX11_buy_52 : decode cX11_buy 52 = .ok (.iconst 0, 1) := by decide +kernel
theorem dX11_buy_53 : decode cX11_buy 53 = .ok (.ldc 127, 2) := by decide +kernel
theorem dX11_buy_55 : decode cX11_buy 55 = .ok (.invokestatic 67, 3) := by decide +kernel
theorem dX11_buy_58 : decode cX11_buy 58 = .ok (.ifCond .eq 13, 3) := by decide +kernel
theorem dX11_buy_61 : decode cX11_buy 61 = .ok (.new 71, 3) := by decide +kernel
theorem dX11_buy_64 : decode cX11_buy 64 = .ok (.dup, 1) := by decide +kernel
theorem dX11_buy_65 : decode cX11_buy 65 = .ok (.ldc 157, 2) := by decide +kernel
theorem dX11_buy_67 : decode cX11_buy 67 = .ok (.invokespecial 75, 3) := by decide +kernel
theorem dX11_buy_70 : decode cX11_buy 70 = .ok (.athrow, 1) := by decide +kernel
theorem dX11_buy_71 : decode cX11_buy 71 = .ok (.aload 7, 2) := by decide +kernel
theorem dX11_buy_73 : decode cX11_buy 73 = .ok (.getfield 150, 3) := by decide +kernel
theorem dX11_buy_76 : decode cX11_buy 76 = .ok (.iload 6, 2) := by decide +kernel
theorem dX11_buy_78 : decode cX11_buy 78 = .ok (.if_icmp .lt 15, 3) := by decide +kernel
theorem dX11_buy_81 : decode cX11_buy 81 = .ok (.aload_n 0, 1) := by decide +kernel
theorem dX11_buy_82 : decode cX11_buy 82 = .ok (.getfield 36, 3) := by decide +kernel
theorem dX11_buy_85 : decode cX11_buy 85 = .ok (.invokevirtual 159, 3) := by decide +kernel
theorem dX11_buy_88 : decode cX11_buy 88 = .ok (.bipush 40, 2) := by decide +kernel
theorem dX11_buy_90 : decode cX11_buy 90 = .ok (.if_icmp .lt 13, 3) := by decide +kernel
theorem dX11_buy_93 : decode cX11_buy 93 = .ok (.new 82, 3) := by decide +kernel
theorem dX11_buy_96 : decode cX11_buy 96 = .ok (.dup, 1) := by decide +kernel
theorem dX11_buy_97 : decode cX11_buy 97 = .ok (.ldc 163, 2) := by decide +kernel
theorem dX11_buy_99 : decode cX11_buy 99 = .ok (.invokespecial 86, 3) := by decide +kernel
theorem dX11_buy_102 : decode cX11_buy 102 = .ok (.athrow, 1) := by decide +kernel
theorem dX11_buy_103 : decode cX11_buy 103 = .ok (.aload_n 0, 1) := by decide +kernel
theorem dX11_buy_104 : decode cX11_buy 104 = .ok (.getfield 36, 3) := by decide +kernel
theorem dX11_buy_107 : decode cX11_buy 107 = .ok (.invokevirtual 159, 3) := by decide +kernel
theorem dX11_buy_110 : decode cX11_buy 110 = .ok (.istore 8, 2) := by decide +kernel
theorem dX11_buy_112 : decode cX11_buy 112 = .ok (.aload 7, 2) := by decide +kernel
theorem dX11_buy_114 : decode cX11_buy 114 = .ok (.dup, 1) := by decide +kernel
theorem dX11_buy_115 : decode cX11_buy 115 = .ok (.getfield 150, 3) := by decide +kernel
theorem dX11_buy_118 : decode cX11_buy 118 = .ok (.iload 6, 2) := by decide +kernel
theorem dX11_buy_120 : decode cX11_buy 120 = .ok (.isub, 1) := by decide +kernel
theorem dX11_buy_121 : decode cX11_buy 121 = .ok (.putfield 150, 3) := by decide +kernel
theorem dX11_buy_124 : decode cX11_buy 124 = .ok (.new 165, 3) := by decide +kernel
theorem dX11_buy_127 : decode cX11_buy 127 = .ok (.dup, 1) := by decide +kernel
theorem dX11_buy_128 : decode cX11_buy 128 = .ok (.iload_n 2, 1) := by decide +kernel
theorem dX11_buy_129 : decode cX11_buy 129 = .ok (.iload_n 3, 1) := by decide +kernel
theorem dX11_buy_130 : decode cX11_buy 130 = .ok (.aload_n 0, 1) := by decide +kernel
theorem dX11_buy_131 : decode cX11_buy 131 = .ok (.getfield 50, 3) := by decide +kernel
theorem dX11_buy_134 : decode cX11_buy 134 = .ok (.invokestatic 167, 3) := by decide +kernel
theorem dX11_buy_137 : decode cX11_buy 137 = .ok (.iload 4, 2) := by decide +kernel
theorem dX11_buy_139 : decode cX11_buy 139 = .ok (.iadd, 1) := by decide +kernel
theorem dX11_buy_140 : decode cX11_buy 140 = .ok (.iload 5, 2) := by decide +kernel
theorem dX11_buy_142 : decode cX11_buy 142 = .ok (.invokespecial 171, 3) := by decide +kernel
theorem dX11_buy_145 : decode cX11_buy 145 = .ok (.astore 9, 2) := by decide +kernel
theorem dX11_buy_147 : decode cX11_buy 147 = .ok (.aload 7, 2) := by decide +kernel
theorem dX11_buy_149 : decode cX11_buy 149 = .ok (.aload 9, 2) := by decide +kernel
theorem dX11_buy_151 : decode cX11_buy 151 = .ok (.invokevirtual 174, 3) := by decide +kernel
theorem dX11_buy_154 : decode cX11_buy 154 = .ok (.aload_n 0, 1) := by decide +kernel
theorem dX11_buy_155 : decode cX11_buy 155 = .ok (.getfield 36, 3) := by decide +kernel
theorem dX11_buy_158 : decode cX11_buy 158 = .ok (.aload 9, 2) := by decide +kernel
theorem dX11_buy_160 : decode cX11_buy 160 = .ok (.invokevirtual 178, 3) := by decide +kernel
theorem dX11_buy_163 : decode cX11_buy 163 = .ok (.pop, 1) := by decide +kernel
theorem dX11_buy_164 : decode cX11_buy 164 = .ok (.iload 8, 2) := by decide +kernel
theorem dX11_buy_166 : decode cX11_buy 166 = .ok (.ireturn, 1) := by decide +kernel
theorem dX11_free_0 : decode cX11_free 0 = .ok (.aload_n 0, 1) := by decide +kernel
theorem dX11_free_1 : decode cX11_free 1 = .ok (.iload_n 1, 1) := by decide +kernel
theorem dX11_free_2 : decode cX11_free 2 = .ok (.invokevirtual 133, 3) := by decide +kernel
theorem dX11_free_5 : decode cX11_free 5 = .ok (.getfield 150, 3) := by decide +kernel
theorem dX11_free_8 : decode cX11_free 8 = .ok (.ireturn, 1) := by decide +kernel
theorem dX11_aside_0 : decode cX11_aside 0 = .ok (.aload_n 0, 1) := by decide +kernel
theorem dX11_aside_1 : decode cX11_aside 1 = .ok (.iload_n 1, 1) := by decide +kernel
theorem dX11_aside_2 : decode cX11_aside 2 = .ok (.invokevirtual 133, 3) := by decide +kernel
theorem dX11_aside_5 : decode cX11_aside 5 = .ok (.astore_n 2, 1) := by decide +kernel
theorem dX11_aside_6 : decode cX11_aside 6 = .ok (.iconst 0, 1) := by decide +kernel
theorem dX11_aside_7 : decode cX11_aside 7 = .ok (.istore_n 3, 1) := by decide +kernel
theorem dX11_aside_8 : decode cX11_aside 8 = .ok (.aload_n 0, 1) := by decide +kernel
theorem dX11_aside_9 : decode cX11_aside 9 = .ok (.getfield 29, 3) := by decide +kernel
theorem dX11_aside_12 : decode cX11_aside 12 = .ok (.astore 4, 2) := by decide +kernel
theorem dX11_aside_14 : decode cX11_aside 14 = .ok (.aload 4, 2) := by decide +kernel
theorem dX11_aside_16 : decode cX11_aside 16 = .ok (.arraylength, 1) := by decide +kernel
theorem dX11_aside_17 : decode cX11_aside 17 = .ok (.istore 5, 2) := by decide +kernel
theorem dX11_aside_19 : decode cX11_aside 19 = .ok (.iconst 0, 1) := by decide +kernel
theorem dX11_aside_20 : decode cX11_aside 20 = .ok (.istore 6, 2) := by decide +kernel
theorem dX11_aside_22 : decode cX11_aside 22 = .ok (.iload 6, 2) := by decide +kernel
theorem dX11_aside_24 : decode cX11_aside 24 = .ok (.iload 5, 2) := by decide +kernel
theorem dX11_aside_26 : decode cX11_aside 26 = .ok (.if_icmp .ge 50, 3) := by decide +kernel
theorem dX11_aside_29 : decode cX11_aside 29 = .ok (.aload 4, 2) := by decide +kernel
theorem dX11_aside_31 : decode cX11_aside 31 = .ok (.iload 6, 2) := by decide +kernel
theorem dX11_aside_33 : decode cX11_aside 33 = .ok (.aaload, 1) := by decide +kernel
theorem dX11_aside_34 : decode cX11_aside 34 = .ok (.astore 7, 2) := by decide +kernel
theorem dX11_aside_36 : decode cX11_aside 36 = .ok (.aload 7, 2) := by decide +kernel
theorem dX11_aside_38 : decode cX11_aside 38 = .ok (.getfield 137, 3) := by decide +kernel
theorem dX11_aside_41 : decode cX11_aside 41 = .ok (.ifnull 29, 3) := by decide +kernel
theorem dX11_aside_44 : decode cX11_aside 44 = .ok (.aload 7, 2) := by decide +kernel
theorem dX11_aside_46 : decode cX11_aside 46 = .ok (.getfield 137, 3) := by decide +kernel
theorem dX11_aside_49 : decode cX11_aside 49 = .ok (.getfield 182, 3) := by decide +kernel
theorem dX11_aside_52 : decode cX11_aside 52 = .ok (.aload_n 2, 1) := by decide +kernel
theorem dX11_aside_53 : decode cX11_aside 53 = .ok (.if_acmp .ne 17, 3) := by decide +kernel
theorem dX11_aside_56 : decode cX11_aside 56 = .ok (.iload_n 3, 1) := by decide +kernel
theorem dX11_aside_57 : decode cX11_aside 57 = .ok (.aload 7, 2) := by decide +kernel
theorem dX11_aside_59 : decode cX11_aside 59 = .ok (.getfield 137, 3) := by decide +kernel
theorem dX11_aside_62 : decode cX11_aside 62 = .ok (.getfield 187, 3) := by decide +kernel
theorem dX11_aside_65 : decode cX11_aside 65 = .ok (.invokevirtual 191, 3) := by decide +kernel
theorem dX11_aside_68 : decode cX11_aside 68 = .ok (.iadd, 1) := by decide +kernel
theorem dX11_aside_69 : decode cX11_aside 69 = .ok (.istore_n 3, 1) := by decide +kernel
theorem dX11_aside_70 : decode cX11_aside 70 = .ok (.iinc 6 1, 3) := by decide +kernel
theorem dX11_aside_73 : decode cX11_aside 73 = .ok (.goto (-51), 3) := by decide +kernel
theorem dX11_aside_76 : decode cX11_aside 76 = .ok (.iload_n 3, 1) := by decide +kernel
theorem dX11_aside_77 : decode cX11_aside 77 = .ok (.ireturn, 1) := by decide +kernel
theorem dX11_spent_0 : decode cX11_spent 0 = .ok (.aload_n 0, 1) := by decide +kernel
theorem dX11_spent_1 : decode cX11_spent 1 = .ok (.iload_n 1, 1) := by decide +kernel
theorem dX11_spent_2 : decode cX11_spent 2 = .ok (.invokevirtual 133, 3) := by decide +kernel
theorem dX11_spent_5 : decode cX11_spent 5 = .ok (.getfield 196, 3) := by decide +kernel
theorem dX11_spent_8 : decode cX11_spent 8 = .ok (.ireturn, 1) := by decide +kernel
theorem dX11_left_0 : decode cX11_left 0 = .ok (.iload_n 1, 1) := by decide +kernel
theorem dX11_left_1 : decode cX11_left 1 = .ok (.ifCond .lt 14, 3) := by decide +kernel
theorem dX11_left_4 : decode cX11_left 4 = .ok (.iload_n 1, 1) := by decide +kernel
theorem dX11_left_5 : decode cX11_left 5 = .ok (.aload_n 0, 1) := by decide +kernel
theorem dX11_left_6 : decode cX11_left 6 = .ok (.getfield 36, 3) := by decide +kernel
theorem dX11_left_9 : decode cX11_left 9 = .ok (.invokevirtual 159, 3) := by decide +kernel
theorem dX11_left_12 : decode cX11_left 12 = .ok (.if_icmp .lt 13, 3) := by decide +kernel
theorem dX11_left_15 : decode cX11_left 15 = .ok (.new 199, 3) := by decide +kernel
theorem dX11_left_18 : decode cX11_left 18 = .ok (.dup, 1) := by decide +kernel
theorem dX11_left_19 : decode cX11_left 19 = .ok (.ldc 201, 2) := by decide +kernel
theorem dX11_left_21 : decode cX11_left 21 = .ok (.invokespecial 203, 3) := by decide +kernel
theorem dX11_left_24 : decode cX11_left 24 = .ok (.athrow, 1) := by decide +kernel
theorem dX11_left_25 : decode cX11_left 25 = .ok (.aload_n 0, 1) := by decide +kernel
theorem dX11_left_26 : decode cX11_left 26 = .ok (.getfield 36, 3) := by decide +kernel
theorem dX11_left_29 : decode cX11_left 29 = .ok (.iload_n 1, 1) := by decide +kernel
theorem dX11_left_30 : decode cX11_left 30 = .ok (.invokevirtual 204, 3) := by decide +kernel
theorem dX11_left_33 : decode cX11_left 33 = .ok (.checkcast 165, 3) := by decide +kernel
theorem dX11_left_36 : decode cX11_left 36 = .ok (.astore_n 2, 1) := by decide +kernel
theorem dX11_left_37 : decode cX11_left 37 = .ok (.aload_n 2, 1) := by decide +kernel
theorem dX11_left_38 : decode cX11_left 38 = .ok (.aload_n 0, 1) := by decide +kernel
theorem dX11_left_39 : decode cX11_left 39 = .ok (.getfield 50, 3) := by decide +kernel
theorem dX11_left_42 : decode cX11_left 42 = .ok (.invokestatic 167, 3) := by decide +kernel
theorem dX11_left_45 : decode cX11_left 45 = .ok (.invokevirtual 208, 3) := by decide +kernel
theorem dX11_left_48 : decode cX11_left 48 = .ok (.ifCond .eq 7, 3) := by decide +kernel
theorem dX11_left_51 : decode cX11_left 51 = .ok (.iconst 0, 1) := by decide +kernel
theorem dX11_left_52 : decode cX11_left 52 = .ok (.goto 7, 3) := by decide +kernel
theorem dX11_left_55 : decode cX11_left 55 = .ok (.aload_n 2, 1) := by decide +kernel
theorem dX11_left_56 : decode cX11_left 56 = .ok (.getfield 212, 3) := by decide +kernel
theorem dX11_left_59 : decode cX11_left 59 = .ok (.ireturn, 1) := by decide +kernel
theorem dX11_begin_0 : decode cX11_begin 0 = .ok (.aload_n 0, 1) := by decide +kernel
theorem dX11_begin_1 : decode cX11_begin 1 = .ok (.iload_n 1, 1) := by decide +kernel
theorem dX11_begin_2 : decode cX11_begin 2 = .ok (.invokevirtual 123, 3) := by decide +kernel
theorem dX11_begin_5 : decode cX11_begin 5 = .ok (.astore 4, 2) := by decide +kernel
theorem dX11_begin_7 : decode cX11_begin 7 = .ok (.aload_n 0, 1) := by decide +kernel
theorem dX11_begin_8 : decode cX11_begin 8 = .ok (.iload_n 2, 1) := by decide +kernel
theorem dX11_begin_9 : decode cX11_begin 9 = .ok (.invokevirtual 123, 3) := by decide +kernel
theorem dX11_begin_12 : decode cX11_begin 12 = .ok (.astore 5, 2) := by decide +kernel
theorem dX11_begin_14 : decode cX11_begin 14 = .ok (.iload_n 1, 1) := by decide +kernel
theorem dX11_begin_15 : decode cX11_begin 15 = .ok (.iload_n 2, 1) := by decide +kernel
theorem dX11_begin_16 : decode cX11_begin 16 = .ok (.if_icmp .ne 13, 3) := by decide +kernel
theorem dX11_begin_19 : decode cX11_begin 19 = .ok (.new 71, 3) := by decide +kernel
theorem dX11_begin_22 : decode cX11_begin 22 = .ok (.dup, 1) := by decide +kernel
theorem dX11_begin_23 : decode cX11_begin 23 = .ok (.ldc 215, 2) := by decide +kernel
theorem dX11_begin_25 : decode cX11_begin 25 = .ok (.invokespecial 75, 3) := by decide +kernel
theorem dX11_begin_28 : decode cX11_begin 28 = .ok (.athrow, 1) := by decide +kernel
theorem dX11_begin_29 : decode cX11_begin 29 = .ok (.aload 4, 2) := by decide +kernel
theorem dX11_begin_31 : decode cX11_begin 31 = .ok (.getfield 137, 3) := by decide +kernel
theorem dX11_begin_34 : decode cX11_begin 34 = .ok (.ifnonnull 11, 3) := by decide +kernel
theorem dX11_begin_37 : decode cX11_begin 37 = .ok (.aload 5, 2) := by decide +kernel
theorem dX11_begin_39 : decode cX11_begin 39 = .ok (.getfield 137, 3) := by decide +kernel
theorem dX11_begin_42 : decode cX11_begin 42 = .ok (.ifnull 13, 3) := by decide +kernel
theorem dX11_begin_45 : decode cX11_begin 45 = .ok (.new 82, 3) := by decide +kernel
theorem dX11_begin_48 : decode cX11_begin 48 = .ok (.dup, 1) := by decide +kernel
theorem dX11_begin_49 : decode cX11_begin 49 = .ok (.ldc 217, 2) := by decide +kernel
theorem dX11_begin_51 : decode cX11_begin 51 = .ok (.invokespecial 86, 3) := by decide +kernel
theorem dX11_begin_54 : decode cX11_begin 54 = .ok (.athrow, 1) := by decide +kernel
theorem dX11_begin_55 : decode cX11_begin 55 = .ok (.aload 4, 2) := by decide +kernel
theorem dX11_begin_57 : decode cX11_begin 57 = .ok (.getfield 219, 3) := by decide +kernel
theorem dX11_begin_60 : decode cX11_begin 60 = .ok (.aload 5, 2) := by decide +kernel
theorem dX11_begin_62 : decode cX11_begin 62 = .ok (.getfield 219, 3) := by decide +kernel
theorem dX11_begin_65 : decode cX11_begin 65 = .ok (.if_acmp .ne 7, 3) := by decide +kernel
theorem dX11_begin_68 : decode cX11_begin 68 = .ok (.iconst 2, 1) := by decide +kernel
theorem dX11_begin_69 : decode cX11_begin 69 = .ok (.goto 4, 3) := by decide +kernel
theorem dX11_begin_72 : decode cX11_begin 72 = .ok (.iconst 1, 1) := by decide +kernel
theorem dX11_begin_73 : decode cX11_begin 73 = .ok (.istore 6, 2) := by decide +kernel
theorem dX11_begin_75 : decode cX11_begin 75 = .ok (.aload_n 0, 1) := by decide +kernel
theorem dX11_begin_76 : decode cX11_begin 76 = .ok (.aload 4, 2) := by decide +kernel
theorem dX11_begin_78 : decode cX11_begin 78 = .ok (.getfield 219, 3) := by decide +kernel
theorem dX11_begin_81 : decode cX11_begin 81 = .ok (.invokevirtual 223, 3) := by decide +kernel
theorem dX11_begin_84 : decode cX11_begin 84 = .ok (.iload 6, 2) := by decide +kernel
theorem dX11_begin_86 : decode cX11_begin 86 = .ok (.if_icmp .lt 17, 3) := by decide +kernel
theorem dX11_begin_89 : decode cX11_begin 89 = .ok (.aload_n 0, 1) := by decide +kernel
theorem dX11_begin_90 : decode cX11_begin 90 = .ok (.aload 5, 2) := by decide +kernel
theorem dX11_begin_92 : decode cX11_begin 92 = .ok (.getfield 219, 3) := by decide +kernel
theorem dX11_begin_95 : decode cX11_begin 95 = .ok (.invokevirtual 223, 3) := by decide +kernel
theorem dX11_begin_98 : decode cX11_begin 98 = .ok (.iload 6, 2) := by decide +kernel
theorem dX11_begin_100 : decode cX11_begin 100 = .ok (.if_icmp .ge 13, 3) := by decide +kernel
theorem dX11_begin_103 : decode cX11_begin 103 = .ok (.new 82, 3) := by decide +kernel
theorem dX11_begin_106 : decode cX11_begin 106 = .ok (.dup, 1) := by decide +kernel
theorem dX11_begin_107 : decode cX11_begin 107 = .ok (.ldc 226, 2) := by decide +kernel
theorem dX11_begin_109 : decode cX11_begin 109 = .ok (.invokespecial 86, 3) := by decide +kernel
theorem dX11_begin_112 : decode cX11_begin 112 = .ok (.athrow, 1) := by decide +kernel
theorem dX11_begin_113 : decode cX11_begin 113 = .ok (.aload_n 0, 1) := by decide +kernel
theorem dX11_begin_114 : decode cX11_begin 114 = .ok (.getfield 40, 3) := by decide +kernel
theorem dX11_begin_117 : decode cX11_begin 117 = .ok (.invokevirtual 159, 3) := by decide +kernel
theorem dX11_begin_120 : decode cX11_begin 120 = .ok (.bipush 40, 2) := by decide +kernel
theorem dX11_begin_122 : decode cX11_begin 122 = .ok (.if_icmp .ge 17, 3) := by decide +kernel
theorem dX11_begin_125 : decode cX11_begin 125 = .ok (.aload_n 0, 1) := by decide +kernel
theorem dX11_begin_126 : decode cX11_begin 126 = .ok (.getfield 43, 3) := by decide +kernel
theorem dX11_begin_129 : decode cX11_begin 129 = .ok (.invokevirtual 159, 3) := by decide +kernel
theorem dX11_begin_132 : decode cX11_begin 132 = .ok (.iconst 2, 1) := by decide +kernel
theorem dX11_begin_133 : decode cX11_begin 133 = .ok (.iadd, 1) := by decide +kernel
theorem dX11_begin_134 : decode cX11_begin 134 = .ok (.bipush 80, 2) := by decide +kernel
theorem dX11_begin_136 : decode cX11_begin 136 = .ok (.if_icmp .le 13, 3) := by decide +kernel
theorem dX11_begin_139 : decode cX11_begin 139 = .ok (.new 82, 3) := by decide +kernel
theorem dX11_begin_142 : decode cX11_begin 142 = .ok (.dup, 1) := by decide +kernel
theorem dX11_begin_143 : decode cX11_begin 143 = .ok (.ldc 228, 2) := by decide +kernel
theorem dX11_begin_145 : decode cX11_begin 145 = .ok (.invokespecial 86, 3) := by decide +kernel
theorem dX11_begin_148 : decode cX11_begin 148 = .ok (.athrow, 1) := by decide +kernel
theorem dX11_begin_149 : decode cX11_begin 149 = .ok (.new 230, 3) := by decide +kernel
theorem dX11_begin_152 : decode cX11_begin 152 = .ok (.dup, 1) := by decide +kernel
theorem dX11_begin_153 : decode cX11_begin 153 = .ok (.aload_n 0, 1) := by decide +kernel
theorem dX11_begin_154 : decode cX11_begin 154 = .ok (.getfield 40, 3) := by decide +kernel
theorem dX11_begin_157 : decode cX11_begin 157 = .ok (.invokevirtual 159, 3) := by decide +kernel
theorem dX11_begin_160 : decode cX11_begin 160 = .ok (.aload 4, 2) := by decide +kernel
theorem dX11_begin_162 : decode cX11_begin 162 = .ok (.invokespecial 232, 3) := by decide +kernel
theorem dX11_begin_165 : decode cX11_begin 165 = .ok (.astore 7, 2) := by decide +kernel
theorem dX11_begin_167 : decode cX11_begin 167 = .ok (.aload_n 0, 1) := by decide +kernel
theorem dX11_begin_168 : decode cX11_begin 168 = .ok (.getfield 40, 3) := by decide +kernel
theorem dX11_begin_171 : decode cX11_begin 171 = .ok (.aload 7, 2) := by decide +kernel
theorem dX11_begin_173 : decode cX11_begin 173 = .ok (.invokevirtual 178, 3) := by decide +kernel
theorem dX11_begin_176 : decode cX11_begin 176 = .ok (.pop, 1) := by decide +kernel
theorem dX11_begin_177 : decode cX11_begin 177 = .ok (.aload_n 0, 1) := by decide +kernel
theorem dX11_begin_178 : decode cX11_begin 178 = .ok (.aload 4, 2) := by decide +kernel
theorem dX11_begin_180 : decode cX11_begin 180 = .ok (.aload 7, 2) := by decide +kernel
theorem dX11_begin_182 : decode cX11_begin 182 = .ok (.iconst 0, 1) := by decide +kernel
theorem dX11_begin_183 : decode cX11_begin 183 = .ok (.invokevirtual 235, 3) := by decide +kernel
theorem dX11_begin_186 : decode cX11_begin 186 = .ok (.astore 8, 2) := by decide +kernel
theorem dX11_begin_188 : decode cX11_begin 188 = .ok (.aload_n 0, 1) := by decide +kernel
theorem dX11_begin_189 : decode cX11_begin 189 = .ok (.aload 5, 2) := by decide +kernel
theorem dX11_begin_191 : decode cX11_begin 191 = .ok (.aload 7, 2) := by decide +kernel
theorem dX11_begin_193 : decode cX11_begin 193 = .ok (.iload_n 3, 1) := by decide +kernel
theorem dX11_begin_194 : decode cX11_begin 194 = .ok (.invokevirtual 235, 3) := by decide +kernel
theorem dX11_begin_197 : decode cX11_begin 197 = .ok (.astore 9, 2) := by decide +kernel
theorem dX11_begin_199 : decode cX11_begin 199 = .ok (.aload_n 0, 1) := by decide +kernel
theorem dX11_begin_200 : decode cX11_begin 200 = .ok (.aload 8, 2) := by decide +kernel
theorem dX11_begin_202 : decode cX11_begin 202 = .ok (.invokevirtual 239, 3) := by decide +kernel
theorem dX11_begin_205 : decode cX11_begin 205 = .ok (.aload 9, 2) := by decide +kernel
theorem dX11_begin_207 : decode cX11_begin 207 = .ok (.getfield 243, 3) := by decide +kernel
theorem dX11_begin_210 : decode cX11_begin 210 = .ok (.ifCond .ne 9, 3) := by decide +kernel
theorem dX11_begin_213 : decode cX11_begin 213 = .ok (.aload_n 0, 1) := by decide +kernel
theorem dX11_begin_214 : decode cX11_begin 214 = .ok (.aload 9, 2) := by decide +kernel
theorem dX11_begin_216 : decode cX11_begin 216 = .ok (.invokevirtual 239, 3) := by decide +kernel
theorem dX11_begin_219 : decode cX11_begin 219 = .ok (.aload 7, 2) := by decide +kernel
theorem dX11_begin_221 : decode cX11_begin 221 = .ok (.getfield 246, 3) := by decide +kernel
theorem dX11_begin_224 : decode cX11_begin 224 = .ok (.ireturn, 1) := by decide +kernel
theorem dX11_join_0 : decode cX11_join 0 = .ok (.aload_n 0, 1) := by decide +kernel
theorem dX11_join_1 : decode cX11_join 1 = .ok (.iload_n 1, 1) := by decide +kernel
theorem dX11_join_2 : decode cX11_join 2 = .ok (.invokevirtual 123, 3) := by decide +kernel
theorem dX11_join_5 : decode cX11_join 5 = .ok (.astore 4, 2) := by decide +kernel
theorem dX11_join_7 : decode cX11_join 7 = .ok (.aload_n 0, 1) := by decide +kernel
theorem dX11_join_8 : decode cX11_join 8 = .ok (.iload_n 2, 1) := by decide +kernel
theorem dX11_join_9 : decode cX11_join 9 = .ok (.invokevirtual 247, 3) := by decide +kernel
theorem dX11_join_12 : decode cX11_join 12 = .ok (.astore 5, 2) := by decide +kernel
theorem dX11_join_14 : decode cX11_join 14 = .ok (.aload 5, 2) := by decide +kernel
theorem dX11_join_16 : decode cX11_join 16 = .ok (.invokevirtual 251, 3) := by decide +kernel
theorem dX11_join_19 : decode cX11_join 19 = .ok (.istore 6, 2) := by decide +kernel
theorem dX11_join_21 : decode cX11_join 21 = .ok (.aload 4, 2) := by decide +kernel
theorem dX11_join_23 : decode cX11_join 23 = .ok (.getfield 137, 3) := by decide +kernel
theorem dX11_join_26 : decode cX11_join 26 = .ok (.ifnonnull 14, 3) := by decide +kernel
theorem dX11_join_29 : decode cX11_join 29 = .ok (.iload 6, 2) := by decide +kernel
theorem dX11_join_31 : decode cX11_join 31 = .ok (.ifCond .eq 9, 3) := by decide +kernel
theorem dX11_join_34 : decode cX11_join 34 = .ok (.iload 6, 2) := by decide +kernel
theorem dX11_join_36 : decode cX11_join 36 = .ok (.iconst 4, 1) := by decide +kernel
theorem dX11_join_37 : decode cX11_join 37 = .ok (.if_icmp .lt 13, 3) := by decide +kernel
theorem dX11_join_40 : decode cX11_join 40 = .ok (.new 82, 3) := by decide +kernel
theorem dX11_join_43 : decode cX11_join 43 = .ok (.dup, 1) := by decide +kernel
theorem dX11_join_44 : decode cX11_join 44 = .ok (.ldc 254, 2) := by decide +kernel
theorem dX11_join_46 : decode cX11_join 46 = .ok (.invokespecial 86, 3) := by decide +kernel
theorem dX11_join_49 : decode cX11_join 49 = .ok (.athrow, 1) := by decide +kernel
theorem dX11_join_50 : decode cX11_join 50 = .ok (.aload_n 0, 1) := by decide +kernel
theorem dX11_join_51 : decode cX11_join 51 = .ok (.aload 4, 2) := by decide +kernel
theorem dX11_join_53 : decode cX11_join 53 = .ok (.getfield 219, 3) := by decide +kernel
theorem dX11_join_56 : decode cX11_join 56 = .ok (.invokevirtual 223, 3) := by decide +kernel
theorem dX11_join_59 : decode cX11_join 59 = .ok (.iconst 1, 1) := by decide +kernel
theorem dX11_join_60 : decode cX11_join 60 = .ok (.if_icmp .lt 15, 3) := by decide +kernel
theorem dX11_join_63 : decode cX11_join 63 = .ok (.aload_n 0, 1) := by decide +kernel
theorem dX11_join_64 : decode cX11_join 64 = .ok (.getfield 43, 3) := by decide +kernel
theorem dX11_join_67 : decode cX11_join 67 = .ok (.invokevirtual 159, 3) := by decide +kernel
theorem dX11_join_70 : decode cX11_join 70 = .ok (.bipush 80, 2) := by decide +kernel
theorem dX11_join_72 : decode cX11_join 72 = .ok (.if_icmp .lt 14, 3) := by decide +kernel
theorem dX11_join_75 : decode cX11_join 75 = .ok (.new 82, 3) := by decide +kernel
theorem dX11_join_78 : decode cX11_join 78 = .ok (.dup, 1) := by decide +kernel
theorem dX11_join_79 : decode cX11_join 79 = .ok (.ldc_w 256, 3) := by decide +kernel
theorem dX11_join_82 : decode cX11_join 82 = .ok (.invokespecial 86, 3) := by decide +kernel
theorem dX11_join_85 : decode cX11_join 85 = .ok (.athrow, 1) := by decide +kernel
theorem dX11_join_86 : decode cX11_join 86 = .ok (.aload_n 0, 1) := by decide +kernel
theorem dX11_join_87 : decode cX11_join 87 = .ok (.aload 4, 2) := by decide +kernel
theorem dX11_join_89 : decode cX11_join 89 = .ok (.aload 5, 2) := by decide +kernel
theorem dX11_join_91 : decode cX11_join 91 = .ok (.iload_n 3, 1) := by decide +kernel
theorem dX11_join_92 : decode cX11_join 92 = .ok (.invokevirtual 235, 3) := by decide +kernel
theorem dX11_join_95 : decode cX11_join 95 = .ok (.astore 7, 2) := by decide +kernel
theorem dX11_join_97 : decode cX11_join 97 = .ok (.aload_n 0, 1) := by decide +kernel
theorem dX11_join_98 : decode cX11_join 98 = .ok (.aload 7, 2) := by decide +kernel
theorem dX11_join_100 : decode cX11_join 100 = .ok (.invokevirtual 239, 3) := by decide +kernel
theorem dX11_join_103 : decode cX11_join 103 = .ok (.aload 7, 2) := by decide +kernel
theorem dX11_join_105 : decode cX11_join 105 = .ok (.getfield 258, 3) := by decide +kernel
theorem dX11_join_108 : decode cX11_join 108 = .ok (.ireturn, 1) := by decide +kernel
theorem dX11_leave_0 : decode cX11_leave 0 = .ok (.aload_n 0, 1) := by decide +kernel
theorem dX11_leave_1 : decode cX11_leave 1 = .ok (.iload_n 1, 1) := by decide +kernel
theorem dX11_leave_2 : decode cX11_leave 2 = .ok (.invokevirtual 123, 3) := by decide +kernel
theorem dX11_leave_5 : decode cX11_leave 5 = .ok (.getfield 137, 3) := by decide +kernel
theorem dX11_leave_8 : decode cX11_leave 8 = .ok (.astore_n 2, 1) := by decide +kernel
theorem dX11_leave_9 : decode cX11_leave 9 = .ok (.aload_n 2, 1) := by decide +kernel
theorem dX11_leave_10 : decode cX11_leave 10 = .ok (.ifnonnull 14, 3) := by decide +kernel
theorem dX11_leave_13 : decode cX11_leave 13 = .ok (.new 82, 3) := by decide +kernel
theorem dX11_leave_16 : decode cX11_leave 16 = .ok (.dup, 1) := by decide +kernel
theorem dX11_leave_17 : decode cX11_leave 17 = .ok (.ldc_w 259, 3) := by decide +kernel
theorem dX11_leave_20 : decode cX11_leave 20 = .ok (.invokespecial 86, 3) := by decide +kernel
theorem dX11_leave_23 : decode cX11_leave 23 = .ok (.athrow, 1) := by decide +kernel
theorem dX11_leave_24 : decode cX11_leave 24 = .ok (.aload_n 0, 1) := by decide +kernel
theorem dX11_leave_25 : decode cX11_leave 25 = .ok (.aload_n 2, 1) := by decide +kernel
theorem dX11_leave_26 : decode cX11_leave 26 = .ok (.iconst 1, 1) := by decide +kernel
theorem dX11_leave_27 : decode cX11_leave 27 = .ok (.invokevirtual 261, 3) := by decide +kernel
theorem dX11_leave_30 : decode cX11_leave 30 = .ok (.aload_n 2, 1) := by decide +kernel
theorem dX11_leave_31 : decode cX11_leave 31 = .ok (.getfield 265, 3) := by decide +kernel
theorem dX11_leave_34 : decode cX11_leave 34 = .ok (.invokevirtual 251, 3) := by decide +kernel
theorem dX11_leave_37 : decode cX11_leave 37 = .ok (.ireturn, 1) := by decide +kernel
theorem dX11_move_0 : decode cX11_move 0 = .ok (.aload_n 0, 1) := by decide +kernel
theorem dX11_move_1 : decode cX11_move 1 = .ok (.iload_n 1, 1) := by decide +kernel
theorem dX11_move_2 : decode cX11_move 2 = .ok (.invokevirtual 123, 3) := by decide +kernel
theorem dX11_move_5 : decode cX11_move 5 = .ok (.astore_n 3, 1) := by decide +kernel
theorem dX11_move_6 : decode cX11_move 6 = .ok (.aload_n 0, 1) := by decide +kernel
theorem dX11_move_7 : decode cX11_move 7 = .ok (.iload_n 2, 1) := by decide +kernel
theorem dX11_move_8 : decode cX11_move 8 = .ok (.invokevirtual 63, 3) := by decide +kernel
theorem dX11_move_11 : decode cX11_move 11 = .ok (.astore 4, 2) := by decide +kernel
theorem dX11_move_13 : decode cX11_move 13 = .ok (.aload_n 3, 1) := by decide +kernel
theorem dX11_move_14 : decode cX11_move 14 = .ok (.getfield 137, 3) := by decide +kernel
theorem dX11_move_17 : decode cX11_move 17 = .ok (.astore 5, 2) := by decide +kernel
theorem dX11_move_19 : decode cX11_move 19 = .ok (.aload 4, 2) := by decide +kernel
theorem dX11_move_21 : decode cX11_move 21 = .ok (.aload_n 3, 1) := by decide +kernel
theorem dX11_move_22 : decode cX11_move 22 = .ok (.getfield 219, 3) := by decide +kernel
theorem dX11_move_25 : decode cX11_move 25 = .ok (.if_acmp .ne 14, 3) := by decide +kernel
theorem dX11_move_28 : decode cX11_move 28 = .ok (.aload 5, 2) := by decide +kernel
theorem dX11_move_30 : decode cX11_move 30 = .ok (.ifnull 7, 3) := by decide +kernel
theorem dX11_move_33 : decode cX11_move 33 = .ok (.iconst 1, 1) := by decide +kernel
theorem dX11_move_34 : decode cX11_move 34 = .ok (.goto 4, 3) := by decide +kernel
theorem dX11_move_37 : decode cX11_move 37 = .ok (.iconst 0, 1) := by decide +kernel
theorem dX11_move_38 : decode cX11_move 38 = .ok (.ireturn, 1) := by decide +kernel
theorem dX11_move_39 : decode cX11_move 39 = .ok (.aload 5, 2) := by decide +kernel
theorem dX11_move_41 : decode cX11_move 41 = .ok (.ifnull 51, 3) := by decide +kernel
theorem dX11_move_44 : decode cX11_move 44 = .ok (.aload_n 3, 1) := by decide +kernel
theorem dX11_move_45 : decode cX11_move 45 = .ok (.getfield 219, 3) := by decide +kernel
theorem dX11_move_48 : decode cX11_move 48 = .ok (.aload 4, 2) := by decide +kernel
theorem dX11_move_50 : decode cX11_move 50 = .ok (.invokevirtual 269, 3) := by decide +kernel
theorem dX11_move_53 : decode cX11_move 53 = .ok (.ifCond .eq 32, 3) := by decide +kernel
theorem dX11_move_56 : decode cX11_move 56 = .ok (.aload_n 0, 1) := by decide +kernel
theorem dX11_move_57 : decode cX11_move 57 = .ok (.aload 4, 2) := by decide +kernel
theorem dX11_move_59 : decode cX11_move 59 = .ok (.invokevirtual 102, 3) := by decide +kernel
theorem dX11_move_62 : decode cX11_move 62 = .ok (.aload 4, 2) := by decide +kernel
theorem dX11_move_64 : decode cX11_move 64 = .ok (.getfield 96, 3) := by decide +kernel
theorem dX11_move_67 : decode cX11_move 67 = .ok (.if_icmp .ge 18, 3) := by decide +kernel
theorem dX11_move_70 : decode cX11_move 70 = .ok (.aload 5, 2) := by decide +kernel
theorem dX11_move_72 : decode cX11_move 72 = .ok (.iconst 1, 1) := by decide +kernel
theorem dX11_move_73 : decode cX11_move 73 = .ok (.aload_n 0, 1) := by decide +kernel
theorem dX11_move_74 : decode cX11_move 74 = .ok (.getfield 50, 3) := by decide +kernel
theorem dX11_move_77 : decode cX11_move 77 = .ok (.aload 4, 2) := by decide +kernel
theorem dX11_move_79 : decode cX11_move 79 = .ok (.invokevirtual 273, 3) := by decide +kernel
theorem dX11_move_82 : decode cX11_move 82 = .ok (.goto 10, 3) := by decide +kernel
theorem dX11_move_85 : decode cX11_move 85 = .ok (.aload_n 0, 1) := by decide +kernel
theorem dX11_move_86 : decode cX11_move 86 = .ok (.aload 5, 2) := by decide +kernel
theorem dX11_move_88 : decode cX11_move 88 = .ok (.iconst 3, 1) := by decide +kernel
theorem dX11_move_89 : decode cX11_move 89 = .ok (.invokevirtual 261, 3) := by decide +kernel
theorem dX11_move_92 : decode cX11_move 92 = .ok (.aload_n 3, 1) := by decide +kernel
theorem dX11_move_93 : decode cX11_move 93 = .ok (.aload 4, 2) := by decide +kernel
theorem dX11_move_95 : decode cX11_move 95 = .ok (.putfield 219, 3) := by decide +kernel
theorem dX11_move_98 : decode cX11_move 98 = .ok (.aload_n 3, 1) := by decide +kernel
theorem dX11_move_99 : decode cX11_move 99 = .ok (.getfield 137, 3) := by decide +kernel
theorem dX11_move_102 : decode cX11_move 102 = .ok (.ifnull 7, 3) := by decide +kernel
theorem dX11_move_105 : decode cX11_move 105 = .ok (.iconst 1, 1) := by decide +kernel
theorem dX11_move_106 : decode cX11_move 106 = .ok (.goto 4, 3) := by decide +kernel
theorem dX11_move_109 : decode cX11_move 109 = .ok (.iconst 0, 1) := by decide +kernel
theorem dX11_move_110 : decode cX11_move 110 = .ok (.ireturn, 1) := by decide +kernel
theorem dX11_pass_0 : decode cX11_pass 0 = .ok (.iload_n 1, 1) := by decide +kernel
theorem dX11_pass_1 : decode cX11_pass 1 = .ok (.iconst 1, 1) := by decide +kernel
theorem dX11_pass_2 : decode cX11_pass 2 = .ok (.sipush 500, 3) := by decide +kernel
theorem dX11_pass_5 : decode cX11_pass 5 = .ok (.invokestatic 67, 3) := by decide +kernel
theorem dX11_pass_8 : decode cX11_pass 8 = .ok (.ifCond .eq 13, 3) := by decide +kernel
theorem dX11_pass_11 : decode cX11_pass 11 = .ok (.new 71, 3) := by decide +kernel
theorem dX11_pass_14 : decode cX11_pass 14 = .ok (.dup, 1) := by decide +kernel
theorem dX11_pass_15 : decode cX11_pass 15 = .ok (.ldc 121, 2) := by decide +kernel
theorem dX11_pass_17 : decode cX11_pass 17 = .ok (.invokespecial 75, 3) := by decide +kernel
theorem dX11_pass_20 : decode cX11_pass 20 = .ok (.athrow, 1) := by decide +kernel
theorem dX11_pass_21 : decode cX11_pass 21 = .ok (.aload_n 0, 1) := by decide +kernel
theorem dX11_pass_22 : decode cX11_pass 22 = .ok (.getfield 50, 3) := by decide +kernel
theorem dX11_pass_25 : decode cX11_pass 25 = .ok (.iload_n 1, 1) := by decide +kernel
theorem dX11_pass_26 : decode cX11_pass 26 = .ok (.iadd, 1) := by decide +kernel
theorem dX11_pass_27 : decode cX11_pass 27 = .ok (.ldc_w 277, 3) := by decide +kernel
theorem dX11_pass_30 : decode cX11_pass 30 = .ok (.if_icmp .le 14, 3) := by decide +kernel
theorem dX11_pass_33 : decode cX11_pass 33 = .ok (.new 82, 3) := by decide +kernel
theorem dX11_pass_36 : decode cX11_pass 36 = .ok (.dup, 1) := by decide +kernel
theorem dX11_pass_37 : decode cX11_pass 37 = .ok (.ldc_w 278, 3) := by decide +kernel
theorem dX11_pass_40 : decode cX11_pass 40 = .ok (.invokespecial 86, 3) := by decide +kernel
theorem dX11_pass_43 : decode cX11_pass 43 = .ok (.athrow, 1) := by decide +kernel
theorem dX11_pass_44 : decode cX11_pass 44 = .ok (.iconst 0, 1) := by decide +kernel
theorem dX11_pass_45 : decode cX11_pass 45 = .ok (.istore_n 2, 1) := by decide +kernel
theorem dX11_pass_46 : decode cX11_pass 46 = .ok (.iconst 0, 1) := by decide +kernel
theorem dX11_pass_47 : decode cX11_pass 47 = .ok (.istore_n 3, 1) := by decide +kernel
theorem dX11_pass_48 : decode cX11_pass 48 = .ok (.iload_n 3, 1) := by decide +kernel
theorem dX11_pass_49 : decode cX11_pass 49 = .ok (.iload_n 1, 1) := by decide +kernel
theorem dX11_pass_50 : decode cX11_pass 50 = .ok (.if_icmp .ge 16, 3) := by decide +kernel
theorem dX11_pass_53 : decode cX11_pass 53 = .ok (.iload_n 2, 1) := by decide +kernel
theorem dX11_pass_54 : decode cX11_pass 54 = .ok (.aload_n 0, 1) := by decide +kernel
theorem dX11_pass_55 : decode cX11_pass 55 = .ok (.invokevirtual 280, 3) := by decide +kernel
theorem dX11_pass_58 : decode cX11_pass 58 = .ok (.iadd, 1) := by decide +kernel
theorem dX11_pass_59 : decode cX11_pass 59 = .ok (.istore_n 2, 1) := by decide +kernel
theorem dX11_pass_60 : decode cX11_pass 60 = .ok (.iinc 3 1, 3) := by decide +kernel
theorem dX11_pass_63 : decode cX11_pass 63 = .ok (.goto (-15), 3) := by decide +kernel
theorem dX11_pass_66 : decode cX11_pass 66 = .ok (.iload_n 2, 1) := by decide +kernel
theorem dX11_pass_67 : decode cX11_pass 67 = .ok (.ireturn, 1) := by decide +kernel
theorem dX11_now_0 : decode cX11_now 0 = .ok (.aload_n 0, 1) := by decide +kernel
theorem dX11_now_1 : decode cX11_now 1 = .ok (.getfield 50, 3) := by decide +kernel
theorem dX11_now_4 : decode cX11_now 4 = .ok (.ireturn, 1) := by decide +kernel
theorem dX11_cellOf_0 : decode cX11_cellOf 0 = .ok (.aload_n 0, 1) := by decide +kernel
theorem dX11_cellOf_1 : decode cX11_cellOf 1 = .ok (.iload_n 1, 1) := by decide +kernel
theorem dX11_cellOf_2 : decode cX11_cellOf 2 = .ok (.invokevirtual 123, 3) := by decide +kernel
theorem dX11_cellOf_5 : decode cX11_cellOf 5 = .ok (.getfield 219, 3) := by decide +kernel
theorem dX11_cellOf_8 : decode cX11_cellOf 8 = .ok (.getfield 283, 3) := by decide +kernel
theorem dX11_cellOf_11 : decode cX11_cellOf 11 = .ok (.ireturn, 1) := by decide +kernel
theorem dX11_legOf_0 : decode cX11_legOf 0 = .ok (.aload_n 0, 1) := by decide +kernel
theorem dX11_legOf_1 : decode cX11_legOf 1 = .ok (.iload_n 1, 1) := by decide +kernel
theorem dX11_legOf_2 : decode cX11_legOf 2 = .ok (.invokevirtual 123, 3) := by decide +kernel
theorem dX11_legOf_5 : decode cX11_legOf 5 = .ok (.getfield 137, 3) := by decide +kernel
theorem dX11_legOf_8 : decode cX11_legOf 8 = .ok (.astore_n 2, 1) := by decide +kernel
theorem dX11_legOf_9 : decode cX11_legOf 9 = .ok (.aload_n 2, 1) := by decide +kernel
theorem dX11_legOf_10 : decode cX11_legOf 10 = .ok (.ifnonnull 7, 3) := by decide +kernel
theorem dX11_legOf_13 : decode cX11_legOf 13 = .ok (.iconst (-1), 1) := by decide +kernel
theorem dX11_legOf_14 : decode cX11_legOf 14 = .ok (.goto 7, 3) := by decide +kernel
theorem dX11_legOf_17 : decode cX11_legOf 17 = .ok (.aload_n 2, 1) := by decide +kernel
theorem dX11_legOf_18 : decode cX11_legOf 18 = .ok (.getfield 258, 3) := by decide +kernel
theorem dX11_legOf_21 : decode cX11_legOf 21 = .ok (.ireturn, 1) := by decide +kernel
theorem dX11_sliceOf_0 : decode cX11_sliceOf 0 = .ok (.aload_n 0, 1) := by decide +kernel
theorem dX11_sliceOf_1 : decode cX11_sliceOf 1 = .ok (.iload_n 1, 1) := by decide +kernel
theorem dX11_sliceOf_2 : decode cX11_sliceOf 2 = .ok (.invokevirtual 123, 3) := by decide +kernel
theorem dX11_sliceOf_5 : decode cX11_sliceOf 5 = .ok (.getfield 137, 3) := by decide +kernel
theorem dX11_sliceOf_8 : decode cX11_sliceOf 8 = .ok (.astore_n 2, 1) := by decide +kernel
theorem dX11_sliceOf_9 : decode cX11_sliceOf 9 = .ok (.aload_n 2, 1) := by decide +kernel
theorem dX11_sliceOf_10 : decode cX11_sliceOf 10 = .ok (.ifnonnull 7, 3) := by decide +kernel
theorem dX11_sliceOf_13 : decode cX11_sliceOf 13 = .ok (.iconst 0, 1) := by decide +kernel
theorem dX11_sliceOf_14 : decode cX11_sliceOf 14 = .ok (.goto 10, 3) := by decide +kernel
theorem dX11_sliceOf_17 : decode cX11_sliceOf 17 = .ok (.aload_n 2, 1) := by decide +kernel
theorem dX11_sliceOf_18 : decode cX11_sliceOf 18 = .ok (.getfield 187, 3) := by decide +kernel
theorem dX11_sliceOf_21 : decode cX11_sliceOf 21 = .ok (.getfield 288, 3) := by decide +kernel
theorem dX11_sliceOf_24 : decode cX11_sliceOf 24 = .ok (.ireturn, 1) := by decide +kernel
theorem dX11_parties_0 : decode cX11_parties 0 = .ok (.aload_n 0, 1) := by decide +kernel
theorem dX11_parties_1 : decode cX11_parties 1 = .ok (.iload_n 1, 1) := by decide +kernel
theorem dX11_parties_2 : decode cX11_parties 2 = .ok (.invokevirtual 247, 3) := by decide +kernel
theorem dX11_parties_5 : decode cX11_parties 5 = .ok (.invokevirtual 251, 3) := by decide +kernel
theorem dX11_parties_8 : decode cX11_parties 8 = .ok (.ireturn, 1) := by decide +kernel
theorem dX11_legs_0 : decode cX11_legs 0 = .ok (.aload_n 0, 1) := by decide +kernel
theorem dX11_legs_1 : decode cX11_legs 1 = .ok (.getfield 43, 3) := by decide +kernel
theorem dX11_legs_4 : decode cX11_legs 4 = .ok (.invokevirtual 159, 3) := by decide +kernel
theorem dX11_legs_7 : decode cX11_legs 7 = .ok (.ireturn, 1) := by decide +kernel
theorem dX11_stateOf_0 : decode cX11_stateOf 0 = .ok (.aload_n 0, 1) := by decide +kernel
theorem dX11_stateOf_1 : decode cX11_stateOf 1 = .ok (.iload_n 1, 1) := by decide +kernel
theorem dX11_stateOf_2 : decode cX11_stateOf 2 = .ok (.invokevirtual 289, 3) := by decide +kernel
theorem dX11_stateOf_5 : decode cX11_stateOf 5 = .ok (.getfield 243, 3) := by decide +kernel
theorem dX11_stateOf_8 : decode cX11_stateOf 8 = .ok (.ireturn, 1) := by decide +kernel
theorem dX11_seconds_0 : decode cX11_seconds 0 = .ok (.aload_n 0, 1) := by decide +kernel
theorem dX11_seconds_1 : decode cX11_seconds 1 = .ok (.iload_n 1, 1) := by decide +kernel
theorem dX11_seconds_2 : decode cX11_seconds 2 = .ok (.invokevirtual 289, 3) := by decide +kernel
theorem dX11_seconds_5 : decode cX11_seconds 5 = .ok (.getfield 293, 3) := by decide +kernel
theorem dX11_seconds_8 : decode cX11_seconds 8 = .ok (.ireturn, 1) := by decide +kernel
theorem dX11_charged_0 : decode cX11_charged 0 = .ok (.aload_n 0, 1) := by decide +kernel
theorem dX11_charged_1 : decode cX11_charged 1 = .ok (.iload_n 1, 1) := by decide +kernel
theorem dX11_charged_2 : decode cX11_charged 2 = .ok (.invokevirtual 289, 3) := by decide +kernel
theorem dX11_charged_5 : decode cX11_charged 5 = .ok (.getfield 296, 3) := by decide +kernel
theorem dX11_charged_8 : decode cX11_charged 8 = .ok (.ireturn, 1) := by decide +kernel
theorem dX11_covered_0 : decode cX11_covered 0 = .ok (.aload_n 0, 1) := by decide +kernel
theorem dX11_covered_1 : decode cX11_covered 1 = .ok (.iload_n 1, 1) := by decide +kernel
theorem dX11_covered_2 : decode cX11_covered 2 = .ok (.invokevirtual 289, 3) := by decide +kernel
theorem dX11_covered_5 : decode cX11_covered 5 = .ok (.getfield 299, 3) := by decide +kernel
theorem dX11_covered_8 : decode cX11_covered 8 = .ok (.ireturn, 1) := by decide +kernel
theorem dX11_ratedByEvents_0 : decode cX11_ratedByEvents 0 = .ok (.aload_n 0, 1) := by decide +kernel
theorem dX11_ratedByEvents_1 : decode cX11_ratedByEvents 1 = .ok (.iload_n 1, 1) := by decide +kernel
theorem dX11_ratedByEvents_2 : decode cX11_ratedByEvents 2 = .ok (.invokevirtual 289, 3) := by decide +kernel
theorem dX11_ratedByEvents_5 : decode cX11_ratedByEvents 5 = .ok (.getfield 302, 3) := by decide +kernel
theorem dX11_ratedByEvents_8 : decode cX11_ratedByEvents 8 = .ok (.astore_n 2, 1) := by decide +kernel
theorem dX11_ratedByEvents_9 : decode cX11_ratedByEvents 9 = .ok (.iconst 0, 1) := by decide +kernel
theorem dX11_ratedByEvents_10 : decode cX11_ratedByEvents 10 = .ok (.istore_n 3, 1) := by decide +kernel
theorem dX11_ratedByEvents_11 : decode cX11_ratedByEvents 11 = .ok (.iconst 0, 1) := by decide +kernel
theorem dX11_ratedByEvents_12 : decode cX11_ratedByEvents 12 = .ok (.istore 4, 2) := by decide +kernel
theorem dX11_ratedByEvents_14 : decode cX11_ratedByEvents 14 = .ok (.iload 4, 2) := by decide +kernel
theorem dX11_ratedByEvents_16 : decode cX11_ratedByEvents 16 = .ok (.aload_n 2, 1) := by decide +kernel
theorem dX11_ratedByEvents_17 : decode cX11_ratedByEvents 17 = .ok (.invokevirtual 159, 3) := by decide +kernel
theorem dX11_ratedByEvents_20 : decode cX11_ratedByEvents 20 = .ok (.if_icmp .ge 84, 3) := by decide +kernel
theorem dX11_ratedByEvents_23 : decode cX11_ratedByEvents 23 = .ok (.aload_n 2, 1) := by decide +kernel
theorem dX11_ratedByEvents_24 : decode cX11_ratedByEvents 24 = .ok (.iload 4, 2) := by decide +kernel
theorem dX11_ratedByEvents_26 : decode cX11_ratedByEvents 26 = .ok (.invokevirtual 204, 3) := by decide +kernel
theorem dX11_ratedByEvents_29 : decode cX11_ratedByEvents 29 = .ok (.checkcast 305, 3) := by decide +kernel
theorem dX11_ratedByEvents_32 : decode cX11_ratedByEvents 32 = .ok (.astore 5, 2) := by decide +kernel
theorem dX11_ratedByEvents_34 : decode cX11_ratedByEvents 34 = .ok (.aload 5, 2) := by decide +kernel
theorem dX11_ratedByEvents_36 : decode cX11_ratedByEvents 36 = .ok (.getfield 307, 3) := by decide +kernel
theorem dX11_ratedByEvents_39 : decode cX11_ratedByEvents 39 = .ok (.iconst 2, 1) := by decide +kernel
theorem dX11_ratedByEvents_40 : decode cX11_ratedByEvents 40 = .ok (.if_icmp .eq 58, 3) := by decide +kernel
theorem dX11_ratedByEvents_43 : decode cX11_ratedByEvents 43 = .ok (.iload 4, 2) := by decide +kernel
theorem dX11_ratedByEvents_45 : decode cX11_ratedByEvents 45 = .ok (.iconst 1, 1) := by decide +kernel
theorem dX11_ratedByEvents_46 : decode cX11_ratedByEvents 46 = .ok (.iadd, 1) := by decide +kernel
theorem dX11_ratedByEvents_47 : decode cX11_ratedByEvents 47 = .ok (.aload_n 2, 1) := by decide +kernel
theorem dX11_ratedByEvents_48 : decode cX11_ratedByEvents 48 = .ok (.invokevirtual 159, 3) := by decide +kernel
theorem dX11_ratedByEvents_51 : decode cX11_ratedByEvents 51 = .ok (.if_icmp .ge 20, 3) := by decide +kernel
theorem dX11_ratedByEvents_54 : decode cX11_ratedByEvents 54 = .ok (.aload_n 2, 1) := by decide +kernel
theorem dX11_ratedByEvents_55 : decode cX11_ratedByEvents 55 = .ok (.iload 4, 2) := by decide +kernel
theorem dX11_ratedByEvents_57 : decode cX11_ratedByEvents 57 = .ok (.iconst 1, 1) := by decide +kernel
theorem dX11_ratedByEvents_58 : decode cX11_ratedByEvents 58 = .ok (.iadd, 1) := by decide +kernel
theorem dX11_ratedByEvents_59 : decode cX11_ratedByEvents 59 = .ok (.invokevirtual 204, 3) := by decide +kernel
theorem dX11_ratedByEvents_62 : decode cX11_ratedByEvents 62 = .ok (.checkcast 305, 3) := by decide +kernel
theorem dX11_ratedByEvents_65 : decode cX11_ratedByEvents 65 = .ok (.getfield 310, 3) := by decide +kernel
theorem dX11_ratedByEvents_68 : decode cX11_ratedByEvents 68 = .ok (.goto 7, 3) := by decide +kernel
theorem dX11_ratedByEvents_71 : decode cX11_ratedByEvents 71 = .ok (.aload_n 0, 1) := by decide +kernel
theorem dX11_ratedByEvents_72 : decode cX11_ratedByEvents 72 = .ok (.getfield 50, 3) := by decide +kernel
theorem dX11_ratedByEvents_75 : decode cX11_ratedByEvents 75 = .ok (.istore 6, 2) := by decide +kernel
theorem dX11_ratedByEvents_77 : decode cX11_ratedByEvents 77 = .ok (.iload_n 3, 1) := by decide +kernel
theorem dX11_ratedByEvents_78 : decode cX11_ratedByEvents 78 = .ok (.aload 5, 2) := by decide +kernel
theorem dX11_ratedByEvents_80 : decode cX11_ratedByEvents 80 = .ok (.getfield 311, 3) := by decide +kernel
theorem dX11_ratedByEvents_83 : decode cX11_ratedByEvents 83 = .ok (.getfield 87, 3) := by decide +kernel
theorem dX11_ratedByEvents_86 : decode cX11_ratedByEvents 86 = .ok (.aload 5, 2) := by decide +kernel
theorem dX11_ratedByEvents_88 : decode cX11_ratedByEvents 88 = .ok (.getfield 310, 3) := by decide +kernel
theorem dX11_ratedByEvents_91 : decode cX11_ratedByEvents 91 = .ok (.iload 6, 2) := by decide +kernel
theorem dX11_ratedByEvents_93 : decode cX11_ratedByEvents 93 = .ok (.invokestatic 312, 3) := by decide +kernel
theorem dX11_ratedByEvents_96 : decode cX11_ratedByEvents 96 = .ok (.iadd, 1) := by decide +kernel
theorem dX11_ratedByEvents_97 : decode cX11_ratedByEvents 97 = .ok (.istore_n 3, 1) := by decide +kernel
theorem dX11_ratedByEvents_98 : decode cX11_ratedByEvents 98 = .ok (.iinc 4 1, 3) := by decide +kernel
theorem dX11_ratedByEvents_101 : decode cX11_ratedByEvents 101 = .ok (.goto (-87), 3) := by decide +kernel
theorem dX11_ratedByEvents_104 : decode cX11_ratedByEvents 104 = .ok (.iload_n 3, 1) := by decide +kernel
theorem dX11_ratedByEvents_105 : decode cX11_ratedByEvents 105 = .ok (.ireturn, 1) := by decide +kernel
theorem dX11_tag_0 : decode cX11_tag 0 = .ok (.aload_n 0, 1) := by decide +kernel
theorem dX11_tag_1 : decode cX11_tag 1 = .ok (.iload_n 1, 1) := by decide +kernel
theorem dX11_tag_2 : decode cX11_tag 2 = .ok (.invokevirtual 289, 3) := by decide +kernel
theorem dX11_tag_5 : decode cX11_tag 5 = .ok (.getfield 316, 3) := by decide +kernel
theorem dX11_tag_8 : decode cX11_tag 8 = .ok (.ireturn, 1) := by decide +kernel
theorem dX11_seal_0 : decode cX11_seal 0 = .ok (.aload_n 0, 1) := by decide +kernel
theorem dX11_seal_1 : decode cX11_seal 1 = .ok (.iload_n 1, 1) := by decide +kernel
theorem dX11_seal_2 : decode cX11_seal 2 = .ok (.invokevirtual 289, 3) := by decide +kernel
theorem dX11_seal_5 : decode cX11_seal 5 = .ok (.invokevirtual 320, 3) := by decide +kernel
theorem dX11_seal_8 : decode cX11_seal 8 = .ok (.ireturn, 1) := by decide +kernel
theorem dX11_stamp_0 : decode cX11_stamp 0 = .ok (.aload_n 0, 1) := by decide +kernel
theorem dX11_stamp_1 : decode cX11_stamp 1 = .ok (.iload_n 1, 1) := by decide +kernel
theorem dX11_stamp_2 : decode cX11_stamp 2 = .ok (.invokevirtual 247, 3) := by decide +kernel
theorem dX11_stamp_5 : decode cX11_stamp 5 = .ok (.astore_n 2, 1) := by decide +kernel
theorem dX11_stamp_6 : decode cX11_stamp 6 = .ok (.aload_n 2, 1) := by decide +kernel
theorem dX11_stamp_7 : decode cX11_stamp 7 = .ok (.getfield 246, 3) := by decide +kernel
theorem dX11_stamp_10 : decode cX11_stamp 10 = .ok (.iconst 1, 1) := by decide +kernel
theorem dX11_stamp_11 : decode cX11_stamp 11 = .ok (.iadd, 1) := by decide +kernel
theorem dX11_stamp_12 : decode cX11_stamp 12 = .ok (.i2l, 1) := by decide +kernel
theorem dX11_stamp_13 : decode cX11_stamp 13 = .ok (.lstore_n 3, 1) := by decide +kernel
theorem dX11_stamp_14 : decode cX11_stamp 14 = .ok (.iconst 0, 1) := by decide +kernel
theorem dX11_stamp_15 : decode cX11_stamp 15 = .ok (.istore 5, 2) := by decide +kernel
theorem dX11_stamp_17 : decode cX11_stamp 17 = .ok (.iload 5, 2) := by decide +kernel
theorem dX11_stamp_19 : decode cX11_stamp 19 = .ok (.aload_n 2, 1) := by decide +kernel
theorem dX11_stamp_20 : decode cX11_stamp 20 = .ok (.getfield 323, 3) := by decide +kernel
theorem dX11_stamp_23 : decode cX11_stamp 23 = .ok (.invokevirtual 159, 3) := by decide +kernel
theorem dX11_stamp_26 : decode cX11_stamp 26 = .ok (.if_icmp .ge 38, 3) := by decide +kernel
theorem dX11_stamp_29 : decode cX11_stamp 29 = .ok (.lload_n 3, 1) := by decide +kernel
theorem dX11_stamp_30 : decode cX11_stamp 30 = .ok (.bipush 7, 2) := by decide +kernel
theorem dX11_stamp_32 : decode cX11_stamp 32 = .ok (.lshl, 1) := by decide +kernel
theorem dX11_stamp_33 : decode cX11_stamp 33 = .ok (.lload_n 3, 1) := by decide +kernel
theorem dX11_stamp_34 : decode cX11_stamp 34 = .ok (.bipush 57, 2) := by decide +kernel
theorem dX11_stamp_36 : decode cX11_stamp 36 = .ok (.lushr, 1) := by decide +kernel
theorem dX11_stamp_37 : decode cX11_stamp 37 = .ok (.lor, 1) := by decide +kernel
theorem dX11_stamp_38 : decode cX11_stamp 38 = .ok (.lstore_n 3, 1) := by decide +kernel
theorem dX11_stamp_39 : decode cX11_stamp 39 = .ok (.lload_n 3, 1) := by decide +kernel
theorem dX11_stamp_40 : decode cX11_stamp 40 = .ok (.aload_n 2, 1) := by decide +kernel
theorem dX11_stamp_41 : decode cX11_stamp 41 = .ok (.getfield 323, 3) := by decide +kernel
theorem dX11_stamp_44 : decode cX11_stamp 44 = .ok (.iload 5, 2) := by decide +kernel
theorem dX11_stamp_46 : decode cX11_stamp 46 = .ok (.invokevirtual 204, 3) := by decide +kernel
theorem dX11_stamp_49 : decode cX11_stamp 49 = .ok (.checkcast 183, 3) := by decide +kernel
theorem dX11_stamp_52 : decode cX11_stamp 52 = .ok (.invokevirtual 320, 3) := by decide +kernel
theorem dX11_stamp_55 : decode cX11_stamp 55 = .ok (.i2l, 1) := by decide +kernel
theorem dX11_stamp_56 : decode cX11_stamp 56 = .ok (.ladd, 1) := by decide +kernel
theorem dX11_stamp_57 : decode cX11_stamp 57 = .ok (.lstore_n 3, 1) := by decide +kernel
theorem dX11_stamp_58 : decode cX11_stamp 58 = .ok (.iinc 5 1, 3) := by decide +kernel
theorem dX11_stamp_61 : decode cX11_stamp 61 = .ok (.goto (-44), 3) := by decide +kernel
theorem dX11_stamp_64 : decode cX11_stamp 64 = .ok (.lload_n 3, 1) := by decide +kernel
theorem dX11_stamp_65 : decode cX11_stamp 65 = .ok (.bipush 32, 2) := by decide +kernel
theorem dX11_stamp_67 : decode cX11_stamp 67 = .ok (.lshr, 1) := by decide +kernel
theorem dX11_stamp_68 : decode cX11_stamp 68 = .ok (.l2i, 1) := by decide +kernel
theorem dX11_stamp_69 : decode cX11_stamp 69 = .ok (.lload_n 3, 1) := by decide +kernel
theorem dX11_stamp_70 : decode cX11_stamp 70 = .ok (.l2i, 1) := by decide +kernel
theorem dX11_stamp_71 : decode cX11_stamp 71 = .ok (.ixor, 1) := by decide +kernel
theorem dX11_stamp_72 : decode cX11_stamp 72 = .ok (.ireturn, 1) := by decide +kernel
theorem dX11_lineAt_0 : decode cX11_lineAt 0 = .ok (.aload_n 0, 1) := by decide +kernel
theorem dX11_lineAt_1 : decode cX11_lineAt 1 = .ok (.iload_n 1, 1) := by decide +kernel
theorem dX11_lineAt_2 : decode cX11_lineAt 2 = .ok (.invokevirtual 289, 3) := by decide +kernel
theorem dX11_lineAt_5 : decode cX11_lineAt 5 = .ok (.astore_n 3, 1) := by decide +kernel
theorem dX11_lineAt_6 : decode cX11_lineAt 6 = .ok (.iload_n 2, 1) := by decide +kernel
theorem dX11_lineAt_7 : decode cX11_lineAt 7 = .ok (.ifCond .ge 14, 3) := by decide +kernel
theorem dX11_lineAt_10 : decode cX11_lineAt 10 = .ok (.new 199, 3) := by decide +kernel
theorem dX11_lineAt_13 : decode cX11_lineAt 13 = .ok (.dup, 1) := by decide +kernel
theorem dX11_lineAt_14 : decode cX11_lineAt 14 = .ok (.ldc_w 326, 3) := by decide +kernel
theorem dX11_lineAt_17 : decode cX11_lineAt 17 = .ok (.invokespecial 203, 3) := by decide +kernel
theorem dX11_lineAt_20 : decode cX11_lineAt 20 = .ok (.athrow, 1) := by decide +kernel
theorem dX11_lineAt_21 : decode cX11_lineAt 21 = .ok (.new 328, 3) := by decide +kernel
theorem dX11_lineAt_24 : decode cX11_lineAt 24 = .ok (.dup, 1) := by decide +kernel
theorem dX11_lineAt_25 : decode cX11_lineAt 25 = .ok (.invokespecial 330, 3) := by decide +kernel
theorem dX11_lineAt_28 : decode cX11_lineAt 28 = .ok (.astore 4, 2) := by decide +kernel
theorem dX11_lineAt_30 : decode cX11_lineAt 30 = .ok (.aload 4, 2) := by decide +kernel
theorem dX11_lineAt_32 : decode cX11_lineAt 32 = .ok (.bipush 80, 2) := by decide +kernel
theorem dX11_lineAt_34 : decode cX11_lineAt 34 = .ok (.invokevirtual 331, 3) := by decide +kernel
theorem dX11_lineAt_37 : decode cX11_lineAt 37 = .ok (.aload_n 3, 1) := by decide +kernel
theorem dX11_lineAt_38 : decode cX11_lineAt 38 = .ok (.getfield 335, 3) := by decide +kernel
theorem dX11_lineAt_41 : decode cX11_lineAt 41 = .ok (.getfield 339, 3) := by decide +kernel
theorem dX11_lineAt_44 : decode cX11_lineAt 44 = .ok (.invokevirtual 340, 3) := by decide +kernel
theorem dX11_lineAt_47 : decode cX11_lineAt 47 = .ok (.bipush 67, 2) := by decide +kernel
theorem dX11_lineAt_49 : decode cX11_lineAt 49 = .ok (.invokevirtual 331, 3) := by decide +kernel
theorem dX11_lineAt_52 : decode cX11_lineAt 52 = .ok (.aload_n 3, 1) := by decide +kernel
theorem dX11_lineAt_53 : decode cX11_lineAt 53 = .ok (.getfield 265, 3) := by decide +kernel
theorem dX11_lineAt_56 : decode cX11_lineAt 56 = .ok (.getfield 246, 3) := by decide +kernel
theorem dX11_lineAt_59 : decode cX11_lineAt 59 = .ok (.invokevirtual 340, 3) := by decide +kernel
theorem dX11_lineAt_62 : decode cX11_lineAt 62 = .ok (.pop, 1) := by decide +kernel
theorem dX11_lineAt_63 : decode cX11_lineAt 63 = .ok (.aload 4, 2) := by decide +kernel
theorem dX11_lineAt_65 : decode cX11_lineAt 65 = .ok (.bipush 58, 2) := by decide +kernel
theorem dX11_lineAt_67 : decode cX11_lineAt 67 = .ok (.invokevirtual 331, 3) := by decide +kernel
theorem dX11_lineAt_70 : decode cX11_lineAt 70 = .ok (.aload_n 3, 1) := by decide +kernel
theorem dX11_lineAt_71 : decode cX11_lineAt 71 = .ok (.getfield 293, 3) := by decide +kernel
theorem dX11_lineAt_74 : decode cX11_lineAt 74 = .ok (.invokevirtual 340, 3) := by decide +kernel
theorem dX11_lineAt_77 : decode cX11_lineAt 77 = .ok (.bipush 61, 2) := by decide +kernel
theorem dX11_lineAt_79 : decode cX11_lineAt 79 = .ok (.invokevirtual 331, 3) := by decide +kernel
theorem dX11_lineAt_82 : decode cX11_lineAt 82 = .ok (.aload_n 3, 1) := by decide +kernel
theorem dX11_lineAt_83 : decode cX11_lineAt 83 = .ok (.getfield 296, 3) := by decide +kernel
theorem dX11_lineAt_86 : decode cX11_lineAt 86 = .ok (.invokevirtual 340, 3) := by decide +kernel
theorem dX11_lineAt_89 : decode cX11_lineAt 89 = .ok (.pop, 1) := by decide +kernel
theorem dX11_lineAt_90 : decode cX11_lineAt 90 = .ok (.aload 4, 2) := by decide +kernel
theorem dX11_lineAt_92 : decode cX11_lineAt 92 = .ok (.bipush 43, 2) := by decide +kernel
theorem dX11_lineAt_94 : decode cX11_lineAt 94 = .ok (.invokevirtual 331, 3) := by decide +kernel
theorem dX11_lineAt_97 : decode cX11_lineAt 97 = .ok (.aload_n 3, 1) := by decide +kernel
theorem dX11_lineAt_98 : decode cX11_lineAt 98 = .ok (.getfield 299, 3) := by decide +kernel
theorem dX11_lineAt_101 : decode cX11_lineAt 101 = .ok (.invokevirtual 340, 3) := by decide +kernel
theorem dX11_lineAt_104 : decode cX11_lineAt 104 = .ok (.aload_n 3, 1) := by decide +kernel
theorem dX11_lineAt_105 : decode cX11_lineAt 105 = .ok (.getfield 243, 3) := by decide +kernel
theorem dX11_lineAt_108 : decode cX11_lineAt 108 = .ok (.invokestatic 343, 3) := by decide +kernel
theorem dX11_lineAt_111 : decode cX11_lineAt 111 = .ok (.invokevirtual 331, 3) := by decide +kernel
theorem dX11_lineAt_114 : decode cX11_lineAt 114 = .ok (.pop, 1) := by decide +kernel
theorem dX11_lineAt_115 : decode cX11_lineAt 115 = .ok (.iload_n 2, 1) := by decide +kernel
theorem dX11_lineAt_116 : decode cX11_lineAt 116 = .ok (.aload 4, 2) := by decide +kernel
theorem dX11_lineAt_118 : decode cX11_lineAt 118 = .ok (.invokevirtual 347, 3) := by decide +kernel
theorem dX11_lineAt_121 : decode cX11_lineAt 121 = .ok (.if_icmp .lt 5, 3) := by decide +kernel
theorem dX11_lineAt_124 : decode cX11_lineAt 124 = .ok (.iconst (-1), 1) := by decide +kernel
theorem dX11_lineAt_125 : decode cX11_lineAt 125 = .ok (.ireturn, 1) := by decide +kernel
theorem dX11_lineAt_126 : decode cX11_lineAt 126 = .ok (.aload 4, 2) := by decide +kernel
theorem dX11_lineAt_128 : decode cX11_lineAt 128 = .ok (.iload_n 2, 1) := by decide +kernel
theorem dX11_lineAt_129 : decode cX11_lineAt 129 = .ok (.invokevirtual 350, 3) := by decide +kernel
theorem dX11_lineAt_132 : decode cX11_lineAt 132 = .ok (.ireturn, 1) := by decide +kernel
theorem dX11_isOutside_0 : decode cX11_isOutside 0 = .ok (.iload_n 0, 1) := by decide +kernel
theorem dX11_isOutside_1 : decode cX11_isOutside 1 = .ok (.iload_n 1, 1) := by decide +kernel
theorem dX11_isOutside_2 : decode cX11_isOutside 2 = .ok (.if_icmp .lt 8, 3) := by decide +kernel
theorem dX11_isOutside_5 : decode cX11_isOutside 5 = .ok (.iload_n 0, 1) := by decide +kernel
theorem dX11_isOutside_6 : decode cX11_isOutside 6 = .ok (.iload_n 2, 1) := by decide +kernel
theorem dX11_isOutside_7 : decode cX11_isOutside 7 = .ok (.if_icmp .le 7, 3) := by decide +kernel
theorem dX11_isOutside_10 : decode cX11_isOutside 10 = .ok (.iconst 1, 1) := by decide +kernel
theorem dX11_isOutside_11 : decode cX11_isOutside 11 = .ok (.goto 4, 3) := by decide +kernel
theorem dX11_isOutside_14 : decode cX11_isOutside 14 = .ok (.iconst 0, 1) := by decide +kernel
theorem dX11_isOutside_15 : decode cX11_isOutside 15 = .ok (.ireturn, 1) := by decide +kernel
theorem dX11_cellAt_0 : decode cX11_cellAt 0 = .ok (.iload_n 1, 1) := by decide +kernel
theorem dX11_cellAt_1 : decode cX11_cellAt 1 = .ok (.ifCond .lt 12, 3) := by decide +kernel
theorem dX11_cellAt_4 : decode cX11_cellAt 4 = .ok (.iload_n 1, 1) := by decide +kernel
theorem dX11_cellAt_5 : decode cX11_cellAt 5 = .ok (.aload_n 0, 1) := by decide +kernel
theorem dX11_cellAt_6 : decode cX11_cellAt 6 = .ok (.getfield 17, 3) := by decide +kernel
theorem dX11_cellAt_9 : decode cX11_cellAt 9 = .ok (.arraylength, 1) := by decide +kernel
theorem dX11_cellAt_10 : decode cX11_cellAt 10 = .ok (.if_icmp .lt 14, 3) := by decide +kernel
theorem dX11_cellAt_13 : decode cX11_cellAt 13 = .ok (.new 199, 3) := by decide +kernel
theorem dX11_cellAt_16 : decode cX11_cellAt 16 = .ok (.dup, 1) := by decide +kernel
theorem dX11_cellAt_17 : decode cX11_cellAt 17 = .ok (.ldc_w 353, 3) := by decide +kernel
theorem dX11_cellAt_20 : decode cX11_cellAt 20 = .ok (.invokespecial 203, 3) := by decide +kernel
theorem dX11_cellAt_23 : decode cX11_cellAt 23 = .ok (.athrow, 1) := by decide +kernel
theorem dX11_cellAt_24 : decode cX11_cellAt 24 = .ok (.aload_n 0, 1) := by decide +kernel
theorem dX11_cellAt_25 : decode cX11_cellAt 25 = .ok (.getfield 17, 3) := by decide +kernel
theorem dX11_cellAt_28 : decode cX11_cellAt 28 = .ok (.iload_n 1, 1) := by decide +kernel
theorem dX11_cellAt_29 : decode cX11_cellAt 29 = .ok (.aaload, 1) := by decide +kernel
theorem dX11_cellAt_30 : decode cX11_cellAt 30 = .ok (.areturn, 1) := by decide +kernel
theorem dX11_phoneAt_0 : decode cX11_phoneAt 0 = .ok (.iload_n 1, 1) := by decide +kernel
theorem dX11_phoneAt_1 : decode cX11_phoneAt 1 = .ok (.ifCond .lt 12, 3) := by decide +kernel
theorem dX11_phoneAt_4 : decode cX11_phoneAt 4 = .ok (.iload_n 1, 1) := by decide +kernel
theorem dX11_phoneAt_5 : decode cX11_phoneAt 5 = .ok (.aload_n 0, 1) := by decide +kernel
theorem dX11_phoneAt_6 : decode cX11_phoneAt 6 = .ok (.getfield 29, 3) := by decide +kernel
theorem dX11_phoneAt_9 : decode cX11_phoneAt 9 = .ok (.arraylength, 1) := by decide +kernel
theorem dX11_phoneAt_10 : decode cX11_phoneAt 10 = .ok (.if_icmp .lt 14, 3) := by decide +kernel
theorem dX11_phoneAt_13 : decode cX11_phoneAt 13 = .ok (.new 199, 3) := by decide +kernel
theorem dX11_phoneAt_16 : decode cX11_phoneAt 16 = .ok (.dup, 1) := by decide +kernel
theorem dX11_phoneAt_17 : decode cX11_phoneAt 17 = .ok (.ldc_w 355, 3) := by decide +kernel
theorem dX11_phoneAt_20 : decode cX11_phoneAt 20 = .ok (.invokespecial 203, 3) := by decide +kernel
theorem dX11_phoneAt_23 : decode cX11_phoneAt 23 = .ok (.athrow, 1) := by decide +kernel
theorem dX11_phoneAt_24 : decode cX11_phoneAt 24 = .ok (.aload_n 0, 1) := by decide +kernel
theorem dX11_phoneAt_25 : decode cX11_phoneAt 25 = .ok (.getfield 29, 3) := by decide +kernel
theorem dX11_phoneAt_28 : decode cX11_phoneAt 28 = .ok (.iload_n 1, 1) := by decide +kernel
theorem dX11_phoneAt_29 : decode cX11_phoneAt 29 = .ok (.aaload, 1) := by decide +kernel
theorem dX11_phoneAt_30 : decode cX11_phoneAt 30 = .ok (.areturn, 1) := by decide +kernel
theorem dX11_walletAt_0 : decode cX11_walletAt 0 = .ok (.iload_n 1, 1) := by decide +kernel
theorem dX11_walletAt_1 : decode cX11_walletAt 1 = .ok (.ifCond .lt 12, 3) := by decide +kernel
theorem dX11_walletAt_4 : decode cX11_walletAt 4 = .ok (.iload_n 1, 1) := by decide +kernel
theorem dX11_walletAt_5 : decode cX11_walletAt 5 = .ok (.aload_n 0, 1) := by decide +kernel
theorem dX11_walletAt_6 : decode cX11_walletAt 6 = .ok (.getfield 23, 3) := by decide +kernel
theorem dX11_walletAt_9 : decode cX11_walletAt 9 = .ok (.arraylength, 1) := by decide +kernel
theorem dX11_walletAt_10 : decode cX11_walletAt 10 = .ok (.if_icmp .lt 14, 3) := by decide +kernel
theorem dX11_walletAt_13 : decode cX11_walletAt 13 = .ok (.new 199, 3) := by decide +kernel
theorem dX11_walletAt_16 : decode cX11_walletAt 16 = .ok (.dup, 1) := by decide +kernel
theorem dX11_walletAt_17 : decode cX11_walletAt 17 = .ok (.ldc_w 357, 3) := by decide +kernel
theorem dX11_walletAt_20 : decode cX11_walletAt 20 = .ok (.invokespecial 203, 3) := by decide +kernel
theorem dX11_walletAt_23 : decode cX11_walletAt 23 = .ok (.athrow, 1) := by decide +kernel
theorem dX11_walletAt_24 : decode cX11_walletAt 24 = .ok (.aload_n 0, 1) := by decide +kernel
theorem dX11_walletAt_25 : decode cX11_walletAt 25 = .ok (.getfield 23, 3) := by decide +kernel
theorem dX11_walletAt_28 : decode cX11_walletAt 28 = .ok (.iload_n 1, 1) := by decide +kernel
theorem dX11_walletAt_29 : decode cX11_walletAt 29 = .ok (.aaload, 1) := by decide +kernel
theorem dX11_walletAt_30 : decode cX11_walletAt 30 = .ok (.areturn, 1) := by decide +kernel
theorem dX11_callAt_0 : decode cX11_callAt 0 = .ok (.iload_n 1, 1) := by decide +kernel
theorem dX11_callAt_1 : decode cX11_callAt 1 = .ok (.ifCond .lt 14, 3) := by decide +kernel
theorem dX11_callAt_4 : decode cX11_callAt 4 = .ok (.iload_n 1, 1) := by decide +kernel
theorem dX11_callAt_5 : decode cX11_callAt 5 = .ok (.aload_n 0, 1) := by decide +kernel
theorem dX11_callAt_6 : decode cX11_callAt 6 = .ok (.getfield 40, 3) := by decide +kernel
theorem dX11_callAt_9 : decode cX11_callAt 9 = .ok (.invokevirtual 159, 3) := by decide +kernel
theorem dX11_callAt_12 : decode cX11_callAt 12 = .ok (.if_icmp .lt 14, 3) := by decide +kernel
theorem dX11_callAt_15 : decode cX11_callAt 15 = .ok (.new 199, 3) := by decide +kernel
theorem dX11_callAt_18 : decode cX11_callAt 18 = .ok (.dup, 1) := by decide +kernel
theorem dX11_callAt_19 : decode cX11_callAt 19 = .ok (.ldc_w 359, 3) := by decide +kernel
theorem dX11_callAt_22 : decode cX11_callAt 22 = .ok (.invokespecial 203, 3) := by decide +kernel
theorem dX11_callAt_25 : decode cX11_callAt 25 = .ok (.athrow, 1) := by decide +kernel
theorem dX11_callAt_26 : decode cX11_callAt 26 = .ok (.aload_n 0, 1) := by decide +kernel
theorem dX11_callAt_27 : decode cX11_callAt 27 = .ok (.getfield 40, 3) := by decide +kernel
theorem dX11_callAt_30 : decode cX11_callAt 30 = .ok (.iload_n 1, 1) := by decide +kernel
theorem dX11_callAt_31 : decode cX11_callAt 31 = .ok (.invokevirtual 204, 3) := by decide +kernel
theorem dX11_callAt_34 : decode cX11_callAt 34 = .ok (.checkcast 230, 3) := by decide +kernel
theorem dX11_callAt_37 : decode cX11_callAt 37 = .ok (.areturn, 1) := by decide +kernel
theorem dX11_legAt_0 : decode cX11_legAt 0 = .ok (.iload_n 1, 1) := by decide +kernel
theorem dX11_legAt_1 : decode cX11_legAt 1 = .ok (.ifCond .lt 14, 3) := by decide +kernel
theorem dX11_legAt_4 : decode cX11_legAt 4 = .ok (.iload_n 1, 1) := by decide +kernel
theorem dX11_legAt_5 : decode cX11_legAt 5 = .ok (.aload_n 0, 1) := by decide +kernel
theorem dX11_legAt_6 : decode cX11_legAt 6 = .ok (.getfield 43, 3) := by decide +kernel
theorem dX11_legAt_9 : decode cX11_legAt 9 = .ok (.invokevirtual 159, 3) := by decide +kernel
theorem dX11_legAt_12 : decode cX11_legAt 12 = .ok (.if_icmp .lt 14, 3) := by decide +kernel
theorem dX11_legAt_15 : decode cX11_legAt 15 = .ok (.new 199, 3) := by decide +kernel
theorem dX11_legAt_18 : decode cX11_legAt 18 = .ok (.dup, 1) := by decide +kernel
theorem dX11_legAt_19 : decode cX11_legAt 19 = .ok (.ldc_w 361, 3) := by decide +kernel
theorem dX11_legAt_22 : decode cX11_legAt 22 = .ok (.invokespecial 203, 3) := by decide +kernel
theorem dX11_legAt_25 : decode cX11_legAt 25 = .ok (.athrow, 1) := by decide +kernel
theorem dX11_legAt_26 : decode cX11_legAt 26 = .ok (.aload_n 0, 1) := by decide +kernel
theorem dX11_legAt_27 : decode cX11_legAt 27 = .ok (.getfield 43, 3) := by decide +kernel
theorem dX11_legAt_30 : decode cX11_legAt 30 = .ok (.iload_n 1, 1) := by decide +kernel
theorem dX11_legAt_31 : decode cX11_legAt 31 = .ok (.invokevirtual 204, 3) := by decide +kernel
theorem dX11_legAt_34 : decode cX11_legAt 34 = .ok (.checkcast 183, 3) := by decide +kernel
theorem dX11_legAt_37 : decode cX11_legAt 37 = .ok (.areturn, 1) := by decide +kernel
theorem dX11_signOf_0 : decode cX11_signOf 0 = .ok (.iload_n 0, 1) := by decide +kernel
theorem dX11_signOf_1 : decode cX11_signOf 1 = .ok (.tableswitch 36 1 3 #[27, 30, 33], 27) := by decide +kernel
theorem dX11_signOf_28 : decode cX11_signOf 28 = .ok (.bipush 46, 2) := by decide +kernel
theorem dX11_signOf_30 : decode cX11_signOf 30 = .ok (.ireturn, 1) := by decide +kernel
theorem dX11_signOf_31 : decode cX11_signOf 31 = .ok (.bipush 33, 2) := by decide +kernel
theorem dX11_signOf_33 : decode cX11_signOf 33 = .ok (.ireturn, 1) := by decide +kernel
theorem dX11_signOf_34 : decode cX11_signOf 34 = .ok (.bipush 63, 2) := by decide +kernel
theorem dX11_signOf_36 : decode cX11_signOf 36 = .ok (.ireturn, 1) := by decide +kernel
theorem dX11_signOf_37 : decode cX11_signOf 37 = .ok (.bipush 126, 2) := by decide +kernel
theorem dX11_signOf_39 : decode cX11_signOf 39 = .ok (.ireturn, 1) := by decide +kernel
theorem dX11_dayOf_0 : decode cX11_dayOf 0 = .ok (.iload_n 0, 1) := by decide +kernel
theorem dX11_dayOf_1 : decode cX11_dayOf 1 = .ok (.sipush 2400, 3) := by decide +kernel
theorem dX11_dayOf_4 : decode cX11_dayOf 4 = .ok (.idiv, 1) := by decide +kernel
theorem dX11_dayOf_5 : decode cX11_dayOf 5 = .ok (.ireturn, 1) := by decide +kernel
theorem dX11_isPeakAt_0 : decode cX11_isPeakAt 0 = .ok (.iload_n 0, 1) := by decide +kernel
theorem dX11_isPeakAt_1 : decode cX11_isPeakAt 1 = .ok (.bipush 100, 2) := by decide +kernel
theorem dX11_isPeakAt_3 : decode cX11_isPeakAt 3 = .ok (.idiv, 1) := by decide +kernel
theorem dX11_isPeakAt_4 : decode cX11_isPeakAt 4 = .ok (.bipush 24, 2) := by decide +kernel
theorem dX11_isPeakAt_6 : decode cX11_isPeakAt 6 = .ok (.irem, 1) := by decide +kernel
theorem dX11_isPeakAt_7 : decode cX11_isPeakAt 7 = .ok (.istore_n 1, 1) := by decide +kernel
theorem dX11_isPeakAt_8 : decode cX11_isPeakAt 8 = .ok (.iload_n 1, 1) := by decide +kernel
theorem dX11_isPeakAt_9 : decode cX11_isPeakAt 9 = .ok (.bipush 8, 2) := by decide +kernel
theorem dX11_isPeakAt_11 : decode cX11_isPeakAt 11 = .ok (.if_icmp .lt 13, 3) := by decide +kernel
theorem dX11_isPeakAt_14 : decode cX11_isPeakAt 14 = .ok (.iload_n 1, 1) := by decide +kernel
theorem dX11_isPeakAt_15 : decode cX11_isPeakAt 15 = .ok (.bipush 19, 2) := by decide +kernel
theorem dX11_isPeakAt_17 : decode cX11_isPeakAt 17 = .ok (.if_icmp .gt 7, 3) := by decide +kernel
theorem dX11_isPeakAt_20 : decode cX11_isPeakAt 20 = .ok (.iconst 1, 1) := by decide +kernel
theorem dX11_isPeakAt_21 : decode cX11_isPeakAt 21 = .ok (.goto 4, 3) := by decide +kernel
theorem dX11_isPeakAt_24 : decode cX11_isPeakAt 24 = .ok (.iconst 0, 1) := by decide +kernel
theorem dX11_isPeakAt_25 : decode cX11_isPeakAt 25 = .ok (.ireturn, 1) := by decide +kernel
theorem dX11_rateNow_0 : decode cX11_rateNow 0 = .ok (.aload_n 1, 1) := by decide +kernel
theorem dX11_rateNow_1 : decode cX11_rateNow 1 = .ok (.getfield 219, 3) := by decide +kernel
theorem dX11_rateNow_4 : decode cX11_rateNow 4 = .ok (.getfield 87, 3) := by decide +kernel
theorem dX11_rateNow_7 : decode cX11_rateNow 7 = .ok (.aload_n 0, 1) := by decide +kernel
theorem dX11_rateNow_8 : decode cX11_rateNow 8 = .ok (.getfield 50, 3) := by decide +kernel
theorem dX11_rateNow_11 : decode cX11_rateNow 11 = .ok (.invokestatic 363, 3) := by decide +kernel
theorem dX11_rateNow_14 : decode cX11_rateNow 14 = .ok (.invokevirtual 108, 3) := by decide +kernel
theorem dX11_rateNow_17 : decode cX11_rateNow 17 = .ok (.getfield 112, 3) := by decide +kernel
theorem dX11_rateNow_20 : decode cX11_rateNow 20 = .ok (.ireturn, 1) := by decide +kernel
theorem dX11_costOfStay_0 : decode cX11_costOfStay 0 = .ok (.iconst 0, 1) := by decide +kernel
theorem dX11_costOfStay_1 : decode cX11_costOfStay 1 = .ok (.istore_n 3, 1) := by decide +kernel
theorem dX11_costOfStay_2 : decode cX11_costOfStay 2 = .ok (.iload_n 1, 1) := by decide +kernel
theorem dX11_costOfStay_3 : decode cX11_costOfStay 3 = .ok (.iload_n 1, 1) := by decide +kernel
theorem dX11_costOfStay_4 : decode cX11_costOfStay 4 = .ok (.bipush 100, 2) := by decide +kernel
theorem dX11_costOfStay_6 : decode cX11_costOfStay 6 = .ok (.irem, 1) := by decide +kernel
theorem dX11_costOfStay_7 : decode cX11_costOfStay 7 = .ok (.isub, 1) := by decide +kernel
theorem dX11_costOfStay_8 : decode cX11_costOfStay 8 = .ok (.istore 4, 2) := by decide +kernel
theorem dX11_costOfStay_10 : decode cX11_costOfStay 10 = .ok (.iload 4, 2) := by decide +kernel
theorem dX11_costOfStay_12 : decode cX11_costOfStay 12 = .ok (.iload_n 2, 1) := by decide +kernel
theorem dX11_costOfStay_13 : decode cX11_costOfStay 13 = .ok (.if_icmp .ge 47, 3) := by decide +kernel
theorem dX11_costOfStay_16 : decode cX11_costOfStay 16 = .ok (.iload_n 1, 1) := by decide +kernel
theorem dX11_costOfStay_17 : decode cX11_costOfStay 17 = .ok (.iload 4, 2) := by decide +kernel
theorem dX11_costOfStay_19 : decode cX11_costOfStay 19 = .ok (.invokestatic 366, 3) := by decide +kernel
theorem dX11_costOfStay_22 : decode cX11_costOfStay 22 = .ok (.istore 5, 2) := by decide +kernel
theorem dX11_costOfStay_24 : decode cX11_costOfStay 24 = .ok (.iload_n 2, 1) := by decide +kernel
theorem dX11_costOfStay_25 : decode cX11_costOfStay 25 = .ok (.iload 4, 2) := by decide +kernel
theorem dX11_costOfStay_27 : decode cX11_costOfStay 27 = .ok (.bipush 100, 2) := by decide +kernel
theorem dX11_costOfStay_29 : decode cX11_costOfStay 29 = .ok (.iadd, 1) := by decide +kernel
theorem dX11_costOfStay_30 : decode cX11_costOfStay 30 = .ok (.invokestatic 372, 3) := by decide +kernel
theorem dX11_costOfStay_33 : decode cX11_costOfStay 33 = .ok (.istore 6, 2) := by decide +kernel
theorem dX11_costOfStay_35 : decode cX11_costOfStay 35 = .ok (.iload_n 3, 1) := by decide +kernel
theorem dX11_costOfStay_36 : decode cX11_costOfStay 36 = .ok (.aload_n 0, 1) := by decide +kernel
theorem dX11_costOfStay_37 : decode cX11_costOfStay 37 = .ok (.iload 4, 2) := by decide +kernel
theorem dX11_costOfStay_39 : decode cX11_costOfStay 39 = .ok (.invokestatic 363, 3) := by decide +kernel
theorem dX11_costOfStay_42 : decode cX11_costOfStay 42 = .ok (.invokevirtual 108, 3) := by decide +kernel
theorem dX11_costOfStay_45 : decode cX11_costOfStay 45 = .ok (.iload 5, 2) := by decide +kernel
theorem dX11_costOfStay_47 : decode cX11_costOfStay 47 = .ok (.iload 6, 2) := by decide +kernel
theorem dX11_costOfStay_49 : decode cX11_costOfStay 49 = .ok (.invokevirtual 375, 3) := by decide +kernel
theorem dX11_costOfStay_52 : decode cX11_costOfStay 52 = .ok (.iadd, 1) := by decide +kernel
theorem dX11_costOfStay_53 : decode cX11_costOfStay 53 = .ok (.istore_n 3, 1) := by decide +kernel
theorem dX11_costOfStay_54 : decode cX11_costOfStay 54 = .ok (.iinc 4 100, 3) := by decide +kernel
theorem dX11_costOfStay_57 : decode cX11_costOfStay 57 = .ok (.goto (-47), 3) := by decide +kernel
theorem dX11_costOfStay_60 : decode cX11_costOfStay 60 = .ok (.iload_n 3, 1) := by decide +kernel
theorem dX11_costOfStay_61 : decode cX11_costOfStay 61 = .ok (.ireturn, 1) := by decide +kernel
theorem dX11_legsIn_0 : decode cX11_legsIn 0 = .ok (.iconst 0, 1) := by decide +kernel
theorem dX11_legsIn_1 : decode cX11_legsIn 1 = .ok (.istore_n 2, 1) := by decide +kernel
theorem dX11_legsIn_2 : decode cX11_legsIn 2 = .ok (.aload_n 0, 1) := by decide +kernel
theorem dX11_legsIn_3 : decode cX11_legsIn 3 = .ok (.getfield 29, 3) := by decide +kernel
theorem dX11_legsIn_6 : decode cX11_legsIn 6 = .ok (.astore_n 3, 1) := by decide +kernel
theorem dX11_legsIn_7 : decode cX11_legsIn 7 = .ok (.aload_n 3, 1) := by decide +kernel
theorem dX11_legsIn_8 : decode cX11_legsIn 8 = .ok (.arraylength, 1) := by decide +kernel
theorem dX11_legsIn_9 : decode cX11_legsIn 9 = .ok (.istore 4, 2) := by decide +kernel
theorem dX11_legsIn_11 : decode cX11_legsIn 11 = .ok (.iconst 0, 1) := by decide +kernel
theorem dX11_legsIn_12 : decode cX11_legsIn 12 = .ok (.istore 5, 2) := by decide +kernel
theorem dX11_legsIn_14 : decode cX11_legsIn 14 = .ok (.iload 5, 2) := by decide +kernel
theorem dX11_legsIn_16 : decode cX11_legsIn 16 = .ok (.iload 4, 2) := by decide +kernel
theorem dX11_legsIn_18 : decode cX11_legsIn 18 = .ok (.if_icmp .ge 35, 3) := by decide +kernel
theorem dX11_legsIn_21 : decode cX11_legsIn 21 = .ok (.aload_n 3, 1) := by decide +kernel
theorem dX11_legsIn_22 : decode cX11_legsIn 22 = .ok (.iload 5, 2) := by decide +kernel
theorem dX11_legsIn_24 : decode cX11_legsIn 24 = .ok (.aaload, 1) := by decide +kernel
theorem dX11_legsIn_25 : decode cX11_legsIn 25 = .ok (.astore 6, 2) := by decide +kernel
theorem dX11_legsIn_27 : decode cX11_legsIn 27 = .ok (.aload 6, 2) := by decide +kernel
theorem dX11_legsIn_29 : decode cX11_legsIn 29 = .ok (.getfield 137, 3) := by decide +kernel
theorem dX11_legsIn_32 : decode cX11_legsIn 32 = .ok (.ifnull 15, 3) := by decide +kernel
theorem dX11_legsIn_35 : decode cX11_legsIn 35 = .ok (.aload 6, 2) := by decide +kernel
theorem dX11_legsIn_37 : decode cX11_legsIn 37 = .ok (.getfield 219, 3) := by decide +kernel
theorem dX11_legsIn_40 : decode cX11_legsIn 40 = .ok (.aload_n 1, 1) := by decide +kernel
theorem dX11_legsIn_41 : decode cX11_legsIn 41 = .ok (.if_acmp .ne 6, 3) := by decide +kernel
theorem dX11_legsIn_44 : decode cX11_legsIn 44 = .ok (.iinc 2 1, 3) := by decide +kernel
theorem dX11_legsIn_47 : decode cX11_legsIn 47 = .ok (.iinc 5 1, 3) := by decide +kernel
theorem dX11_legsIn_50 : decode cX11_legsIn 50 = .ok (.goto (-36), 3) := by decide +kernel
theorem dX11_legsIn_53 : decode cX11_legsIn 53 = .ok (.iload_n 2, 1) := by decide +kernel
theorem dX11_legsIn_54 : decode cX11_legsIn 54 = .ok (.ireturn, 1) := by decide +kernel
theorem dX11_openChannels_0 : decode cX11_openChannels 0 = .ok (.aload_n 1, 1) := by decide +kernel
theorem dX11_openChannels_1 : decode cX11_openChannels 1 = .ok (.getfield 96, 3) := by decide +kernel
theorem dX11_openChannels_4 : decode cX11_openChannels 4 = .ok (.aload_n 1, 1) := by decide +kernel
theorem dX11_openChannels_5 : decode cX11_openChannels 5 = .ok (.getfield 99, 3) := by decide +kernel
theorem dX11_openChannels_8 : decode cX11_openChannels 8 = .ok (.isub, 1) := by decide +kernel
theorem dX11_openChannels_9 : decode cX11_openChannels 9 = .ok (.aload_n 0, 1) := by decide +kernel
theorem dX11_openChannels_10 : decode cX11_openChannels 10 = .ok (.aload_n 1, 1) := by decide +kernel
theorem dX11_openChannels_11 : decode cX11_openChannels 11 = .ok (.invokevirtual 102, 3) := by decide +kernel
theorem dX11_openChannels_14 : decode cX11_openChannels 14 = .ok (.isub, 1) := by decide +kernel
theorem dX11_openChannels_15 : decode cX11_openChannels 15 = .ok (.ireturn, 1) := by decide +kernel
theorem dX11_openLeg_0 : decode cX11_openLeg 0 = .ok (.iload_n 3, 1) := by decide +kernel
theorem dX11_openLeg_1 : decode cX11_openLeg 1 = .ok (.ifCond .eq 13, 3) := by decide +kernel
theorem dX11_openLeg_4 : decode cX11_openLeg 4 = .ok (.aload_n 2, 1) := by decide +kernel
theorem dX11_openLeg_5 : decode cX11_openLeg 5 = .ok (.getfield 378, 3) := by decide +kernel
theorem dX11_openLeg_8 : decode cX11_openLeg 8 = .ok (.getfield 143, 3) := by decide +kernel
theorem dX11_openLeg_11 : decode cX11_openLeg 11 = .ok (.goto 7, 3) := by decide +kernel
theorem dX11_openLeg_14 : decode cX11_openLeg 14 = .ok (.aload_n 1, 1) := by decide +kernel
theorem dX11_openLeg_15 : decode cX11_openLeg 15 = .ok (.getfield 143, 3) := by decide +kernel
theorem dX11_openLeg_18 : decode cX11_openLeg 18 = .ok (.astore 4, 2) := by decide +kernel
theorem dX11_openLeg_20 : decode cX11_openLeg 20 = .ok (.new 183, 3) := by decide +kernel
theorem dX11_openLeg_23 : decode cX11_openLeg 23 = .ok (.dup, 1) := by decide +kernel
theorem dX11_openLeg_24 : decode cX11_openLeg 24 = .ok (.aload_n 0, 1) := by decide +kernel
theorem dX11_openLeg_25 : decode cX11_openLeg 25 = .ok (.getfield 43, 3) := by decide +kernel
theorem dX11_openLeg_28 : decode cX11_openLeg 28 = .ok (.invokevirtual 159, 3) := by decide +kernel
theorem dX11_openLeg_31 : decode cX11_openLeg 31 = .ok (.aload_n 1, 1) := by decide +kernel
theorem dX11_openLeg_32 : decode cX11_openLeg 32 = .ok (.aload_n 2, 1) := by decide +kernel
theorem dX11_openLeg_33 : decode cX11_openLeg 33 = .ok (.aload 4, 2) := by decide +kernel
theorem dX11_openLeg_35 : decode cX11_openLeg 35 = .ok (.aload_n 0, 1) := by decide +kernel
theorem dX11_openLeg_36 : decode cX11_openLeg 36 = .ok (.getfield 50, 3) := by decide +kernel
theorem dX11_openLeg_39 : decode cX11_openLeg 39 = .ok (.invokespecial 381, 3) := by decide +kernel
theorem dX11_openLeg_42 : decode cX11_openLeg 42 = .ok (.astore 5, 2) := by decide +kernel
theorem dX11_openLeg_44 : decode cX11_openLeg 44 = .ok (.aload 5, 2) := by decide +kernel
theorem dX11_openLeg_46 : decode cX11_openLeg 46 = .ok (.iconst 0, 1) := by decide +kernel
theorem dX11_openLeg_47 : decode cX11_openLeg 47 = .ok (.aload_n 0, 1) := by decide +kernel
theorem dX11_openLeg_48 : decode cX11_openLeg 48 = .ok (.getfield 50, 3) := by decide +kernel
theorem dX11_openLeg_51 : decode cX11_openLeg 51 = .ok (.aload_n 1, 1) := by decide +kernel
theorem dX11_openLeg_52 : decode cX11_openLeg 52 = .ok (.getfield 219, 3) := by decide +kernel
theorem dX11_openLeg_55 : decode cX11_openLeg 55 = .ok (.invokevirtual 273, 3) := by decide +kernel
theorem dX11_openLeg_58 : decode cX11_openLeg 58 = .ok (.aload_n 1, 1) := by decide +kernel
theorem dX11_openLeg_59 : decode cX11_openLeg 59 = .ok (.aload 5, 2) := by decide +kernel
theorem dX11_openLeg_61 : decode cX11_openLeg 61 = .ok (.putfield 137, 3) := by decide +kernel
theorem dX11_openLeg_64 : decode cX11_openLeg 64 = .ok (.aload_n 2, 1) := by decide +kernel
theorem dX11_openLeg_65 : decode cX11_openLeg 65 = .ok (.getfield 323, 3) := by decide +kernel
theorem dX11_openLeg_68 : decode cX11_openLeg 68 = .ok (.aload 5, 2) := by decide +kernel
theorem dX11_openLeg_70 : decode cX11_openLeg 70 = .ok (.invokevirtual 178, 3) := by decide +kernel
theorem dX11_openLeg_73 : decode cX11_openLeg 73 = .ok (.pop, 1) := by decide +kernel
theorem dX11_openLeg_74 : decode cX11_openLeg 74 = .ok (.aload_n 0, 1) := by decide +kernel
theorem dX11_openLeg_75 : decode cX11_openLeg 75 = .ok (.getfield 43, 3) := by decide +kernel
theorem dX11_openLeg_78 : decode cX11_openLeg 78 = .ok (.aload 5, 2) := by decide +kernel
theorem dX11_openLeg_80 : decode cX11_openLeg 80 = .ok (.invokevirtual 178, 3) := by decide +kernel
theorem dX11_openLeg_83 : decode cX11_openLeg 83 = .ok (.pop, 1) := by decide +kernel
theorem dX11_openLeg_84 : decode cX11_openLeg 84 = .ok (.aload 5, 2) := by decide +kernel
theorem dX11_openLeg_86 : decode cX11_openLeg 86 = .ok (.areturn, 1) := by decide +kernel
theorem dX11_takeSliceOrCut_0 : decode cX11_takeSliceOrCut 0 = .ok (.aload_n 0, 1) := by decide +kernel
theorem dX11_takeSliceOrCut_1 : decode cX11_takeSliceOrCut 1 = .ok (.aload_n 1, 1) := by decide +kernel
theorem dX11_takeSliceOrCut_2 : decode cX11_takeSliceOrCut 2 = .ok (.invokevirtual 384, 3) := by decide +kernel
theorem dX11_takeSliceOrCut_5 : decode cX11_takeSliceOrCut 5 = .ok (.ifCond .ne 9, 3) := by decide +kernel
theorem dX11_takeSliceOrCut_8 : decode cX11_takeSliceOrCut 8 = .ok (.aload_n 0, 1) := by decide +kernel
theorem dX11_takeSliceOrCut_9 : decode cX11_takeSliceOrCut 9 = .ok (.aload_n 1, 1) := by decide +kernel
theorem dX11_takeSliceOrCut_10 : decode cX11_takeSliceOrCut 10 = .ok (.iconst 2, 1) := by decide +kernel
theorem dX11_takeSliceOrCut_11 : decode cX11_takeSliceOrCut 11 = .ok (.invokevirtual 261, 3) := by decide +kernel
theorem dX11_takeSliceOrCut_14 : decode cX11_takeSliceOrCut 14 = .ok (.return_, 1) := by decide +kernel
theorem dX11_closeLeg_0 : decode cX11_closeLeg 0 = .ok (.aload_n 0, 1) := by decide +kernel
theorem dX11_closeLeg_1 : decode cX11_closeLeg 1 = .ok (.aload_n 1, 1) := by decide +kernel
theorem dX11_closeLeg_2 : decode cX11_closeLeg 2 = .ok (.iload_n 2, 1) := by decide +kernel
theorem dX11_closeLeg_3 : decode cX11_closeLeg 3 = .ok (.invokevirtual 388, 3) := by decide +kernel
theorem dX11_closeLeg_6 : decode cX11_closeLeg 6 = .ok (.aload_n 1, 1) := by decide +kernel
theorem dX11_closeLeg_7 : decode cX11_closeLeg 7 = .ok (.getfield 265, 3) := by decide +kernel
theorem dX11_closeLeg_10 : decode cX11_closeLeg 10 = .ok (.invokevirtual 391, 3) := by decide +kernel
theorem dX11_closeLeg_13 : decode cX11_closeLeg 13 = .ok (.astore_n 3, 1) := by decide +kernel
theorem dX11_closeLeg_14 : decode cX11_closeLeg 14 = .ok (.aload_n 3, 1) := by decide +kernel
theorem dX11_closeLeg_15 : decode cX11_closeLeg 15 = .ok (.ifnull 9, 3) := by decide +kernel
theorem dX11_closeLeg_18 : decode cX11_closeLeg 18 = .ok (.aload_n 0, 1) := by decide +kernel
theorem dX11_closeLeg_19 : decode cX11_closeLeg 19 = .ok (.aload_n 3, 1) := by decide +kernel
theorem dX11_closeLeg_20 : decode cX11_closeLeg 20 = .ok (.iconst 1, 1) := by decide +kernel
theorem dX11_closeLeg_21 : decode cX11_closeLeg 21 = .ok (.invokevirtual 388, 3) := by decide +kernel
theorem dX11_closeLeg_24 : decode cX11_closeLeg 24 = .ok (.return_, 1) := by decide +kernel
theorem dX11_finishLeg_0 : decode cX11_finishLeg 0 = .ok (.aload_n 0, 1) := by decide +kernel
theorem dX11_finishLeg_1 : decode cX11_finishLeg 1 = .ok (.aload_n 1, 1) := by decide +kernel
theorem dX11_finishLeg_2 : decode cX11_finishLeg 2 = .ok (.invokevirtual 395, 3) := by decide +kernel
theorem dX11_finishLeg_5 : decode cX11_finishLeg 5 = .ok (.aload_n 1, 1) := by decide +kernel
theorem dX11_finishLeg_6 : decode cX11_finishLeg 6 = .ok (.iconst 2, 1) := by decide +kernel
theorem dX11_finishLeg_7 : decode cX11_finishLeg 7 = .ok (.aload_n 1, 1) := by decide +kernel
theorem dX11_finishLeg_8 : decode cX11_finishLeg 8 = .ok (.invokevirtual 398, 3) := by decide +kernel
theorem dX11_finishLeg_11 : decode cX11_finishLeg 11 = .ok (.aload_n 1, 1) := by decide +kernel
theorem dX11_finishLeg_12 : decode cX11_finishLeg 12 = .ok (.getfield 335, 3) := by decide +kernel
theorem dX11_finishLeg_15 : decode cX11_finishLeg 15 = .ok (.getfield 219, 3) := by decide +kernel
theorem dX11_finishLeg_18 : decode cX11_finishLeg 18 = .ok (.invokevirtual 273, 3) := by decide +kernel
theorem dX11_finishLeg_21 : decode cX11_finishLeg 21 = .ok (.aload_n 1, 1) := by decide +kernel
theorem dX11_finishLeg_22 : decode cX11_finishLeg 22 = .ok (.iload_n 2, 1) := by decide +kernel
theorem dX11_finishLeg_23 : decode cX11_finishLeg 23 = .ok (.putfield 243, 3) := by decide +kernel
theorem dX11_finishLeg_26 : decode cX11_finishLeg 26 = .ok (.aload_n 1, 1) := by decide +kernel
theorem dX11_finishLeg_27 : decode cX11_finishLeg 27 = .ok (.getfield 335, 3) := by decide +kernel
theorem dX11_finishLeg_30 : decode cX11_finishLeg 30 = .ok (.aconst_null, 1) := by decide +kernel
theorem dX11_finishLeg_31 : decode cX11_finishLeg 31 = .ok (.putfield 137, 3) := by decide +kernel
theorem dX11_finishLeg_34 : decode cX11_finishLeg 34 = .ok (.return_, 1) := by decide +kernel
theorem dX11_liveSecond_0 : decode cX11_liveSecond 0 = .ok (.iconst 0, 1) := by decide +kernel
theorem dX11_liveSecond_1 : decode cX11_liveSecond 1 = .ok (.istore_n 1, 1) := by decide +kernel
theorem dX11_liveSecond_2 : decode cX11_liveSecond 2 = .ok (.aload_n 0, 1) := by decide +kernel
theorem dX11_liveSecond_3 : decode cX11_liveSecond 3 = .ok (.getfield 29, 3) := by decide +kernel
theorem dX11_liveSecond_6 : decode cX11_liveSecond 6 = .ok (.astore_n 2, 1) := by decide +kernel
theorem dX11_liveSecond_7 : decode cX11_liveSecond 7 = .ok (.aload_n 2, 1) := by decide +kernel
theorem dX11_liveSecond_8 : decode cX11_liveSecond 8 = .ok (.arraylength, 1) := by decide +kernel
theorem dX11_liveSecond_9 : decode cX11_liveSecond 9 = .ok (.istore_n 3, 1) := by decide +kernel
theorem dX11_liveSecond_10 : decode cX11_liveSecond 10 = .ok (.iconst 0, 1) := by decide +kernel
theorem dX11_liveSecond_11 : decode cX11_liveSecond 11 = .ok (.istore 4, 2) := by decide +kernel
theorem dX11_liveSecond_13 : decode cX11_liveSecond 13 = .ok (.iload 4, 2) := by decide +kernel
theorem dX11_liveSecond_15 : decode cX11_liveSecond 15 = .ok (.iload_n 3, 1) := by decide +kernel
theorem dX11_liveSecond_16 : decode cX11_liveSecond 16 = .ok (.if_icmp .ge 38, 3) := by decide +kernel
theorem dX11_liveSecond_19 : decode cX11_liveSecond 19 = .ok (.aload_n 2, 1) := by decide +kernel
theorem dX11_liveSecond_20 : decode cX11_liveSecond 20 = .ok (.iload 4, 2) := by decide +kernel
theorem dX11_liveSecond_22 : decode cX11_liveSecond 22 = .ok (.aaload, 1) := by decide +kernel
theorem dX11_liveSecond_23 : decode cX11_liveSecond 23 = .ok (.astore 5, 2) := by decide +kernel
theorem dX11_liveSecond_25 : decode cX11_liveSecond 25 = .ok (.aload 5, 2) := by decide +kernel
theorem dX11_liveSecond_27 : decode cX11_liveSecond 27 = .ok (.getfield 137, 3) := by decide +kernel
theorem dX11_liveSecond_30 : decode cX11_liveSecond 30 = .ok (.ifnull 18, 3) := by decide +kernel
theorem dX11_liveSecond_33 : decode cX11_liveSecond 33 = .ok (.aload_n 0, 1) := by decide +kernel
theorem dX11_liveSecond_34 : decode cX11_liveSecond 34 = .ok (.aload 5, 2) := by decide +kernel
theorem dX11_liveSecond_36 : decode cX11_liveSecond 36 = .ok (.getfield 137, 3) := by decide +kernel
theorem dX11_liveSecond_39 : decode cX11_liveSecond 39 = .ok (.invokevirtual 401, 3) := by decide +kernel
theorem dX11_liveSecond_42 : decode cX11_liveSecond 42 = .ok (.ifCond .ne 6, 3) := by decide +kernel
theorem dX11_liveSecond_45 : decode cX11_liveSecond 45 = .ok (.iinc 1 1, 3) := by decide +kernel
theorem dX11_liveSecond_48 : decode cX11_liveSecond 48 = .ok (.iinc 4 1, 3) := by decide +kernel
theorem dX11_liveSecond_51 : decode cX11_liveSecond 51 = .ok (.goto (-38), 3) := by decide +kernel
theorem dX11_liveSecond_54 : decode cX11_liveSecond 54 = .ok (.aload_n 0, 1) := by decide +kernel
theorem dX11_liveSecond_55 : decode cX11_liveSecond 55 = .ok (.dup, 1) := by decide +kernel
theorem dX11_liveSecond_56 : decode cX11_liveSecond 56 = .ok (.getfield 50, 3) := by decide +kernel
theorem dX11_liveSecond_59 : decode cX11_liveSecond 59 = .ok (.iconst 1, 1) := by decide +kernel
theorem dX11_liveSecond_60 : decode cX11_liveSecond 60 = .ok (.iadd, 1) := by decide +kernel
theorem dX11_liveSecond_61 : decode cX11_liveSecond 61 = .ok (.putfield 50, 3) := by decide +kernel
theorem dX11_liveSecond_64 : decode cX11_liveSecond 64 = .ok (.iload_n 1, 1) := by decide +kernel
theorem dX11_liveSecond_65 : decode cX11_liveSecond 65 = .ok (.ireturn, 1) := by decide +kernel
theorem dX11_isLived_0 : decode cX11_isLived 0 = .ok (.aload_n 0, 1) := by decide +kernel
theorem dX11_isLived_1 : decode cX11_isLived 1 = .ok (.aload_n 1, 1) := by decide +kernel
theorem dX11_isLived_2 : decode cX11_isLived 2 = .ok (.getfield 335, 3) := by decide +kernel
theorem dX11_isLived_5 : decode cX11_isLived 5 = .ok (.invokevirtual 284, 3) := by decide +kernel
theorem dX11_isLived_8 : decode cX11_isLived 8 = .ok (.istore_n 2, 1) := by decide +kernel
theorem dX11_isLived_9 : decode cX11_isLived 9 = .ok (.aload_n 0, 1) := by decide +kernel
theorem dX11_isLived_10 : decode cX11_isLived 10 = .ok (.aload_n 1, 1) := by decide +kernel
theorem dX11_isLived_11 : decode cX11_isLived 11 = .ok (.iload_n 2, 1) := by decide +kernel
theorem dX11_isLived_12 : decode cX11_isLived 12 = .ok (.invokevirtual 404, 3) := by decide +kernel
theorem dX11_isLived_15 : decode cX11_isLived 15 = .ok (.ifCond .ne 8, 3) := by decide +kernel
theorem dX11_isLived_18 : decode cX11_isLived 18 = .ok (.aload_n 0, 1) := by decide +kernel
theorem dX11_isLived_19 : decode cX11_isLived 19 = .ok (.aload_n 1, 1) := by decide +kernel
theorem dX11_isLived_20 : decode cX11_isLived 20 = .ok (.invokevirtual 395, 3) := by decide +kernel
theorem dX11_isLived_23 : decode cX11_isLived 23 = .ok (.aload_n 1, 1) := by decide +kernel
theorem dX11_isLived_24 : decode cX11_isLived 24 = .ok (.getfield 187, 3) := by decide +kernel
theorem dX11_isLived_27 : decode cX11_isLived 27 = .ok (.getfield 288, 3) := by decide +kernel
theorem dX11_isLived_30 : decode cX11_isLived 30 = .ok (.iconst 1, 1) := by decide +kernel
theorem dX11_isLived_31 : decode cX11_isLived 31 = .ok (.if_icmp .ge 19, 3) := by decide +kernel
theorem dX11_isLived_34 : decode cX11_isLived 34 = .ok (.aload_n 0, 1) := by decide +kernel
theorem dX11_isLived_35 : decode cX11_isLived 35 = .ok (.aload_n 1, 1) := by decide +kernel
theorem dX11_isLived_36 : decode cX11_isLived 36 = .ok (.invokevirtual 384, 3) := by decide +kernel
theorem dX11_isLived_39 : decode cX11_isLived 39 = .ok (.ifCond .ne 11, 3) := by decide +kernel
theorem dX11_isLived_42 : decode cX11_isLived 42 = .ok (.aload_n 0, 1) := by decide +kernel
theorem dX11_isLived_43 : decode cX11_isLived 43 = .ok (.aload_n 1, 1) := by decide +kernel
theorem dX11_isLived_44 : decode cX11_isLived 44 = .ok (.iconst 2, 1) := by decide +kernel
theorem dX11_isLived_45 : decode cX11_isLived 45 = .ok (.invokevirtual 261, 3) := by decide +kernel
theorem dX11_isLived_48 : decode cX11_isLived 48 = .ok (.iconst 0, 1) := by decide +kernel
theorem dX11_isLived_49 : decode cX11_isLived 49 = .ok (.ireturn, 1) := by decide +kernel
theorem dX11_isLived_50 : decode cX11_isLived 50 = .ok (.aload_n 1, 1) := by decide +kernel
theorem dX11_isLived_51 : decode cX11_isLived 51 = .ok (.iload_n 2, 1) := by decide +kernel
theorem dX11_isLived_52 : decode cX11_isLived 52 = .ok (.aload_n 0, 1) := by decide +kernel
theorem dX11_isLived_53 : decode cX11_isLived 53 = .ok (.getfield 50, 3) := by decide +kernel
theorem dX11_isLived_56 : decode cX11_isLived 56 = .ok (.invokestatic 167, 3) := by decide +kernel
theorem dX11_isLived_59 : decode cX11_isLived 59 = .ok (.invokevirtual 408, 3) := by decide +kernel
theorem dX11_isLived_62 : decode cX11_isLived 62 = .ok (.iconst 1, 1) := by decide +kernel
theorem dX11_isLived_63 : decode cX11_isLived 63 = .ok (.ireturn, 1) := by decide +kernel
theorem dX11_isSliceFit_0 : decode cX11_isSliceFit 0 = .ok (.aload_n 1, 1) := by decide +kernel
theorem dX11_isSliceFit_1 : decode cX11_isSliceFit 1 = .ok (.getfield 187, 3) := by decide +kernel
theorem dX11_isSliceFit_4 : decode cX11_isSliceFit 4 = .ok (.getfield 411, 3) := by decide +kernel
theorem dX11_isSliceFit_7 : decode cX11_isSliceFit 7 = .ok (.astore_n 3, 1) := by decide +kernel
theorem dX11_isSliceFit_8 : decode cX11_isSliceFit 8 = .ok (.aload_n 3, 1) := by decide +kernel
theorem dX11_isSliceFit_9 : decode cX11_isSliceFit 9 = .ok (.ifnonnull 20, 3) := by decide +kernel
theorem dX11_isSliceFit_12 : decode cX11_isSliceFit 12 = .ok (.aload_n 1, 1) := by decide +kernel
theorem dX11_isSliceFit_13 : decode cX11_isSliceFit 13 = .ok (.getfield 187, 3) := by decide +kernel
theorem dX11_isSliceFit_16 : decode cX11_isSliceFit 16 = .ok (.getfield 415, 3) := by decide +kernel
theorem dX11_isSliceFit_19 : decode cX11_isSliceFit 19 = .ok (.iload_n 2, 1) := by decide +kernel
theorem dX11_isSliceFit_20 : decode cX11_isSliceFit 20 = .ok (.if_icmp .ne 7, 3) := by decide +kernel
theorem dX11_isSliceFit_23 : decode cX11_isSliceFit 23 = .ok (.iconst 1, 1) := by decide +kernel
theorem dX11_isSliceFit_24 : decode cX11_isSliceFit 24 = .ok (.goto 4, 3) := by decide +kernel
theorem dX11_isSliceFit_27 : decode cX11_isSliceFit 27 = .ok (.iconst 0, 1) := by decide +kernel
theorem dX11_isSliceFit_28 : decode cX11_isSliceFit 28 = .ok (.ireturn, 1) := by decide +kernel
theorem dX11_isSliceFit_29 : decode cX11_isSliceFit 29 = .ok (.aload_n 3, 1) := by decide +kernel
theorem dX11_isSliceFit_30 : decode cX11_isSliceFit 30 = .ok (.aload_n 0, 1) := by decide +kernel
theorem dX11_isSliceFit_31 : decode cX11_isSliceFit 31 = .ok (.getfield 50, 3) := by decide +kernel
theorem dX11_isSliceFit_34 : decode cX11_isSliceFit 34 = .ok (.invokestatic 167, 3) := by decide +kernel
theorem dX11_isSliceFit_37 : decode cX11_isSliceFit 37 = .ok (.invokevirtual 208, 3) := by decide +kernel
theorem dX11_isSliceFit_40 : decode cX11_isSliceFit 40 = .ok (.ifCond .ne 24, 3) := by decide +kernel
theorem dX11_isSliceFit_43 : decode cX11_isSliceFit 43 = .ok (.aload_n 3, 1) := by decide +kernel
theorem dX11_isSliceFit_44 : decode cX11_isSliceFit 44 = .ok (.aload_n 1, 1) := by decide +kernel
theorem dX11_isSliceFit_45 : decode cX11_isSliceFit 45 = .ok (.getfield 335, 3) := by decide +kernel
theorem dX11_isSliceFit_48 : decode cX11_isSliceFit 48 = .ok (.getfield 219, 3) := by decide +kernel
theorem dX11_isSliceFit_51 : decode cX11_isSliceFit 51 = .ok (.getfield 87, 3) := by decide +kernel
theorem dX11_isSliceFit_54 : decode cX11_isSliceFit 54 = .ok (.invokevirtual 418, 3) := by decide +kernel
theorem dX11_isSliceFit_57 : decode cX11_isSliceFit 57 = .ok (.ifCond .eq 7, 3) := by decide +kernel
theorem dX11_isSliceFit_60 : decode cX11_isSliceFit 60 = .ok (.iconst 1, 1) := by decide +kernel
theorem dX11_isSliceFit_61 : decode cX11_isSliceFit 61 = .ok (.goto 4, 3) := by decide +kernel
theorem dX11_isSliceFit_64 : decode cX11_isSliceFit 64 = .ok (.iconst 0, 1) := by decide +kernel
theorem dX11_isSliceFit_65 : decode cX11_isSliceFit 65 = .ok (.ireturn, 1) := by decide +kernel
theorem dX11_giveBack_0 : decode cX11_giveBack 0 = .ok (.aload_n 1, 1) := by decide +kernel
theorem dX11_giveBack_1 : decode cX11_giveBack 1 = .ok (.getfield 187, 3) := by decide +kernel
theorem dX11_giveBack_4 : decode cX11_giveBack 4 = .ok (.astore_n 2, 1) := by decide +kernel
theorem dX11_giveBack_5 : decode cX11_giveBack 5 = .ok (.aload_n 2, 1) := by decide +kernel
theorem dX11_giveBack_6 : decode cX11_giveBack 6 = .ok (.getfield 411, 3) := by decide +kernel
theorem dX11_giveBack_9 : decode cX11_giveBack 9 = .ok (.ifnonnull 22, 3) := by decide +kernel
theorem dX11_giveBack_12 : decode cX11_giveBack 12 = .ok (.aload_n 1, 1) := by decide +kernel
theorem dX11_giveBack_13 : decode cX11_giveBack 13 = .ok (.getfield 182, 3) := by decide +kernel
theorem dX11_giveBack_16 : decode cX11_giveBack 16 = .ok (.dup, 1) := by decide +kernel
theorem dX11_giveBack_17 : decode cX11_giveBack 17 = .ok (.getfield 150, 3) := by decide +kernel
theorem dX11_giveBack_20 : decode cX11_giveBack 20 = .ok (.aload_n 2, 1) := by decide +kernel
theorem dX11_giveBack_21 : decode cX11_giveBack 21 = .ok (.invokevirtual 191, 3) := by decide +kernel
theorem dX11_giveBack_24 : decode cX11_giveBack 24 = .ok (.iadd, 1) := by decide +kernel
theorem dX11_giveBack_25 : decode cX11_giveBack 25 = .ok (.putfield 150, 3) := by decide +kernel
theorem dX11_giveBack_28 : decode cX11_giveBack 28 = .ok (.goto 36, 3) := by decide +kernel
theorem dX11_giveBack_31 : decode cX11_giveBack 31 = .ok (.aload_n 2, 1) := by decide +kernel
theorem dX11_giveBack_32 : decode cX11_giveBack 32 = .ok (.getfield 411, 3) := by decide +kernel
theorem dX11_giveBack_35 : decode cX11_giveBack 35 = .ok (.aload_n 0, 1) := by decide +kernel
theorem dX11_giveBack_36 : decode cX11_giveBack 36 = .ok (.getfield 50, 3) := by decide +kernel
theorem dX11_giveBack_39 : decode cX11_giveBack 39 = .ok (.invokestatic 167, 3) := by decide +kernel
theorem dX11_giveBack_42 : decode cX11_giveBack 42 = .ok (.invokevirtual 208, 3) := by decide +kernel
theorem dX11_giveBack_45 : decode cX11_giveBack 45 = .ok (.ifCond .ne 19, 3) := by decide +kernel
theorem dX11_giveBack_48 : decode cX11_giveBack 48 = .ok (.aload_n 2, 1) := by decide +kernel
theorem dX11_giveBack_49 : decode cX11_giveBack 49 = .ok (.getfield 411, 3) := by decide +kernel
theorem dX11_giveBack_52 : decode cX11_giveBack 52 = .ok (.dup, 1) := by decide +kernel
theorem dX11_giveBack_53 : decode cX11_giveBack 53 = .ok (.getfield 212, 3) := by decide +kernel
theorem dX11_giveBack_56 : decode cX11_giveBack 56 = .ok (.aload_n 2, 1) := by decide +kernel
theorem dX11_giveBack_57 : decode cX11_giveBack 57 = .ok (.getfield 288, 3) := by decide +kernel
theorem dX11_giveBack_60 : decode cX11_giveBack 60 = .ok (.iadd, 1) := by decide +kernel
theorem dX11_giveBack_61 : decode cX11_giveBack 61 = .ok (.putfield 212, 3) := by decide +kernel
theorem dX11_giveBack_64 : decode cX11_giveBack 64 = .ok (.aload_n 2, 1) := by decide +kernel
theorem dX11_giveBack_65 : decode cX11_giveBack 65 = .ok (.iconst 0, 1) := by decide +kernel
theorem dX11_giveBack_66 : decode cX11_giveBack 66 = .ok (.putfield 288, 3) := by decide +kernel
theorem dX11_giveBack_69 : decode cX11_giveBack 69 = .ok (.return_, 1) := by decide +kernel
theorem dX11_takeSlice_0 : decode cX11_takeSlice 0 = .ok (.aload_n 1, 1) := by decide +kernel
theorem dX11_takeSlice_1 : decode cX11_takeSlice 1 = .ok (.getfield 182, 3) := by decide +kernel
theorem dX11_takeSlice_4 : decode cX11_takeSlice 4 = .ok (.aload_n 1, 1) := by decide +kernel
theorem dX11_takeSlice_5 : decode cX11_takeSlice 5 = .ok (.getfield 335, 3) := by decide +kernel
theorem dX11_takeSlice_8 : decode cX11_takeSlice 8 = .ok (.getfield 219, 3) := by decide +kernel
theorem dX11_takeSlice_11 : decode cX11_takeSlice 11 = .ok (.getfield 87, 3) := by decide +kernel
theorem dX11_takeSlice_14 : decode cX11_takeSlice 14 = .ok (.aload_n 0, 1) := by decide +kernel
theorem dX11_takeSlice_15 : decode cX11_takeSlice 15 = .ok (.getfield 50, 3) := by decide +kernel
theorem dX11_takeSlice_18 : decode cX11_takeSlice 18 = .ok (.invokestatic 167, 3) := by decide +kernel
theorem dX11_takeSlice_21 : decode cX11_takeSlice 21 = .ok (.invokevirtual 422, 3) := by decide +kernel
theorem dX11_takeSlice_24 : decode cX11_takeSlice 24 = .ok (.astore_n 2, 1) := by decide +kernel
theorem dX11_takeSlice_25 : decode cX11_takeSlice 25 = .ok (.aload_n 2, 1) := by decide +kernel
theorem dX11_takeSlice_26 : decode cX11_takeSlice 26 = .ok (.ifnull 24, 3) := by decide +kernel
theorem dX11_takeSlice_29 : decode cX11_takeSlice 29 = .ok (.aload_n 1, 1) := by decide +kernel
theorem dX11_takeSlice_30 : decode cX11_takeSlice 30 = .ok (.getfield 187, 3) := by decide +kernel
theorem dX11_takeSlice_33 : decode cX11_takeSlice 33 = .ok (.aload_n 2, 1) := by decide +kernel
theorem dX11_takeSlice_34 : decode cX11_takeSlice 34 = .ok (.aload_n 0, 1) := by decide +kernel
theorem dX11_takeSlice_35 : decode cX11_takeSlice 35 = .ok (.getfield 46, 3) := by decide +kernel
theorem dX11_takeSlice_38 : decode cX11_takeSlice 38 = .ok (.aload_n 2, 1) := by decide +kernel
theorem dX11_takeSlice_39 : decode cX11_takeSlice 39 = .ok (.getfield 212, 3) := by decide +kernel
theorem dX11_takeSlice_42 : decode cX11_takeSlice 42 = .ok (.invokestatic 372, 3) := by decide +kernel
theorem dX11_takeSlice_45 : decode cX11_takeSlice 45 = .ok (.invokevirtual 426, 3) := by decide +kernel
theorem dX11_takeSlice_48 : decode cX11_takeSlice 48 = .ok (.iconst 1, 1) := by decide +kernel
theorem dX11_takeSlice_49 : decode cX11_takeSlice 49 = .ok (.ireturn, 1) := by decide +kernel
theorem dX11_takeSlice_50 : decode cX11_takeSlice 50 = .ok (.aload_n 0, 1) := by decide +kernel
theorem dX11_takeSlice_51 : decode cX11_takeSlice 51 = .ok (.aload_n 1, 1) := by decide +kernel
theorem dX11_takeSlice_52 : decode cX11_takeSlice 52 = .ok (.getfield 335, 3) := by decide +kernel
theorem dX11_takeSlice_55 : decode cX11_takeSlice 55 = .ok (.invokevirtual 284, 3) := by decide +kernel
theorem dX11_takeSlice_58 : decode cX11_takeSlice 58 = .ok (.istore_n 3, 1) := by decide +kernel
theorem dX11_takeSlice_59 : decode cX11_takeSlice 59 = .ok (.aload_n 0, 1) := by decide +kernel
theorem dX11_takeSlice_60 : decode cX11_takeSlice 60 = .ok (.getfield 46, 3) := by decide +kernel
theorem dX11_takeSlice_63 : decode cX11_takeSlice 63 = .ok (.istore 4, 2) := by decide +kernel
theorem dX11_takeSlice_65 : decode cX11_takeSlice 65 = .ok (.iload_n 3, 1) := by decide +kernel
theorem dX11_takeSlice_66 : decode cX11_takeSlice 66 = .ok (.ifCond .le 53, 3) := by decide +kernel
theorem dX11_takeSlice_69 : decode cX11_takeSlice 69 = .ok (.iload 4, 2) := by decide +kernel
theorem dX11_takeSlice_71 : decode cX11_takeSlice 71 = .ok (.aload_n 1, 1) := by decide +kernel
theorem dX11_takeSlice_72 : decode cX11_takeSlice 72 = .ok (.getfield 335, 3) := by decide +kernel
theorem dX11_takeSlice_75 : decode cX11_takeSlice 75 = .ok (.aload_n 0, 1) := by decide +kernel
theorem dX11_takeSlice_76 : decode cX11_takeSlice 76 = .ok (.getfield 50, 3) := by decide +kernel
theorem dX11_takeSlice_79 : decode cX11_takeSlice 79 = .ok (.invokestatic 167, 3) := by decide +kernel
theorem dX11_takeSlice_82 : decode cX11_takeSlice 82 = .ok (.invokevirtual 430, 3) := by decide +kernel
theorem dX11_takeSlice_85 : decode cX11_takeSlice 85 = .ok (.iload_n 3, 1) := by decide +kernel
theorem dX11_takeSlice_86 : decode cX11_takeSlice 86 = .ok (.idiv, 1) := by decide +kernel
theorem dX11_takeSlice_87 : decode cX11_takeSlice 87 = .ok (.invokestatic 372, 3) := by decide +kernel
theorem dX11_takeSlice_90 : decode cX11_takeSlice 90 = .ok (.istore 4, 2) := by decide +kernel
theorem dX11_takeSlice_92 : decode cX11_takeSlice 92 = .ok (.iload 4, 2) := by decide +kernel
theorem dX11_takeSlice_94 : decode cX11_takeSlice 94 = .ok (.ifCond .le 9, 3) := by decide +kernel
theorem dX11_takeSlice_97 : decode cX11_takeSlice 97 = .ok (.aload_n 0, 1) := by decide +kernel
theorem dX11_takeSlice_98 : decode cX11_takeSlice 98 = .ok (.aload_n 1, 1) := by decide +kernel
theorem dX11_takeSlice_99 : decode cX11_takeSlice 99 = .ok (.iload_n 3, 1) := by decide +kernel
theorem dX11_takeSlice_100 : decode cX11_takeSlice 100 = .ok (.invokevirtual 433, 3) := by decide +kernel
theorem dX11_takeSlice_103 : decode cX11_takeSlice 103 = .ok (.iload 4, 2) := by decide +kernel
theorem dX11_takeSlice_105 : decode cX11_takeSlice 105 = .ok (.aload_n 1, 1) := by decide +kernel
theorem dX11_takeSlice_106 : decode cX11_takeSlice 106 = .ok (.getfield 182, 3) := by decide +kernel
theorem dX11_takeSlice_109 : decode cX11_takeSlice 109 = .ok (.getfield 150, 3) := by decide +kernel
theorem dX11_takeSlice_112 : decode cX11_takeSlice 112 = .ok (.iload_n 3, 1) := by decide +kernel
theorem dX11_takeSlice_113 : decode cX11_takeSlice 113 = .ok (.idiv, 1) := by decide +kernel
theorem dX11_takeSlice_114 : decode cX11_takeSlice 114 = .ok (.invokestatic 372, 3) := by decide +kernel
theorem dX11_takeSlice_117 : decode cX11_takeSlice 117 = .ok (.istore 4, 2) := by decide +kernel
theorem dX11_takeSlice_119 : decode cX11_takeSlice 119 = .ok (.iload 4, 2) := by decide +kernel
theorem dX11_takeSlice_121 : decode cX11_takeSlice 121 = .ok (.iconst 1, 1) := by decide +kernel
theorem dX11_takeSlice_122 : decode cX11_takeSlice 122 = .ok (.if_icmp .ge 5, 3) := by decide +kernel
theorem dX11_takeSlice_125 : decode cX11_takeSlice 125 = .ok (.iconst 0, 1) := by decide +kernel
theorem dX11_takeSlice_126 : decode cX11_takeSlice 126 = .ok (.ireturn, 1) := by decide +kernel
theorem dX11_takeSlice_127 : decode cX11_takeSlice 127 = .ok (.aload_n 1, 1) := by decide +kernel
theorem dX11_takeSlice_128 : decode cX11_takeSlice 128 = .ok (.getfield 182, 3) := by decide +kernel
theorem dX11_takeSlice_131 : decode cX11_takeSlice 131 = .ok (.dup, 1) := by decide +kernel
theorem dX11_takeSlice_132 : decode cX11_takeSlice 132 = .ok (.getfield 150, 3) := by decide +kernel
theorem dX11_takeSlice_135 : decode cX11_takeSlice 135 = .ok (.iload 4, 2) := by decide +kernel
theorem dX11_takeSlice_137 : decode cX11_takeSlice 137 = .ok (.iload_n 3, 1) := by decide +kernel
theorem dX11_takeSlice_138 : decode cX11_takeSlice 138 = .ok (.imul, 1) := by decide +kernel
theorem dX11_takeSlice_139 : decode cX11_takeSlice 139 = .ok (.isub, 1) := by decide +kernel
theorem dX11_takeSlice_140 : decode cX11_takeSlice 140 = .ok (.putfield 150, 3) := by decide +kernel
theorem dX11_takeSlice_143 : decode cX11_takeSlice 143 = .ok (.aload_n 1, 1) := by decide +kernel
theorem dX11_takeSlice_144 : decode cX11_takeSlice 144 = .ok (.getfield 187, 3) := by decide +kernel
theorem dX11_takeSlice_147 : decode cX11_takeSlice 147 = .ok (.iload 4, 2) := by decide +kernel
theorem dX11_takeSlice_149 : decode cX11_takeSlice 149 = .ok (.iload_n 3, 1) := by decide +kernel
theorem dX11_takeSlice_150 : decode cX11_takeSlice 150 = .ok (.invokevirtual 436, 3) := by decide +kernel
theorem dX11_takeSlice_153 : decode cX11_takeSlice 153 = .ok (.iconst 1, 1) := by decide +kernel
theorem dX11_takeSlice_154 : decode cX11_takeSlice 154 = .ok (.ireturn, 1) := by decide +kernel
theorem dX11_raiseMoney_0 : decode cX11_raiseMoney 0 = .ok (.iconst 0, 1) := by decide +kernel
theorem dX11_raiseMoney_1 : decode cX11_raiseMoney 1 = .ok (.istore_n 3, 1) := by decide +kernel
theorem dX11_raiseMoney_2 : decode cX11_raiseMoney 2 = .ok (.iload_n 3, 1) := by decide +kernel
theorem dX11_raiseMoney_3 : decode cX11_raiseMoney 3 = .ok (.sipush 1000, 3) := by decide +kernel
theorem dX11_raiseMoney_6 : decode cX11_raiseMoney 6 = .ok (.if_icmp .ge 83, 3) := by decide +kernel
theorem dX11_raiseMoney_9 : decode cX11_raiseMoney 9 = .ok (.aload_n 1, 1) := by decide +kernel
theorem dX11_raiseMoney_10 : decode cX11_raiseMoney 10 = .ok (.getfield 182, 3) := by decide +kernel
theorem dX11_raiseMoney_13 : decode cX11_raiseMoney 13 = .ok (.getfield 150, 3) := by decide +kernel
theorem dX11_raiseMoney_16 : decode cX11_raiseMoney 16 = .ok (.iload_n 2, 1) := by decide +kernel
theorem dX11_raiseMoney_17 : decode cX11_raiseMoney 17 = .ok (.if_icmp .ge 72, 3) := by decide +kernel
theorem dX11_raiseMoney_20 : decode cX11_raiseMoney 20 = .ok (.aload_n 0, 1) := by decide +kernel
theorem dX11_raiseMoney_21 : decode cX11_raiseMoney 21 = .ok (.aload_n 1, 1) := by decide +kernel
theorem dX11_raiseMoney_22 : decode cX11_raiseMoney 22 = .ok (.invokevirtual 439, 3) := by decide +kernel
theorem dX11_raiseMoney_25 : decode cX11_raiseMoney 25 = .ok (.astore 4, 2) := by decide +kernel
theorem dX11_raiseMoney_27 : decode cX11_raiseMoney 27 = .ok (.aload 4, 2) := by decide +kernel
theorem dX11_raiseMoney_29 : decode cX11_raiseMoney 29 = .ok (.ifnonnull 4, 3) := by decide +kernel
theorem dX11_raiseMoney_32 : decode cX11_raiseMoney 32 = .ok (.return_, 1) := by decide +kernel
theorem dX11_raiseMoney_33 : decode cX11_raiseMoney 33 = .ok (.aload 4, 2) := by decide +kernel
theorem dX11_raiseMoney_35 : decode cX11_raiseMoney 35 = .ok (.getfield 187, 3) := by decide +kernel
theorem dX11_raiseMoney_38 : decode cX11_raiseMoney 38 = .ok (.getfield 288, 3) := by decide +kernel
theorem dX11_raiseMoney_41 : decode cX11_raiseMoney 41 = .ok (.iconst 2, 1) := by decide +kernel
theorem dX11_raiseMoney_42 : decode cX11_raiseMoney 42 = .ok (.idiv, 1) := by decide +kernel
theorem dX11_raiseMoney_43 : decode cX11_raiseMoney 43 = .ok (.istore 5, 2) := by decide +kernel
theorem dX11_raiseMoney_45 : decode cX11_raiseMoney 45 = .ok (.aload 4, 2) := by decide +kernel
theorem dX11_raiseMoney_47 : decode cX11_raiseMoney 47 = .ok (.getfield 187, 3) := by decide +kernel
theorem dX11_raiseMoney_50 : decode cX11_raiseMoney 50 = .ok (.dup, 1) := by decide +kernel
theorem dX11_raiseMoney_51 : decode cX11_raiseMoney 51 = .ok (.getfield 288, 3) := by decide +kernel
theorem dX11_raiseMoney_54 : decode cX11_raiseMoney 54 = .ok (.iload 5, 2) := by decide +kernel
theorem dX11_raiseMoney_56 : decode cX11_raiseMoney 56 = .ok (.isub, 1) := by decide +kernel
theorem dX11_raiseMoney_57 : decode cX11_raiseMoney 57 = .ok (.putfield 288, 3) := by decide +kernel
theorem dX11_raiseMoney_60 : decode cX11_raiseMoney 60 = .ok (.aload_n 1, 1) := by decide +kernel
theorem dX11_raiseMoney_61 : decode cX11_raiseMoney 61 = .ok (.getfield 182, 3) := by decide +kernel
theorem dX11_raiseMoney_64 : decode cX11_raiseMoney 64 = .ok (.dup, 1) := by decide +kernel
theorem dX11_raiseMoney_65 : decode cX11_raiseMoney 65 = .ok (.getfield 150, 3) := by decide +kernel
theorem dX11_raiseMoney_68 : decode cX11_raiseMoney 68 = .ok (.iload 5, 2) := by decide +kernel
theorem dX11_raiseMoney_70 : decode cX11_raiseMoney 70 = .ok (.aload 4, 2) := by decide +kernel
theorem dX11_raiseMoney_72 : decode cX11_raiseMoney 72 = .ok (.getfield 187, 3) := by decide +kernel
theorem dX11_raiseMoney_75 : decode cX11_raiseMoney 75 = .ok (.getfield 415, 3) := by decide +kernel
theorem dX11_raiseMoney_78 : decode cX11_raiseMoney 78 = .ok (.imul, 1) := by decide +kernel
theorem dX11_raiseMoney_79 : decode cX11_raiseMoney 79 = .ok (.iadd, 1) := by decide +kernel
theorem dX11_raiseMoney_80 : decode cX11_raiseMoney 80 = .ok (.putfield 150, 3) := by decide +kernel
theorem dX11_raiseMoney_83 : decode cX11_raiseMoney 83 = .ok (.iinc 3 1, 3) := by decide +kernel
theorem dX11_raiseMoney_86 : decode cX11_raiseMoney 86 = .ok (.goto (-84), 3) := by decide +kernel
theorem dX11_raiseMoney_89 : decode cX11_raiseMoney 89 = .ok (.return_, 1) := by decide +kernel
theorem dX11_findRichestOther_0 : decode cX11_findRichestOther 0 = .ok (.aconst_null, 1) := by decide +kernel
theorem dX11_findRichestOther_1 : decode cX11_findRichestOther 1 = .ok (.astore_n 2, 1) := by decide +kernel
theorem dX11_findRichestOther_2 : decode cX11_findRichestOther 2 = .ok (.iconst 0, 1) := by decide +kernel
theorem dX11_findRichestOther_3 : decode cX11_findRichestOther 3 = .ok (.istore_n 3, 1) := by decide +kernel
theorem dX11_findRichestOther_4 : decode cX11_findRichestOther 4 = .ok (.aload_n 0, 1) := by decide +kernel
theorem dX11_findRichestOther_5 : decode cX11_findRichestOther 5 = .ok (.getfield 29, 3) := by decide +kernel
theorem dX11_findRichestOther_8 : decode cX11_findRichestOther 8 = .ok (.astore 4, 2) := by decide +kernel
theorem dX11_findRichestOther_10 : decode cX11_findRichestOther 10 = .ok (.aload 4, 2) := by decide +kernel
theorem dX11_findRichestOther_12 : decode cX11_findRichestOther 12 = .ok (.arraylength, 1) := by decide +kernel
theorem dX11_findRichestOther_13 : decode cX11_findRichestOther 13 = .ok (.istore 5, 2) := by decide +kernel
theorem dX11_findRichestOther_15 : decode cX11_findRichestOther 15 = .ok (.iconst 0, 1) := by decide +kernel
theorem dX11_findRichestOther_16 : decode cX11_findRichestOther 16 = .ok (.istore 6, 2) := by decide +kernel
theorem dX11_findRichestOther_18 : decode cX11_findRichestOther 18 = .ok (.iload 6, 2) := by decide +kernel
theorem dX11_findRichestOther_20 : decode cX11_findRichestOther 20 = .ok (.iload 5, 2) := by decide +kernel
theorem dX11_findRichestOther_22 : decode cX11_findRichestOther 22 = .ok (.if_icmp .ge 82, 3) := by decide +kernel
theorem dX11_findRichestOther_25 : decode cX11_findRichestOther 25 = .ok (.aload 4, 2) := by decide +kernel
theorem dX11_findRichestOther_27 : decode cX11_findRichestOther 27 = .ok (.iload 6, 2) := by decide +kernel
theorem dX11_findRichestOther_29 : decode cX11_findRichestOther 29 = .ok (.aaload, 1) := by decide +kernel
theorem dX11_findRichestOther_30 : decode cX11_findRichestOther 30 = .ok (.astore 7, 2) := by decide +kernel
theorem dX11_findRichestOther_32 : decode cX11_findRichestOther 32 = .ok (.aload 7, 2) := by decide +kernel
theorem dX11_findRichestOther_34 : decode cX11_findRichestOther 34 = .ok (.getfield 137, 3) := by decide +kernel
theorem dX11_findRichestOther_37 : decode cX11_findRichestOther 37 = .ok (.astore 8, 2) := by decide +kernel
theorem dX11_findRichestOther_39 : decode cX11_findRichestOther 39 = .ok (.aload 8, 2) := by decide +kernel
theorem dX11_findRichestOther_41 : decode cX11_findRichestOther 41 = .ok (.ifnull 57, 3) := by decide +kernel
theorem dX11_findRichestOther_44 : decode cX11_findRichestOther 44 = .ok (.aload 8, 2) := by decide +kernel
theorem dX11_findRichestOther_46 : decode cX11_findRichestOther 46 = .ok (.aload_n 1, 1) := by decide +kernel
theorem dX11_findRichestOther_47 : decode cX11_findRichestOther 47 = .ok (.if_acmp .eq 51, 3) := by decide +kernel
theorem dX11_findRichestOther_50 : decode cX11_findRichestOther 50 = .ok (.aload 8, 2) := by decide +kernel
theorem dX11_findRichestOther_52 : decode cX11_findRichestOther 52 = .ok (.getfield 182, 3) := by decide +kernel
theorem dX11_findRichestOther_55 : decode cX11_findRichestOther 55 = .ok (.aload_n 1, 1) := by decide +kernel
theorem dX11_findRichestOther_56 : decode cX11_findRichestOther 56 = .ok (.getfield 182, 3) := by decide +kernel
theorem dX11_findRichestOther_59 : decode cX11_findRichestOther 59 = .ok (.if_acmp .ne 39, 3) := by decide +kernel
theorem dX11_findRichestOther_62 : decode cX11_findRichestOther 62 = .ok (.aload 8, 2) := by decide +kernel
theorem dX11_findRichestOther_64 : decode cX11_findRichestOther 64 = .ok (.getfield 187, 3) := by decide +kernel
theorem dX11_findRichestOther_67 : decode cX11_findRichestOther 67 = .ok (.getfield 288, 3) := by decide +kernel
theorem dX11_findRichestOther_70 : decode cX11_findRichestOther 70 = .ok (.iconst 2, 1) := by decide +kernel
theorem dX11_findRichestOther_71 : decode cX11_findRichestOther 71 = .ok (.if_icmp .lt 27, 3) := by decide +kernel
theorem dX11_findRichestOther_74 : decode cX11_findRichestOther 74 = .ok (.aload 8, 2) := by decide +kernel
theorem dX11_findRichestOther_76 : decode cX11_findRichestOther 76 = .ok (.getfield 187, 3) := by decide +kernel
theorem dX11_findRichestOther_79 : decode cX11_findRichestOther 79 = .ok (.invokevirtual 191, 3) := by decide +kernel
theorem dX11_findRichestOther_82 : decode cX11_findRichestOther 82 = .ok (.iload_n 3, 1) := by decide +kernel
theorem dX11_findRichestOther_83 : decode cX11_findRichestOther 83 = .ok (.if_icmp .le 15, 3) := by decide +kernel
theorem dX11_findRichestOther_86 : decode cX11_findRichestOther 86 = .ok (.aload 8, 2) := by decide +kernel
theorem dX11_findRichestOther_88 : decode cX11_findRichestOther 88 = .ok (.astore_n 2, 1) := by decide +kernel
theorem dX11_findRichestOther_89 : decode cX11_findRichestOther 89 = .ok (.aload 8, 2) := by decide +kernel
theorem dX11_findRichestOther_91 : decode cX11_findRichestOther 91 = .ok (.getfield 187, 3) := by decide +kernel
theorem dX11_findRichestOther_94 : decode cX11_findRichestOther 94 = .ok (.invokevirtual 191, 3) := by decide +kernel
theorem dX11_findRichestOther_97 : decode cX11_findRichestOther 97 = .ok (.istore_n 3, 1) := by decide +kernel
theorem dX11_findRichestOther_98 : decode cX11_findRichestOther 98 = .ok (.iinc 6 1, 3) := by decide +kernel
theorem dX11_findRichestOther_101 : decode cX11_findRichestOther 101 = .ok (.goto (-83), 3) := by decide +kernel
theorem dX11_findRichestOther_104 : decode cX11_findRichestOther 104 = .ok (.aload_n 2, 1) := by decide +kernel
theorem dX11_findRichestOther_105 : decode cX11_findRichestOther 105 = .ok (.areturn, 1) := by decide +kernel
theorem dJ5_init_d00df_0 : decode cJ5_init_d00df 0 = .ok (.aload_n 0, 1) := by decide +kernel
theorem dJ5_init_d00df_1 : decode cJ5_init_d00df 1 = .ok (.invokespecial 3, 3) := by decide +kernel
theorem dJ5_init_d00df_4 : decode cJ5_init_d00df 4 = .ok (.getstatic 18, 3) := by decide +kernel
theorem dJ5_init_d00df_7 : decode cJ5_init_d00df 7 = .ok (.ifCond .eq 18, 3) := by decide +kernel
theorem dJ5_init_d00df_10 : decode cJ5_init_d00df 10 = .ok (.aload_n 0, 1) := by decide +kernel
theorem dJ5_init_d00df_11 : decode cJ5_init_d00df 11 = .ok (.iload_n 1, 1) := by decide +kernel
theorem dJ5_init_d00df_12 : decode cJ5_init_d00df 12 = .ok (.newarray .byte, 2) := by decide +kernel
theorem dJ5_init_d00df_14 : decode cJ5_init_d00df 14 = .ok (.putfield 15, 3) := by decide +kernel
theorem dJ5_init_d00df_17 : decode cJ5_init_d00df 17 = .ok (.aload_n 0, 1) := by decide +kernel
theorem dJ5_init_d00df_18 : decode cJ5_init_d00df 18 = .ok (.iconst 0, 1) := by decide +kernel
theorem dJ5_init_d00df_19 : decode cJ5_init_d00df 19 = .ok (.putfield 22, 3) := by decide +kernel
theorem dJ5_init_d00df_22 : decode cJ5_init_d00df 22 = .ok (.goto 16, 3) := by decide +kernel
theorem dJ5_init_d00df_25 : decode cJ5_init_d00df 25 = .ok (.aload_n 0, 1) := by decide +kernel
theorem dJ5_init_d00df_26 : decode cJ5_init_d00df 26 = .ok (.iload_n 1, 1) := by decide +kernel
theorem dJ5_init_d00df_27 : decode cJ5_init_d00df 27 = .ok (.invokestatic 26, 3) := by decide +kernel
theorem dJ5_init_d00df_30 : decode cJ5_init_d00df 30 = .ok (.putfield 15, 3) := by decide +kernel
theorem dJ5_init_d00df_33 : decode cJ5_init_d00df 33 = .ok (.aload_n 0, 1) := by decide +kernel
theorem dJ5_init_d00df_34 : decode cJ5_init_d00df 34 = .ok (.iconst 1, 1) := by decide +kernel
theorem dJ5_init_d00df_35 : decode cJ5_init_d00df 35 = .ok (.putfield 22, 3) := by decide +kernel
theorem dJ5_init_d00df_38 : decode cJ5_init_d00df 38 = .ok (.return_, 1) := by decide +kernel
theorem dJ5_length_8abf5_0 : decode cJ5_length_8abf5 0 = .ok (.aload_n 0, 1) := by decide +kernel
theorem dJ5_length_8abf5_1 : decode cJ5_length_8abf5 1 = .ok (.getfield 79, 3) := by decide +kernel
theorem dJ5_length_8abf5_4 : decode cJ5_length_8abf5 4 = .ok (.ireturn, 1) := by decide +kernel
theorem dJ5_ensureCapacityInternal_d00df_0 : decode cJ5_ensureCapacityInternal_d00df 0 = .ok (.aload_n 0, 1) := by decide +kernel
theorem dJ5_ensureCapacityInternal_d00df_1 : decode cJ5_ensureCapacityInternal_d00df 1 = .ok (.getfield 15, 3) := by decide +kernel
theorem dJ5_ensureCapacityInternal_d00df_4 : decode cJ5_ensureCapacityInternal_d00df 4 = .ok (.arraylength, 1) := by decide +kernel
theorem dJ5_ensureCapacityInternal_d00df_5 : decode cJ5_ensureCapacityInternal_d00df 5 = .ok (.aload_n 0, 1) := by decide +kernel
theorem dJ5_ensureCapacityInternal_d00df_6 : decode cJ5_ensureCapacityInternal_d00df 6 = .ok (.getfield 22, 3) := by decide +kernel
theorem dJ5_ensureCapacityInternal_d00df_9 : decode cJ5_ensureCapacityInternal_d00df 9 = .ok (.ishr, 1) := by decide +kernel
theorem dJ5_ensureCapacityInternal_d00df_10 : decode cJ5_ensureCapacityInternal_d00df 10 = .ok (.istore_n 2, 1) := by decide +kernel
theorem dJ5_ensureCapacityInternal_d00df_11 : decode cJ5_ensureCapacityInternal_d00df 11 = .ok (.iload_n 1, 1) := by decide +kernel
theorem dJ5_ensureCapacityInternal_d00df_12 : decode cJ5_ensureCapacityInternal_d00df 12 = .ok (.iload_n 2, 1) := by decide +kernel
theorem dJ5_ensureCapacityInternal_d00df_13 : decode cJ5_ensureCapacityInternal_d00df 13 = .ok (.isub, 1) := by decide +kernel
theorem dJ5_ensureCapacityInternal_d00df_14 : decode cJ5_ensureCapacityInternal_d00df 14 = .ok (.ifCond .le 24, 3) := by decide +kernel
theorem dJ5_ensureCapacityInternal_d00df_17 : decode cJ5_ensureCapacityInternal_d00df 17 = .ok (.aload_n 0, 1) := by decide +kernel
theorem dJ5_ensureCapacityInternal_d00df_18 : decode cJ5_ensureCapacityInternal_d00df 18 = .ok (.aload_n 0, 1) := by decide +kernel
theorem dJ5_ensureCapacityInternal_d00df_19 : decode cJ5_ensureCapacityInternal_d00df 19 = .ok (.getfield 15, 3) := by decide +kernel
theorem dJ5_ensureCapacityInternal_d00df_22 : decode cJ5_ensureCapacityInternal_d00df 22 = .ok (.aload_n 0, 1) := by decide +kernel
theorem dJ5_ensureCapacityInternal_d00df_23 : decode cJ5_ensureCapacityInternal_d00df 23 = .ok (.iload_n 1, 1) := by decide +kernel
theorem dJ5_ensureCapacityInternal_d00df_24 : decode cJ5_ensureCapacityInternal_d00df 24 = .ok (.invokevirtual 104, 3) := by decide +kernel
theorem dJ5_ensureCapacityInternal_d00df_27 : decode cJ5_ensureCapacityInternal_d00df 27 = .ok (.aload_n 0, 1) := by decide +kernel
theorem dJ5_ensureCapacityInternal_d00df_28 : decode cJ5_ensureCapacityInternal_d00df 28 = .ok (.getfield 22, 3) := by decide +kernel
theorem dJ5_ensureCapacityInternal_d00df_31 : decode cJ5_ensureCapacityInternal_d00df 31 = .ok (.ishl, 1) := by decide +kernel
theorem dJ5_ensureCapacityInternal_d00df_32 : decode cJ5_ensureCapacityInternal_d00df 32 = .ok (.invokestatic 108, 3) := by decide +kernel
theorem dJ5_ensureCapacityInternal_d00df_35 : decode cJ5_ensureCapacityInternal_d00df 35 = .ok (.putfield 15, 3) := by decide +kernel
theorem dJ5_ensureCapacityInternal_d00df_38 : decode cJ5_ensureCapacityInternal_d00df 38 = .ok (.return_, 1) := by decide +kernel
theorem dJ5_newCapacity_0f7a4_0 : decode cJ5_newCapacity_0f7a4 0 = .ok (.aload_n 0, 1) := by decide +kernel
theorem dJ5_newCapacity_0f7a4_1 : decode cJ5_newCapacity_0f7a4 1 = .ok (.getfield 15, 3) := by decide +kernel
theorem dJ5_newCapacity_0f7a4_4 : decode cJ5_newCapacity_0f7a4 4 = .ok (.arraylength, 1) := by decide +kernel
theorem dJ5_newCapacity_0f7a4_5 : decode cJ5_newCapacity_0f7a4 5 = .ok (.istore_n 2, 1) := by decide +kernel
theorem dJ5_newCapacity_0f7a4_6 : decode cJ5_newCapacity_0f7a4 6 = .ok (.iload_n 1, 1) := by decide +kernel
theorem dJ5_newCapacity_0f7a4_7 : decode cJ5_newCapacity_0f7a4 7 = .ok (.aload_n 0, 1) := by decide +kernel
theorem dJ5_newCapacity_0f7a4_8 : decode cJ5_newCapacity_0f7a4 8 = .ok (.getfield 22, 3) := by decide +kernel
theorem dJ5_newCapacity_0f7a4_11 : decode cJ5_newCapacity_0f7a4 11 = .ok (.ishl, 1) := by decide +kernel
theorem dJ5_newCapacity_0f7a4_12 : decode cJ5_newCapacity_0f7a4 12 = .ok (.istore_n 3, 1) := by decide +kernel
theorem dJ5_newCapacity_0f7a4_13 : decode cJ5_newCapacity_0f7a4 13 = .ok (.iload_n 3, 1) := by decide +kernel
theorem dJ5_newCapacity_0f7a4_14 : decode cJ5_newCapacity_0f7a4 14 = .ok (.iload_n 2, 1) := by decide +kernel
theorem dJ5_newCapacity_0f7a4_15 : decode cJ5_newCapacity_0f7a4 15 = .ok (.isub, 1) := by decide +kernel
theorem dJ5_newCapacity_0f7a4_16 : decode cJ5_newCapacity_0f7a4 16 = .ok (.istore 4, 2) := by decide +kernel
theorem dJ5_newCapacity_0f7a4_18 : decode cJ5_newCapacity_0f7a4 18 = .ok (.iload_n 2, 1) := by decide +kernel
theorem dJ5_newCapacity_0f7a4_19 : decode cJ5_newCapacity_0f7a4 19 = .ok (.iload 4, 2) := by decide +kernel
theorem dJ5_newCapacity_0f7a4_21 : decode cJ5_newCapacity_0f7a4 21 = .ok (.iload_n 2, 1) := by decide +kernel
theorem dJ5_newCapacity_0f7a4_22 : decode cJ5_newCapacity_0f7a4 22 = .ok (.iconst 2, 1) := by decide +kernel
theorem dJ5_newCapacity_0f7a4_23 : decode cJ5_newCapacity_0f7a4 23 = .ok (.aload_n 0, 1) := by decide +kernel
theorem dJ5_newCapacity_0f7a4_24 : decode cJ5_newCapacity_0f7a4 24 = .ok (.getfield 22, 3) := by decide +kernel
theorem dJ5_newCapacity_0f7a4_27 : decode cJ5_newCapacity_0f7a4 27 = .ok (.ishl, 1) := by decide +kernel
theorem dJ5_newCapacity_0f7a4_28 : decode cJ5_newCapacity_0f7a4 28 = .ok (.iadd, 1) := by decide +kernel
theorem dJ5_newCapacity_0f7a4_29 : decode cJ5_newCapacity_0f7a4 29 = .ok (.invokestatic 114, 3) := by decide +kernel
theorem dJ5_newCapacity_0f7a4_32 : decode cJ5_newCapacity_0f7a4 32 = .ok (.istore 5, 2) := by decide +kernel
theorem dJ5_newCapacity_0f7a4_34 : decode cJ5_newCapacity_0f7a4 34 = .ok (.iload 5, 2) := by decide +kernel
theorem dJ5_newCapacity_0f7a4_36 : decode cJ5_newCapacity_0f7a4 36 = .ok (.ldc 39, 2) := by decide +kernel
theorem dJ5_newCapacity_0f7a4_38 : decode cJ5_newCapacity_0f7a4 38 = .ok (.if_icmp .ne 13, 3) := by decide +kernel
theorem dJ5_newCapacity_0f7a4_41 : decode cJ5_newCapacity_0f7a4 41 = .ok (.new 120, 3) := by decide +kernel
theorem dJ5_newCapacity_0f7a4_44 : decode cJ5_newCapacity_0f7a4 44 = .ok (.dup, 1) := by decide +kernel
theorem dJ5_newCapacity_0f7a4_45 : decode cJ5_newCapacity_0f7a4 45 = .ok (.ldc 122, 2) := by decide +kernel
theorem dJ5_newCapacity_0f7a4_47 : decode cJ5_newCapacity_0f7a4 47 = .ok (.invokespecial 124, 3) := by decide +kernel
theorem dJ5_newCapacity_0f7a4_50 : decode cJ5_newCapacity_0f7a4 50 = .ok (.athrow, 1) := by decide +kernel
theorem dJ5_newCapacity_0f7a4_51 : decode cJ5_newCapacity_0f7a4 51 = .ok (.iload 5, 2) := by decide +kernel
theorem dJ5_newCapacity_0f7a4_53 : decode cJ5_newCapacity_0f7a4 53 = .ok (.aload_n 0, 1) := by decide +kernel
theorem dJ5_newCapacity_0f7a4_54 : decode cJ5_newCapacity_0f7a4 54 = .ok (.getfield 22, 3) := by decide +kernel
theorem dJ5_newCapacity_0f7a4_57 : decode cJ5_newCapacity_0f7a4 57 = .ok (.ishr, 1) := by decide +kernel
theorem dJ5_newCapacity_0f7a4_58 : decode cJ5_newCapacity_0f7a4 58 = .ok (.ireturn, 1) := by decide +kernel
theorem dJ5_inflate_da8c8_0 : decode cJ5_inflate_da8c8 0 = .ok (.aload_n 0, 1) := by decide +kernel
theorem dJ5_inflate_da8c8_1 : decode cJ5_inflate_da8c8 1 = .ok (.invokevirtual 83, 3) := by decide +kernel
theorem dJ5_inflate_da8c8_4 : decode cJ5_inflate_da8c8 4 = .ok (.ifCond .ne 4, 3) := by decide +kernel
theorem dJ5_inflate_da8c8_7 : decode cJ5_inflate_da8c8 7 = .ok (.return_, 1) := by decide +kernel
theorem dJ5_inflate_da8c8_8 : decode cJ5_inflate_da8c8 8 = .ok (.aload_n 0, 1) := by decide +kernel
theorem dJ5_inflate_da8c8_9 : decode cJ5_inflate_da8c8 9 = .ok (.getfield 15, 3) := by decide +kernel
theorem dJ5_inflate_da8c8_12 : decode cJ5_inflate_da8c8 12 = .ok (.arraylength, 1) := by decide +kernel
theorem dJ5_inflate_da8c8_13 : decode cJ5_inflate_da8c8 13 = .ok (.invokestatic 26, 3) := by decide +kernel
theorem dJ5_inflate_da8c8_16 : decode cJ5_inflate_da8c8 16 = .ok (.astore_n 1, 1) := by decide +kernel
theorem dJ5_inflate_da8c8_17 : decode cJ5_inflate_da8c8 17 = .ok (.aload_n 0, 1) := by decide +kernel
theorem dJ5_inflate_da8c8_18 : decode cJ5_inflate_da8c8 18 = .ok (.getfield 15, 3) := by decide +kernel
theorem dJ5_inflate_da8c8_21 : decode cJ5_inflate_da8c8 21 = .ok (.iconst 0, 1) := by decide +kernel
theorem dJ5_inflate_da8c8_22 : decode cJ5_inflate_da8c8 22 = .ok (.aload_n 1, 1) := by decide +kernel
theorem dJ5_inflate_da8c8_23 : decode cJ5_inflate_da8c8 23 = .ok (.iconst 0, 1) := by decide +kernel
theorem dJ5_inflate_da8c8_24 : decode cJ5_inflate_da8c8 24 = .ok (.aload_n 0, 1) := by decide +kernel
theorem dJ5_inflate_da8c8_25 : decode cJ5_inflate_da8c8 25 = .ok (.getfield 79, 3) := by decide +kernel
theorem dJ5_inflate_da8c8_28 : decode cJ5_inflate_da8c8 28 = .ok (.invokestatic 125, 3) := by decide +kernel
theorem dJ5_inflate_da8c8_31 : decode cJ5_inflate_da8c8 31 = .ok (.aload_n 0, 1) := by decide +kernel
theorem dJ5_inflate_da8c8_32 : decode cJ5_inflate_da8c8 32 = .ok (.aload_n 1, 1) := by decide +kernel
theorem dJ5_inflate_da8c8_33 : decode cJ5_inflate_da8c8 33 = .ok (.putfield 15, 3) := by decide +kernel
theorem dJ5_inflate_da8c8_36 : decode cJ5_inflate_da8c8 36 = .ok (.aload_n 0, 1) := by decide +kernel
theorem dJ5_inflate_da8c8_37 : decode cJ5_inflate_da8c8 37 = .ok (.iconst 1, 1) := by decide +kernel
theorem dJ5_inflate_da8c8_38 : decode cJ5_inflate_da8c8 38 = .ok (.putfield 22, 3) := by decide +kernel
theorem dJ5_inflate_da8c8_41 : decode cJ5_inflate_da8c8 41 = .ok (.return_, 1) := by decide +kernel
theorem dJ5_charAt_5068e_0 : decode cJ5_charAt_5068e 0 = .ok (.aload_n 0, 1) := by decide +kernel
theorem dJ5_charAt_5068e_1 : decode cJ5_charAt_5068e 1 = .ok (.getfield 22, 3) := by decide +kernel
theorem dJ5_charAt_5068e_4 : decode cJ5_charAt_5068e 4 = .ok (.istore_n 2, 1) := by decide +kernel
theorem dJ5_charAt_5068e_5 : decode cJ5_charAt_5068e 5 = .ok (.aload_n 0, 1) := by decide +kernel
theorem dJ5_charAt_5068e_6 : decode cJ5_charAt_5068e 6 = .ok (.getfield 15, 3) := by decide +kernel
theorem dJ5_charAt_5068e_9 : decode cJ5_charAt_5068e 9 = .ok (.astore_n 3, 1) := by decide +kernel
theorem dJ5_charAt_5068e_10 : decode cJ5_charAt_5068e 10 = .ok (.aload_n 0, 1) := by decide +kernel
theorem dJ5_charAt_5068e_11 : decode cJ5_charAt_5068e 11 = .ok (.getfield 79, 3) := by decide +kernel
theorem dJ5_charAt_5068e_14 : decode cJ5_charAt_5068e 14 = .ok (.aload_n 3, 1) := by decide +kernel
theorem dJ5_charAt_5068e_15 : decode cJ5_charAt_5068e 15 = .ok (.arraylength, 1) := by decide +kernel
theorem dJ5_charAt_5068e_16 : decode cJ5_charAt_5068e 16 = .ok (.iload_n 2, 1) := by decide +kernel
theorem dJ5_charAt_5068e_17 : decode cJ5_charAt_5068e 17 = .ok (.ishr, 1) := by decide +kernel
theorem dJ5_charAt_5068e_18 : decode cJ5_charAt_5068e 18 = .ok (.invokestatic 138, 3) := by decide +kernel
theorem dJ5_charAt_5068e_21 : decode cJ5_charAt_5068e 21 = .ok (.istore 4, 2) := by decide +kernel
theorem dJ5_charAt_5068e_23 : decode cJ5_charAt_5068e 23 = .ok (.iload_n 1, 1) := by decide +kernel
theorem dJ5_charAt_5068e_24 : decode cJ5_charAt_5068e 24 = .ok (.iload 4, 2) := by decide +kernel
theorem dJ5_charAt_5068e_26 : decode cJ5_charAt_5068e 26 = .ok (.invokestatic 144, 3) := by decide +kernel
theorem dJ5_charAt_5068e_29 : decode cJ5_charAt_5068e 29 = .ok (.iload_n 2, 1) := by decide +kernel
theorem dJ5_charAt_5068e_30 : decode cJ5_charAt_5068e 30 = .ok (.ifCond .ne 12, 3) := by decide +kernel
theorem dJ5_charAt_5068e_33 : decode cJ5_charAt_5068e 33 = .ok (.aload_n 3, 1) := by decide +kernel
theorem dJ5_charAt_5068e_34 : decode cJ5_charAt_5068e 34 = .ok (.iload_n 1, 1) := by decide +kernel
theorem dJ5_charAt_5068e_35 : decode cJ5_charAt_5068e 35 = .ok (.baload, 1) := by decide +kernel
theorem dJ5_charAt_5068e_36 : decode cJ5_charAt_5068e 36 = .ok (.sipush 255, 3) := by decide +kernel
theorem dJ5_charAt_5068e_39 : decode cJ5_charAt_5068e 39 = .ok (.iand, 1) := by decide +kernel
theorem dJ5_charAt_5068e_40 : decode cJ5_charAt_5068e 40 = .ok (.i2c, 1) := by decide +kernel
theorem dJ5_charAt_5068e_41 : decode cJ5_charAt_5068e 41 = .ok (.ireturn, 1) := by decide +kernel
theorem dJ5_charAt_5068e_42 : decode cJ5_charAt_5068e 42 = .ok (.aload_n 3, 1) := by decide +kernel
theorem dJ5_charAt_5068e_43 : decode cJ5_charAt_5068e 43 = .ok (.iload_n 1, 1) := by decide +kernel
theorem dJ5_charAt_5068e_44 : decode cJ5_charAt_5068e 44 = .ok (.invokestatic 148, 3) := by decide +kernel
theorem dJ5_charAt_5068e_47 : decode cJ5_charAt_5068e 47 = .ok (.ireturn, 1) := by decide +kernel
theorem dJ5_append_3fe6f_0 : decode cJ5_append_3fe6f 0 = .ok (.aload_n 0, 1) := by decide +kernel
theorem dJ5_append_3fe6f_1 : decode cJ5_append_3fe6f 1 = .ok (.aload_n 0, 1) := by decide +kernel
theorem dJ5_append_3fe6f_2 : decode cJ5_append_3fe6f 2 = .ok (.getfield 79, 3) := by decide +kernel
theorem dJ5_append_3fe6f_5 : decode cJ5_append_3fe6f 5 = .ok (.iconst 1, 1) := by decide +kernel
theorem dJ5_append_3fe6f_6 : decode cJ5_append_3fe6f 6 = .ok (.iadd, 1) := by decide +kernel
theorem dJ5_append_3fe6f_7 : decode cJ5_append_3fe6f 7 = .ok (.invokevirtual 100, 3) := by decide +kernel
theorem dJ5_append_3fe6f_10 : decode cJ5_append_3fe6f 10 = .ok (.aload_n 0, 1) := by decide +kernel
theorem dJ5_append_3fe6f_11 : decode cJ5_append_3fe6f 11 = .ok (.invokevirtual 83, 3) := by decide +kernel
theorem dJ5_append_3fe6f_14 : decode cJ5_append_3fe6f 14 = .ok (.ifCond .eq 31, 3) := by decide +kernel
theorem dJ5_append_3fe6f_17 : decode cJ5_append_3fe6f 17 = .ok (.iload_n 1, 1) := by decide +kernel
theorem dJ5_append_3fe6f_18 : decode cJ5_append_3fe6f 18 = .ok (.invokestatic 191, 3) := by decide +kernel
theorem dJ5_append_3fe6f_21 : decode cJ5_append_3fe6f 21 = .ok (.ifCond .eq 24, 3) := by decide +kernel
theorem dJ5_append_3fe6f_24 : decode cJ5_append_3fe6f 24 = .ok (.aload_n 0, 1) := by decide +kernel
theorem dJ5_append_3fe6f_25 : decode cJ5_append_3fe6f 25 = .ok (.getfield 15, 3) := by decide +kernel
theorem dJ5_append_3fe6f_28 : decode cJ5_append_3fe6f 28 = .ok (.aload_n 0, 1) := by decide +kernel
theorem dJ5_append_3fe6f_29 : decode cJ5_append_3fe6f 29 = .ok (.dup, 1) := by decide +kernel
theorem dJ5_append_3fe6f_30 : decode cJ5_append_3fe6f 30 = .ok (.getfield 79, 3) := by decide +kernel
theorem dJ5_append_3fe6f_33 : decode cJ5_append_3fe6f 33 = .ok (.dup_x1, 1) := by decide +kernel
theorem dJ5_append_3fe6f_34 : decode cJ5_append_3fe6f 34 = .ok (.iconst 1, 1) := by decide +kernel
theorem dJ5_append_3fe6f_35 : decode cJ5_append_3fe6f 35 = .ok (.iadd, 1) := by decide +kernel
theorem dJ5_append_3fe6f_36 : decode cJ5_append_3fe6f 36 = .ok (.putfield 79, 3) := by decide +kernel
theorem dJ5_append_3fe6f_39 : decode cJ5_append_3fe6f 39 = .ok (.iload_n 1, 1) := by decide +kernel
theorem dJ5_append_3fe6f_40 : decode cJ5_append_3fe6f 40 = .ok (.i2b, 1) := by decide +kernel
theorem dJ5_append_3fe6f_41 : decode cJ5_append_3fe6f 41 = .ok (.bastore, 1) := by decide +kernel
theorem dJ5_append_3fe6f_42 : decode cJ5_append_3fe6f 42 = .ok (.goto 33, 3) := by decide +kernel
theorem dJ5_append_3fe6f_45 : decode cJ5_append_3fe6f 45 = .ok (.aload_n 0, 1) := by decide +kernel
theorem dJ5_append_3fe6f_46 : decode cJ5_append_3fe6f 46 = .ok (.invokevirtual 83, 3) := by decide +kernel
theorem dJ5_append_3fe6f_49 : decode cJ5_append_3fe6f 49 = .ok (.ifCond .eq 7, 3) := by decide +kernel
theorem dJ5_append_3fe6f_52 : decode cJ5_append_3fe6f 52 = .ok (.aload_n 0, 1) := by decide +kernel
theorem dJ5_append_3fe6f_53 : decode cJ5_append_3fe6f 53 = .ok (.invokevirtual 195, 3) := by decide +kernel
theorem dJ5_append_3fe6f_56 : decode cJ5_append_3fe6f 56 = .ok (.aload_n 0, 1) := by decide +kernel
theorem dJ5_append_3fe6f_57 : decode cJ5_append_3fe6f 57 = .ok (.getfield 15, 3) := by decide +kernel
theorem dJ5_append_3fe6f_60 : decode cJ5_append_3fe6f 60 = .ok (.aload_n 0, 1) := by decide +kernel
theorem dJ5_append_3fe6f_61 : decode cJ5_append_3fe6f 61 = .ok (.dup, 1) := by decide +kernel
theorem dJ5_append_3fe6f_62 : decode cJ5_append_3fe6f 62 = .ok (.getfield 79, 3) := by decide +kernel
theorem dJ5_append_3fe6f_65 : decode cJ5_append_3fe6f 65 = .ok (.dup_x1, 1) := by decide +kernel
theorem dJ5_append_3fe6f_66 : decode cJ5_append_3fe6f 66 = .ok (.iconst 1, 1) := by decide +kernel
theorem dJ5_append_3fe6f_67 : decode cJ5_append_3fe6f 67 = .ok (.iadd, 1) := by decide +kernel
theorem dJ5_append_3fe6f_68 : decode cJ5_append_3fe6f 68 = .ok (.putfield 79, 3) := by decide +kernel
theorem dJ5_append_3fe6f_71 : decode cJ5_append_3fe6f 71 = .ok (.iload_n 1, 1) := by decide +kernel
theorem dJ5_append_3fe6f_72 : decode cJ5_append_3fe6f 72 = .ok (.invokestatic 197, 3) := by decide +kernel
theorem dJ5_append_3fe6f_75 : decode cJ5_append_3fe6f 75 = .ok (.aload_n 0, 1) := by decide +kernel
theorem dJ5_append_3fe6f_76 : decode cJ5_append_3fe6f 76 = .ok (.areturn, 1) := by decide +kernel
theorem dJ5_append_c97b9_0 : decode cJ5_append_c97b9 0 = .ok (.aload_n 0, 1) := by decide +kernel
theorem dJ5_append_c97b9_1 : decode cJ5_append_c97b9 1 = .ok (.getfield 79, 3) := by decide +kernel
theorem dJ5_append_c97b9_4 : decode cJ5_append_c97b9 4 = .ok (.istore_n 2, 1) := by decide +kernel
theorem dJ5_append_c97b9_5 : decode cJ5_append_c97b9 5 = .ok (.iload_n 2, 1) := by decide +kernel
theorem dJ5_append_c97b9_6 : decode cJ5_append_c97b9 6 = .ok (.iload_n 1, 1) := by decide +kernel
theorem dJ5_append_c97b9_7 : decode cJ5_append_c97b9 7 = .ok (.invokestatic 245, 3) := by decide +kernel
theorem dJ5_append_c97b9_10 : decode cJ5_append_c97b9 10 = .ok (.iadd, 1) := by decide +kernel
theorem dJ5_append_c97b9_11 : decode cJ5_append_c97b9 11 = .ok (.istore_n 3, 1) := by decide +kernel
theorem dJ5_append_c97b9_12 : decode cJ5_append_c97b9 12 = .ok (.aload_n 0, 1) := by decide +kernel
theorem dJ5_append_c97b9_13 : decode cJ5_append_c97b9 13 = .ok (.iload_n 3, 1) := by decide +kernel
theorem dJ5_append_c97b9_14 : decode cJ5_append_c97b9 14 = .ok (.invokevirtual 100, 3) := by decide +kernel
theorem dJ5_append_c97b9_17 : decode cJ5_append_c97b9 17 = .ok (.aload_n 0, 1) := by decide +kernel
theorem dJ5_append_c97b9_18 : decode cJ5_append_c97b9 18 = .ok (.invokevirtual 83, 3) := by decide +kernel
theorem dJ5_append_c97b9_21 : decode cJ5_append_c97b9 21 = .ok (.ifCond .eq 16, 3) := by decide +kernel
theorem dJ5_append_c97b9_24 : decode cJ5_append_c97b9 24 = .ok (.iload_n 1, 1) := by decide +kernel
theorem dJ5_append_c97b9_25 : decode cJ5_append_c97b9 25 = .ok (.iload_n 3, 1) := by decide +kernel
theorem dJ5_append_c97b9_26 : decode cJ5_append_c97b9 26 = .ok (.aload_n 0, 1) := by decide +kernel
theorem dJ5_append_c97b9_27 : decode cJ5_append_c97b9 27 = .ok (.getfield 15, 3) := by decide +kernel
theorem dJ5_append_c97b9_30 : decode cJ5_append_c97b9 30 = .ok (.invokestatic 248, 3) := by decide +kernel
theorem dJ5_append_c97b9_33 : decode cJ5_append_c97b9 33 = .ok (.pop, 1) := by decide +kernel
theorem dJ5_append_c97b9_34 : decode cJ5_append_c97b9 34 = .ok (.goto 14, 3) := by decide +kernel
theorem dJ5_append_c97b9_37 : decode cJ5_append_c97b9 37 = .ok (.iload_n 1, 1) := by decide +kernel
theorem dJ5_append_c97b9_38 : decode cJ5_append_c97b9 38 = .ok (.iload_n 2, 1) := by decide +kernel
theorem dJ5_append_c97b9_39 : decode cJ5_append_c97b9 39 = .ok (.iload_n 3, 1) := by decide +kernel
theorem dJ5_append_c97b9_40 : decode cJ5_append_c97b9 40 = .ok (.aload_n 0, 1) := by decide +kernel
theorem dJ5_append_c97b9_41 : decode cJ5_append_c97b9 41 = .ok (.getfield 15, 3) := by decide +kernel
theorem dJ5_append_c97b9_44 : decode cJ5_append_c97b9 44 = .ok (.invokestatic 251, 3) := by decide +kernel
theorem dJ5_append_c97b9_47 : decode cJ5_append_c97b9 47 = .ok (.pop, 1) := by decide +kernel
theorem dJ5_append_c97b9_48 : decode cJ5_append_c97b9 48 = .ok (.aload_n 0, 1) := by decide +kernel
theorem dJ5_append_c97b9_49 : decode cJ5_append_c97b9 49 = .ok (.iload_n 3, 1) := by decide +kernel
theorem dJ5_append_c97b9_50 : decode cJ5_append_c97b9 50 = .ok (.putfield 79, 3) := by decide +kernel
theorem dJ5_append_c97b9_53 : decode cJ5_append_c97b9 53 = .ok (.aload_n 0, 1) := by decide +kernel
theorem dJ5_append_c97b9_54 : decode cJ5_append_c97b9 54 = .ok (.areturn, 1) := by decide +kernel
theorem dJ5_isLatin1_aae02_0 : decode cJ5_isLatin1_aae02 0 = .ok (.getstatic 18, 3) := by decide +kernel
theorem dJ5_isLatin1_aae02_3 : decode cJ5_isLatin1_aae02 3 = .ok (.ifCond .eq 14, 3) := by decide +kernel
theorem dJ5_isLatin1_aae02_6 : decode cJ5_isLatin1_aae02 6 = .ok (.aload_n 0, 1) := by decide +kernel
theorem dJ5_isLatin1_aae02_7 : decode cJ5_isLatin1_aae02 7 = .ok (.getfield 22, 3) := by decide +kernel
theorem dJ5_isLatin1_aae02_10 : decode cJ5_isLatin1_aae02 10 = .ok (.ifCond .ne 7, 3) := by decide +kernel
theorem dJ5_isLatin1_aae02_13 : decode cJ5_isLatin1_aae02 13 = .ok (.iconst 1, 1) := by decide +kernel
theorem dJ5_isLatin1_aae02_14 : decode cJ5_isLatin1_aae02 14 = .ok (.goto 4, 3) := by decide +kernel
theorem dJ5_isLatin1_aae02_17 : decode cJ5_isLatin1_aae02 17 = .ok (.iconst 0, 1) := by decide +kernel
theorem dJ5_isLatin1_aae02_18 : decode cJ5_isLatin1_aae02 18 = .ok (.ireturn, 1) := by decide +kernel
theorem dJ6_getChars_ba4f3_0 : decode cJ6_getChars_ba4f3 0 = .ok (.iload_n 1, 1) := by decide +kernel
theorem dJ6_getChars_ba4f3_1 : decode cJ6_getChars_ba4f3 1 = .ok (.istore 5, 2) := by decide +kernel
theorem dJ6_getChars_ba4f3_3 : decode cJ6_getChars_ba4f3 3 = .ok (.iload_n 0, 1) := by decide +kernel
theorem dJ6_getChars_ba4f3_4 : decode cJ6_getChars_ba4f3 4 = .ok (.ifCond .ge 7, 3) := by decide +kernel
theorem dJ6_getChars_ba4f3_7 : decode cJ6_getChars_ba4f3 7 = .ok (.iconst 1, 1) := by decide +kernel
theorem dJ6_getChars_ba4f3_8 : decode cJ6_getChars_ba4f3 8 = .ok (.goto 4, 3) := by decide +kernel
theorem dJ6_getChars_ba4f3_11 : decode cJ6_getChars_ba4f3 11 = .ok (.iconst 0, 1) := by decide +kernel
theorem dJ6_getChars_ba4f3_12 : decode cJ6_getChars_ba4f3 12 = .ok (.istore 6, 2) := by decide +kernel
theorem dJ6_getChars_ba4f3_14 : decode cJ6_getChars_ba4f3 14 = .ok (.iload 6, 2) := by decide +kernel
theorem dJ6_getChars_ba4f3_16 : decode cJ6_getChars_ba4f3 16 = .ok (.ifCond .ne 6, 3) := by decide +kernel
theorem dJ6_getChars_ba4f3_19 : decode cJ6_getChars_ba4f3 19 = .ok (.iload_n 0, 1) := by decide +kernel
theorem dJ6_getChars_ba4f3_20 : decode cJ6_getChars_ba4f3 20 = .ok (.ineg, 1) := by decide +kernel
theorem dJ6_getChars_ba4f3_21 : decode cJ6_getChars_ba4f3 21 = .ok (.istore_n 0, 1) := by decide +kernel
theorem dJ6_getChars_ba4f3_22 : decode cJ6_getChars_ba4f3 22 = .ok (.iload_n 0, 1) := by decide +kernel
theorem dJ6_getChars_ba4f3_23 : decode cJ6_getChars_ba4f3 23 = .ok (.bipush (-100), 2) := by decide +kernel
theorem dJ6_getChars_ba4f3_25 : decode cJ6_getChars_ba4f3 25 = .ok (.if_icmp .gt 47, 3) := by decide +kernel
theorem dJ6_getChars_ba4f3_28 : decode cJ6_getChars_ba4f3 28 = .ok (.iload_n 0, 1) := by decide +kernel
theorem dJ6_getChars_ba4f3_29 : decode cJ6_getChars_ba4f3 29 = .ok (.bipush 100, 2) := by decide +kernel
theorem dJ6_getChars_ba4f3_31 : decode cJ6_getChars_ba4f3 31 = .ok (.idiv, 1) := by decide +kernel
theorem dJ6_getChars_ba4f3_32 : decode cJ6_getChars_ba4f3 32 = .ok (.istore_n 3, 1) := by decide +kernel
theorem dJ6_getChars_ba4f3_33 : decode cJ6_getChars_ba4f3 33 = .ok (.iload_n 3, 1) := by decide +kernel
theorem dJ6_getChars_ba4f3_34 : decode cJ6_getChars_ba4f3 34 = .ok (.bipush 100, 2) := by decide +kernel
theorem dJ6_getChars_ba4f3_36 : decode cJ6_getChars_ba4f3 36 = .ok (.imul, 1) := by decide +kernel
theorem dJ6_getChars_ba4f3_37 : decode cJ6_getChars_ba4f3 37 = .ok (.iload_n 0, 1) := by decide +kernel
theorem dJ6_getChars_ba4f3_38 : decode cJ6_getChars_ba4f3 38 = .ok (.isub, 1) := by decide +kernel
theorem dJ6_getChars_ba4f3_39 : decode cJ6_getChars_ba4f3 39 = .ok (.istore 4, 2) := by decide +kernel
theorem dJ6_getChars_ba4f3_41 : decode cJ6_getChars_ba4f3 41 = .ok (.iload_n 3, 1) := by decide +kernel
theorem dJ6_getChars_ba4f3_42 : decode cJ6_getChars_ba4f3 42 = .ok (.istore_n 0, 1) := by decide +kernel
theorem dJ6_getChars_ba4f3_43 : decode cJ6_getChars_ba4f3 43 = .ok (.aload_n 2, 1) := by decide +kernel
theorem dJ6_getChars_ba4f3_44 : decode cJ6_getChars_ba4f3 44 = .ok (.iinc 5 (-1), 3) := by decide +kernel
theorem dJ6_getChars_ba4f3_47 : decode cJ6_getChars_ba4f3 47 = .ok (.iload 5, 2) := by decide +kernel
theorem dJ6_getChars_ba4f3_49 : decode cJ6_getChars_ba4f3 49 = .ok (.getstatic 83, 3) := by decide +kernel
theorem dJ6_getChars_ba4f3_52 : decode cJ6_getChars_ba4f3 52 = .ok (.iload 4, 2) := by decide +kernel
theorem dJ6_getChars_ba4f3_54 : decode cJ6_getChars_ba4f3 54 = .ok (.baload, 1) := by decide +kernel
theorem dJ6_getChars_ba4f3_55 : decode cJ6_getChars_ba4f3 55 = .ok (.bastore, 1) := by decide +kernel
theorem dJ6_getChars_ba4f3_56 : decode cJ6_getChars_ba4f3 56 = .ok (.aload_n 2, 1) := by decide +kernel
theorem dJ6_getChars_ba4f3_57 : decode cJ6_getChars_ba4f3 57 = .ok (.iinc 5 (-1), 3) := by decide +kernel
theorem dJ6_getChars_ba4f3_60 : decode cJ6_getChars_ba4f3 60 = .ok (.iload 5, 2) := by decide +kernel
theorem dJ6_getChars_ba4f3_62 : decode cJ6_getChars_ba4f3 62 = .ok (.getstatic 87, 3) := by decide +kernel
theorem dJ6_getChars_ba4f3_65 : decode cJ6_getChars_ba4f3 65 = .ok (.iload 4, 2) := by decide +kernel
theorem dJ6_getChars_ba4f3_67 : decode cJ6_getChars_ba4f3 67 = .ok (.baload, 1) := by decide +kernel
theorem dJ6_getChars_ba4f3_68 : decode cJ6_getChars_ba4f3 68 = .ok (.bastore, 1) := by decide +kernel
theorem dJ6_getChars_ba4f3_69 : decode cJ6_getChars_ba4f3 69 = .ok (.goto (-47), 3) := by decide +kernel
theorem dJ6_getChars_ba4f3_72 : decode cJ6_getChars_ba4f3 72 = .ok (.aload_n 2, 1) := by decide +kernel
theorem dJ6_getChars_ba4f3_73 : decode cJ6_getChars_ba4f3 73 = .ok (.iinc 5 (-1), 3) := by decide +kernel
theorem dJ6_getChars_ba4f3_76 : decode cJ6_getChars_ba4f3 76 = .ok (.iload 5, 2) := by decide +kernel
theorem dJ6_getChars_ba4f3_78 : decode cJ6_getChars_ba4f3 78 = .ok (.getstatic 83, 3) := by decide +kernel
theorem dJ6_getChars_ba4f3_81 : decode cJ6_getChars_ba4f3 81 = .ok (.iload_n 0, 1) := by decide +kernel
theorem dJ6_getChars_ba4f3_82 : decode cJ6_getChars_ba4f3 82 = .ok (.ineg, 1) := by decide +kernel
theorem dJ6_getChars_ba4f3_83 : decode cJ6_getChars_ba4f3 83 = .ok (.baload, 1) := by decide +kernel
theorem dJ6_getChars_ba4f3_84 : decode cJ6_getChars_ba4f3 84 = .ok (.bastore, 1) := by decide +kernel
theorem dJ6_getChars_ba4f3_85 : decode cJ6_getChars_ba4f3 85 = .ok (.iload_n 0, 1) := by decide +kernel
theorem dJ6_getChars_ba4f3_86 : decode cJ6_getChars_ba4f3 86 = .ok (.bipush (-9), 2) := by decide +kernel
theorem dJ6_getChars_ba4f3_88 : decode cJ6_getChars_ba4f3 88 = .ok (.if_icmp .ge 16, 3) := by decide +kernel
theorem dJ6_getChars_ba4f3_91 : decode cJ6_getChars_ba4f3 91 = .ok (.aload_n 2, 1) := by decide +kernel
theorem dJ6_getChars_ba4f3_92 : decode cJ6_getChars_ba4f3 92 = .ok (.iinc 5 (-1), 3) := by decide +kernel
theorem dJ6_getChars_ba4f3_95 : decode cJ6_getChars_ba4f3 95 = .ok (.iload 5, 2) := by decide +kernel
theorem dJ6_getChars_ba4f3_97 : decode cJ6_getChars_ba4f3 97 = .ok (.getstatic 87, 3) := by decide +kernel
theorem dJ6_getChars_ba4f3_100 : decode cJ6_getChars_ba4f3 100 = .ok (.iload_n 0, 1) := by decide +kernel
theorem dJ6_getChars_ba4f3_101 : decode cJ6_getChars_ba4f3 101 = .ok (.ineg, 1) := by decide +kernel
theorem dJ6_getChars_ba4f3_102 : decode cJ6_getChars_ba4f3 102 = .ok (.baload, 1) := by decide +kernel
theorem dJ6_getChars_ba4f3_103 : decode cJ6_getChars_ba4f3 103 = .ok (.bastore, 1) := by decide +kernel
theorem dJ6_getChars_ba4f3_104 : decode cJ6_getChars_ba4f3 104 = .ok (.iload 6, 2) := by decide +kernel
theorem dJ6_getChars_ba4f3_106 : decode cJ6_getChars_ba4f3 106 = .ok (.ifCond .eq 12, 3) := by decide +kernel
theorem dJ6_getChars_ba4f3_109 : decode cJ6_getChars_ba4f3 109 = .ok (.aload_n 2, 1) := by decide +kernel
theorem dJ6_getChars_ba4f3_110 : decode cJ6_getChars_ba4f3 110 = .ok (.iinc 5 (-1), 3) := by decide +kernel
theorem dJ6_getChars_ba4f3_113 : decode cJ6_getChars_ba4f3 113 = .ok (.iload 5, 2) := by decide +kernel
theorem dJ6_getChars_ba4f3_115 : decode cJ6_getChars_ba4f3 115 = .ok (.bipush 45, 2) := by decide +kernel
theorem dJ6_getChars_ba4f3_117 : decode cJ6_getChars_ba4f3 117 = .ok (.bastore, 1) := by decide +kernel
theorem dJ6_getChars_ba4f3_118 : decode cJ6_getChars_ba4f3 118 = .ok (.iload 5, 2) := by decide +kernel
theorem dJ6_getChars_ba4f3_120 : decode cJ6_getChars_ba4f3 120 = .ok (.ireturn, 1) := by decide +kernel
theorem dJ6_stringSize_0f7a4_0 : decode cJ6_stringSize_0f7a4 0 = .ok (.iconst 1, 1) := by decide +kernel
theorem dJ6_stringSize_0f7a4_1 : decode cJ6_stringSize_0f7a4 1 = .ok (.istore_n 1, 1) := by decide +kernel
theorem dJ6_stringSize_0f7a4_2 : decode cJ6_stringSize_0f7a4 2 = .ok (.iload_n 0, 1) := by decide +kernel
theorem dJ6_stringSize_0f7a4_3 : decode cJ6_stringSize_0f7a4 3 = .ok (.ifCond .lt 8, 3) := by decide +kernel
theorem dJ6_stringSize_0f7a4_6 : decode cJ6_stringSize_0f7a4 6 = .ok (.iconst 0, 1) := by decide +kernel
theorem dJ6_stringSize_0f7a4_7 : decode cJ6_stringSize_0f7a4 7 = .ok (.istore_n 1, 1) := by decide +kernel
theorem dJ6_stringSize_0f7a4_8 : decode cJ6_stringSize_0f7a4 8 = .ok (.iload_n 0, 1) := by decide +kernel
theorem dJ6_stringSize_0f7a4_9 : decode cJ6_stringSize_0f7a4 9 = .ok (.ineg, 1) := by decide +kernel
theorem dJ6_stringSize_0f7a4_10 : decode cJ6_stringSize_0f7a4 10 = .ok (.istore_n 0, 1) := by decide +kernel
theorem dJ6_stringSize_0f7a4_11 : decode cJ6_stringSize_0f7a4 11 = .ok (.bipush (-10), 2) := by decide +kernel
theorem dJ6_stringSize_0f7a4_13 : decode cJ6_stringSize_0f7a4 13 = .ok (.istore_n 2, 1) := by decide +kernel
theorem dJ6_stringSize_0f7a4_14 : decode cJ6_stringSize_0f7a4 14 = .ok (.iconst 1, 1) := by decide +kernel
theorem dJ6_stringSize_0f7a4_15 : decode cJ6_stringSize_0f7a4 15 = .ok (.istore_n 3, 1) := by decide +kernel
theorem dJ6_stringSize_0f7a4_16 : decode cJ6_stringSize_0f7a4 16 = .ok (.iload_n 3, 1) := by decide +kernel
theorem dJ6_stringSize_0f7a4_17 : decode cJ6_stringSize_0f7a4 17 = .ok (.bipush 10, 2) := by decide +kernel
theorem dJ6_stringSize_0f7a4_19 : decode cJ6_stringSize_0f7a4 19 = .ok (.if_icmp .ge 23, 3) := by decide +kernel
theorem dJ6_stringSize_0f7a4_22 : decode cJ6_stringSize_0f7a4 22 = .ok (.iload_n 0, 1) := by decide +kernel
theorem dJ6_stringSize_0f7a4_23 : decode cJ6_stringSize_0f7a4 23 = .ok (.iload_n 2, 1) := by decide +kernel
theorem dJ6_stringSize_0f7a4_24 : decode cJ6_stringSize_0f7a4 24 = .ok (.if_icmp .le 7, 3) := by decide +kernel
theorem dJ6_stringSize_0f7a4_27 : decode cJ6_stringSize_0f7a4 27 = .ok (.iload_n 3, 1) := by decide +kernel
theorem dJ6_stringSize_0f7a4_28 : decode cJ6_stringSize_0f7a4 28 = .ok (.iload_n 1, 1) := by decide +kernel
theorem dJ6_stringSize_0f7a4_29 : decode cJ6_stringSize_0f7a4 29 = .ok (.iadd, 1) := by decide +kernel
theorem dJ6_stringSize_0f7a4_30 : decode cJ6_stringSize_0f7a4 30 = .ok (.ireturn, 1) := by decide +kernel
theorem dJ6_stringSize_0f7a4_31 : decode cJ6_stringSize_0f7a4 31 = .ok (.bipush 10, 2) := by decide +kernel
theorem dJ6_stringSize_0f7a4_33 : decode cJ6_stringSize_0f7a4 33 = .ok (.iload_n 2, 1) := by decide +kernel
theorem dJ6_stringSize_0f7a4_34 : decode cJ6_stringSize_0f7a4 34 = .ok (.imul, 1) := by decide +kernel
theorem dJ6_stringSize_0f7a4_35 : decode cJ6_stringSize_0f7a4 35 = .ok (.istore_n 2, 1) := by decide +kernel
theorem dJ6_stringSize_0f7a4_36 : decode cJ6_stringSize_0f7a4 36 = .ok (.iinc 3 1, 3) := by decide +kernel
theorem dJ6_stringSize_0f7a4_39 : decode cJ6_stringSize_0f7a4 39 = .ok (.goto (-23), 3) := by decide +kernel
theorem dJ6_stringSize_0f7a4_42 : decode cJ6_stringSize_0f7a4 42 = .ok (.bipush 10, 2) := by decide +kernel
theorem dJ6_stringSize_0f7a4_44 : decode cJ6_stringSize_0f7a4 44 = .ok (.iload_n 1, 1) := by decide +kernel
theorem dJ6_stringSize_0f7a4_45 : decode cJ6_stringSize_0f7a4 45 = .ok (.iadd, 1) := by decide +kernel
theorem dJ6_stringSize_0f7a4_46 : decode cJ6_stringSize_0f7a4 46 = .ok (.ireturn, 1) := by decide +kernel
theorem dJ9_abs_0f7a4_0 : decode cJ9_abs_0f7a4 0 = .ok (.iload_n 0, 1) := by decide +kernel
theorem dJ9_abs_0f7a4_1 : decode cJ9_abs_0f7a4 1 = .ok (.ifCond .ge 8, 3) := by decide +kernel
theorem dJ9_abs_0f7a4_4 : decode cJ9_abs_0f7a4 4 = .ok (.iload_n 0, 1) := by decide +kernel
theorem dJ9_abs_0f7a4_5 : decode cJ9_abs_0f7a4 5 = .ok (.ineg, 1) := by decide +kernel
theorem dJ9_abs_0f7a4_6 : decode cJ9_abs_0f7a4 6 = .ok (.goto 4, 3) := by decide +kernel
theorem dJ9_abs_0f7a4_9 : decode cJ9_abs_0f7a4 9 = .ok (.iload_n 0, 1) := by decide +kernel
theorem dJ9_abs_0f7a4_10 : decode cJ9_abs_0f7a4 10 = .ok (.ireturn, 1) := by decide +kernel
theorem dJ9_max_7cf53_0 : decode cJ9_max_7cf53 0 = .ok (.iload_n 0, 1) := by decide +kernel
theorem dJ9_max_7cf53_1 : decode cJ9_max_7cf53 1 = .ok (.iload_n 1, 1) := by decide +kernel
theorem dJ9_max_7cf53_2 : decode cJ9_max_7cf53 2 = .ok (.if_icmp .lt 7, 3) := by decide +kernel
theorem dJ9_max_7cf53_5 : decode cJ9_max_7cf53 5 = .ok (.iload_n 0, 1) := by decide +kernel
theorem dJ9_max_7cf53_6 : decode cJ9_max_7cf53 6 = .ok (.goto 4, 3) := by decide +kernel
theorem dJ9_max_7cf53_9 : decode cJ9_max_7cf53 9 = .ok (.iload_n 1, 1) := by decide +kernel
theorem dJ9_max_7cf53_10 : decode cJ9_max_7cf53 10 = .ok (.ireturn, 1) := by decide +kernel
theorem dJ9_min_7cf53_0 : decode cJ9_min_7cf53 0 = .ok (.iload_n 0, 1) := by decide +kernel
theorem dJ9_min_7cf53_1 : decode cJ9_min_7cf53 1 = .ok (.iload_n 1, 1) := by decide +kernel
theorem dJ9_min_7cf53_2 : decode cJ9_min_7cf53 2 = .ok (.if_icmp .gt 7, 3) := by decide +kernel
theorem dJ9_min_7cf53_5 : decode cJ9_min_7cf53 5 = .ok (.iload_n 0, 1) := by decide +kernel
theorem dJ9_min_7cf53_6 : decode cJ9_min_7cf53 6 = .ok (.goto 4, 3) := by decide +kernel
theorem dJ9_min_7cf53_9 : decode cJ9_min_7cf53 9 = .ok (.iload_n 1, 1) := by decide +kernel
theorem dJ9_min_7cf53_10 : decode cJ9_min_7cf53 10 = .ok (.ireturn, 1) := by decide +kernel
theorem dJ0_checkIndex_df160_0 : decode cJ0_checkIndex_df160 0 = .ok (.iload_n 0, 1) := by decide +kernel
theorem dJ0_checkIndex_df160_1 : decode cJ0_checkIndex_df160 1 = .ok (.iload_n 1, 1) := by decide +kernel
theorem dJ0_checkIndex_df160_2 : decode cJ0_checkIndex_df160 2 = .ok (.getstatic 1053, 3) := by decide +kernel
theorem dJ0_checkIndex_df160_5 : decode cJ0_checkIndex_df160 5 = .ok (.invokestatic 1059, 3) := by decide +kernel
theorem dJ0_checkIndex_df160_8 : decode cJ0_checkIndex_df160 8 = .ok (.pop, 1) := by decide +kernel
theorem dJ0_checkIndex_df160_9 : decode cJ0_checkIndex_df160 9 = .ok (.return_, 1) := by decide +kernel
theorem dJ0_checkBoundsOffCount_cabcc_0 : decode cJ0_checkBoundsOffCount_cabcc 0 = .ok (.iload_n 0, 1) := by decide +kernel
theorem dJ0_checkBoundsOffCount_cabcc_1 : decode cJ0_checkBoundsOffCount_cabcc 1 = .ok (.iload_n 1, 1) := by decide +kernel
theorem dJ0_checkBoundsOffCount_cabcc_2 : decode cJ0_checkBoundsOffCount_cabcc 2 = .ok (.iload_n 2, 1) := by decide +kernel
theorem dJ0_checkBoundsOffCount_cabcc_3 : decode cJ0_checkBoundsOffCount_cabcc 3 = .ok (.getstatic 1053, 3) := by decide +kernel
theorem dJ0_checkBoundsOffCount_cabcc_6 : decode cJ0_checkBoundsOffCount_cabcc 6 = .ok (.invokestatic 1065, 3) := by decide +kernel
theorem dJ0_checkBoundsOffCount_cabcc_9 : decode cJ0_checkBoundsOffCount_cabcc 9 = .ok (.ireturn, 1) := by decide +kernel
theorem dJ0_checkBoundsBeginEnd_23922_0 : decode cJ0_checkBoundsBeginEnd_23922 0 = .ok (.iload_n 0, 1) := by decide +kernel
theorem dJ0_checkBoundsBeginEnd_23922_1 : decode cJ0_checkBoundsBeginEnd_23922 1 = .ok (.iload_n 1, 1) := by decide +kernel
theorem dJ0_checkBoundsBeginEnd_23922_2 : decode cJ0_checkBoundsBeginEnd_23922 2 = .ok (.iload_n 2, 1) := by decide +kernel
theorem dJ0_checkBoundsBeginEnd_23922_3 : decode cJ0_checkBoundsBeginEnd_23922 3 = .ok (.getstatic 1053, 3) := by decide +kernel
theorem dJ0_checkBoundsBeginEnd_23922_6 : decode cJ0_checkBoundsBeginEnd_23922 6 = .ok (.invokestatic 1062, 3) := by decide +kernel
theorem dJ0_checkBoundsBeginEnd_23922_9 : decode cJ0_checkBoundsBeginEnd_23922 9 = .ok (.pop, 1) := by decide +kernel
theorem dJ0_checkBoundsBeginEnd_23922_10 : decode cJ0_checkBoundsBeginEnd_23922 10 = .ok (.return_, 1) := by decide +kernel
theorem dJ4_init_da8c8_0 : decode cJ4_init_da8c8 0 = .ok (.aload_n 0, 1) := by decide +kernel
theorem dJ4_init_da8c8_1 : decode cJ4_init_da8c8 1 = .ok (.bipush 16, 2) := by decide +kernel
theorem dJ4_init_da8c8_3 : decode cJ4_init_da8c8 3 = .ok (.invokespecial 1, 3) := by decide +kernel
theorem dJ4_init_da8c8_6 : decode cJ4_init_da8c8 6 = .ok (.return_, 1) := by decide +kernel
theorem dJ4_append_cf468_0 : decode cJ4_append_cf468 0 = .ok (.aload_n 0, 1) := by decide +kernel
theorem dJ4_append_cf468_1 : decode cJ4_append_cf468 1 = .ok (.iload_n 1, 1) := by decide +kernel
theorem dJ4_append_cf468_2 : decode cJ4_append_cf468 2 = .ok (.invokespecial 50, 3) := by decide +kernel
theorem dJ4_append_cf468_5 : decode cJ4_append_cf468 5 = .ok (.pop, 1) := by decide +kernel
theorem dJ4_append_cf468_6 : decode cJ4_append_cf468 6 = .ok (.aload_n 0, 1) := by decide +kernel
theorem dJ4_append_cf468_7 : decode cJ4_append_cf468 7 = .ok (.areturn, 1) := by decide +kernel
theorem dJ4_append_bf812_0 : decode cJ4_append_bf812 0 = .ok (.aload_n 0, 1) := by decide +kernel
theorem dJ4_append_bf812_1 : decode cJ4_append_bf812 1 = .ok (.iload_n 1, 1) := by decide +kernel
theorem dJ4_append_bf812_2 : decode cJ4_append_bf812 2 = .ok (.invokespecial 53, 3) := by decide +kernel
theorem dJ4_append_bf812_5 : decode cJ4_append_bf812 5 = .ok (.pop, 1) := by decide +kernel
theorem dJ4_append_bf812_6 : decode cJ4_append_bf812 6 = .ok (.aload_n 0, 1) := by decide +kernel
theorem dJ4_append_bf812_7 : decode cJ4_append_bf812 7 = .ok (.areturn, 1) := by decide +kernel
theorem dJ4_charAt_5068e_0 : decode cJ4_charAt_5068e 0 = .ok (.aload_n 0, 1) := by decide +kernel
theorem dJ4_charAt_5068e_1 : decode cJ4_charAt_5068e 1 = .ok (.iload_n 1, 1) := by decide +kernel
theorem dJ4_charAt_5068e_2 : decode cJ4_charAt_5068e 2 = .ok (.invokespecial 329, 3) := by decide +kernel
theorem dJ4_charAt_5068e_5 : decode cJ4_charAt_5068e 5 = .ok (.ireturn, 1) := by decide +kernel
theorem dJ4_length_8abf5_0 : decode cJ4_length_8abf5 0 = .ok (.aload_n 0, 1) := by decide +kernel
theorem dJ4_length_8abf5_1 : decode cJ4_length_8abf5 1 = .ok (.invokespecial 343, 3) := by decide +kernel
theorem dJ4_length_8abf5_4 : decode cJ4_length_8abf5 4 = .ok (.ireturn, 1) := by decide +kernel
theorem dJ1_canEncode_fc78d_0 : decode cJ1_canEncode_fc78d 0 = .ok (.iload_n 0, 1) := by decide +kernel
theorem dJ1_canEncode_fc78d_1 : decode cJ1_canEncode_fc78d 1 = .ok (.sipush 255, 3) := by decide +kernel
theorem dJ1_canEncode_fc78d_4 : decode cJ1_canEncode_fc78d 4 = .ok (.if_icmp .gt 7, 3) := by decide +kernel
theorem dJ1_canEncode_fc78d_7 : decode cJ1_canEncode_fc78d 7 = .ok (.iconst 1, 1) := by decide +kernel
theorem dJ1_canEncode_fc78d_8 : decode cJ1_canEncode_fc78d 8 = .ok (.goto 4, 3) := by decide +kernel
theorem dJ1_canEncode_fc78d_11 : decode cJ1_canEncode_fc78d 11 = .ok (.iconst 0, 1) := by decide +kernel
theorem dJ1_canEncode_fc78d_12 : decode cJ1_canEncode_fc78d 12 = .ok (.ireturn, 1) := by decide +kernel
theorem dJ1_inflate_0e8fd_0 : decode cJ1_inflate_0e8fd 0 = .ok (.aload_n 0, 1) := by decide +kernel
theorem dJ1_inflate_0e8fd_1 : decode cJ1_inflate_0e8fd 1 = .ok (.iload_n 1, 1) := by decide +kernel
theorem dJ1_inflate_0e8fd_2 : decode cJ1_inflate_0e8fd 2 = .ok (.aload_n 2, 1) := by decide +kernel
theorem dJ1_inflate_0e8fd_3 : decode cJ1_inflate_0e8fd 3 = .ok (.iload_n 3, 1) := by decide +kernel
theorem dJ1_inflate_0e8fd_4 : decode cJ1_inflate_0e8fd 4 = .ok (.iload 4, 2) := by decide +kernel
theorem dJ1_inflate_0e8fd_6 : decode cJ1_inflate_0e8fd 6 = .ok (.invokestatic 240, 3) := by decide +kernel
theorem dJ1_inflate_0e8fd_9 : decode cJ1_inflate_0e8fd 9 = .ok (.return_, 1) := by decide +kernel
theorem dJ2_newBytesFor_77867_0 : decode cJ2_newBytesFor_77867 0 = .ok (.iload_n 0, 1) := by decide +kernel
theorem dJ2_newBytesFor_77867_1 : decode cJ2_newBytesFor_77867 1 = .ok (.invokestatic 11, 3) := by decide +kernel
theorem dJ2_newBytesFor_77867_4 : decode cJ2_newBytesFor_77867 4 = .ok (.newarray .byte, 2) := by decide +kernel
theorem dJ2_newBytesFor_77867_6 : decode cJ2_newBytesFor_77867 6 = .ok (.areturn, 1) := by decide +kernel
theorem dJ2_newBytesLength_0f7a4_0 : decode cJ2_newBytesLength_0f7a4 0 = .ok (.iload_n 0, 1) := by decide +kernel
theorem dJ2_newBytesLength_0f7a4_1 : decode cJ2_newBytesLength_0f7a4 1 = .ok (.ifCond .ge 11, 3) := by decide +kernel
theorem dJ2_newBytesLength_0f7a4_4 : decode cJ2_newBytesLength_0f7a4 4 = .ok (.new 17, 3) := by decide +kernel
theorem dJ2_newBytesLength_0f7a4_7 : decode cJ2_newBytesLength_0f7a4 7 = .ok (.dup, 1) := by decide +kernel
theorem dJ2_newBytesLength_0f7a4_8 : decode cJ2_newBytesLength_0f7a4 8 = .ok (.invokespecial 19, 3) := by decide +kernel
theorem dJ2_newBytesLength_0f7a4_11 : decode cJ2_newBytesLength_0f7a4 11 = .ok (.athrow, 1) := by decide +kernel
theorem dJ2_newBytesLength_0f7a4_12 : decode cJ2_newBytesLength_0f7a4 12 = .ok (.iload_n 0, 1) := by decide +kernel
theorem dJ2_newBytesLength_0f7a4_13 : decode cJ2_newBytesLength_0f7a4 13 = .ok (.ldc 20, 2) := by decide +kernel
theorem dJ2_newBytesLength_0f7a4_15 : decode cJ2_newBytesLength_0f7a4 15 = .ok (.if_icmp .lt 40, 3) := by decide +kernel
theorem dJ2_newBytesLength_0f7a4_18 : decode cJ2_newBytesLength_0f7a4 18 = .ok (.new 21, 3) := by decide +kernel
theorem dJ2_newBytesLength_0f7a4_21 : decode cJ2_newBytesLength_0f7a4 21 = .ok (.dup, 1) := by decide +kernel
theorem dJ2_newBytesLength_0f7a4_22 : decode cJ2_newBytesLength_0f7a4 22 = .ok (.new 23, 3) := by decide +kernel
theorem dJ2_newBytesLength_0f7a4_25 : decode cJ2_newBytesLength_0f7a4 25 = .ok (.dup, 1) := by decide +kernel
theorem dJ2_newBytesLength_0f7a4_26 : decode cJ2_newBytesLength_0f7a4 26 = .ok (.invokespecial 25, 3) := by decide +kernel
theorem dJ2_newBytesLength_0f7a4_29 : decode cJ2_newBytesLength_0f7a4 29 = .ok (.ldc 26, 2) := by decide +kernel
theorem dJ2_newBytesLength_0f7a4_31 : decode cJ2_newBytesLength_0f7a4 31 = .ok (.invokevirtual 28, 3) := by decide +kernel
theorem dJ2_newBytesLength_0f7a4_34 : decode cJ2_newBytesLength_0f7a4 34 = .ok (.iload_n 0, 1) := by decide +kernel
theorem dJ2_newBytesLength_0f7a4_35 : decode cJ2_newBytesLength_0f7a4 35 = .ok (.invokevirtual 32, 3) := by decide +kernel
theorem dJ2_newBytesLength_0f7a4_38 : decode cJ2_newBytesLength_0f7a4 38 = .ok (.ldc 35, 2) := by decide +kernel
theorem dJ2_newBytesLength_0f7a4_40 : decode cJ2_newBytesLength_0f7a4 40 = .ok (.invokevirtual 28, 3) := by decide +kernel
theorem dJ2_newBytesLength_0f7a4_43 : decode cJ2_newBytesLength_0f7a4 43 = .ok (.ldc 20, 2) := by decide +kernel
theorem dJ2_newBytesLength_0f7a4_45 : decode cJ2_newBytesLength_0f7a4 45 = .ok (.invokevirtual 32, 3) := by decide +kernel
theorem dJ2_newBytesLength_0f7a4_48 : decode cJ2_newBytesLength_0f7a4 48 = .ok (.invokevirtual 37, 3) := by decide +kernel
theorem dJ2_newBytesLength_0f7a4_51 : decode cJ2_newBytesLength_0f7a4 51 = .ok (.invokespecial 41, 3) := by decide +kernel
theorem dJ2_newBytesLength_0f7a4_54 : decode cJ2_newBytesLength_0f7a4 54 = .ok (.athrow, 1) := by decide +kernel
theorem dJ2_newBytesLength_0f7a4_55 : decode cJ2_newBytesLength_0f7a4 55 = .ok (.iload_n 0, 1) := by decide +kernel
theorem dJ2_newBytesLength_0f7a4_56 : decode cJ2_newBytesLength_0f7a4 56 = .ok (.iconst 1, 1) := by decide +kernel
theorem dJ2_newBytesLength_0f7a4_57 : decode cJ2_newBytesLength_0f7a4 57 = .ok (.ishl, 1) := by decide +kernel
theorem dJ2_newBytesLength_0f7a4_58 : decode cJ2_newBytesLength_0f7a4 58 = .ok (.ireturn, 1) := by decide +kernel
theorem dJ2_putChar_b72d1_0 : decode cJ2_putChar_b72d1 0 = .ok (.getstatic 44, 3) := by decide +kernel
theorem dJ2_putChar_b72d1_3 : decode cJ2_putChar_b72d1 3 = .ok (.ifCond .ne 25, 3) := by decide +kernel
theorem dJ2_putChar_b72d1_6 : decode cJ2_putChar_b72d1 6 = .ok (.iload_n 1, 1) := by decide +kernel
theorem dJ2_putChar_b72d1_7 : decode cJ2_putChar_b72d1 7 = .ok (.ifCond .lt 11, 3) := by decide +kernel
theorem dJ2_putChar_b72d1_10 : decode cJ2_putChar_b72d1 10 = .ok (.iload_n 1, 1) := by decide +kernel
theorem dJ2_putChar_b72d1_11 : decode cJ2_putChar_b72d1 11 = .ok (.aload_n 0, 1) := by decide +kernel
theorem dJ2_putChar_b72d1_12 : decode cJ2_putChar_b72d1 12 = .ok (.invokestatic 48, 3) := by decide +kernel
theorem dJ2_putChar_b72d1_15 : decode cJ2_putChar_b72d1 15 = .ok (.if_icmp .lt 13, 3) := by decide +kernel
theorem dJ2_putChar_b72d1_18 : decode cJ2_putChar_b72d1 18 = .ok (.new 52, 3) := by decide +kernel
theorem dJ2_putChar_b72d1_21 : decode cJ2_putChar_b72d1 21 = .ok (.dup, 1) := by decide +kernel
theorem dJ2_putChar_b72d1_22 : decode cJ2_putChar_b72d1 22 = .ok (.ldc 54, 2) := by decide +kernel
theorem dJ2_putChar_b72d1_24 : decode cJ2_putChar_b72d1 24 = .ok (.invokespecial 56, 3) := by decide +kernel
theorem dJ2_putChar_b72d1_27 : decode cJ2_putChar_b72d1 27 = .ok (.athrow, 1) := by decide +kernel
theorem dJ2_putChar_b72d1_28 : decode cJ2_putChar_b72d1 28 = .ok (.iload_n 1, 1) := by decide +kernel
theorem dJ2_putChar_b72d1_29 : decode cJ2_putChar_b72d1 29 = .ok (.iconst 1, 1) := by decide +kernel
theorem dJ2_putChar_b72d1_30 : decode cJ2_putChar_b72d1 30 = .ok (.ishl, 1) := by decide +kernel
theorem dJ2_putChar_b72d1_31 : decode cJ2_putChar_b72d1 31 = .ok (.istore_n 1, 1) := by decide +kernel
theorem dJ2_putChar_b72d1_32 : decode cJ2_putChar_b72d1 32 = .ok (.aload_n 0, 1) := by decide +kernel
theorem dJ2_putChar_b72d1_33 : decode cJ2_putChar_b72d1 33 = .ok (.iload_n 1, 1) := by decide +kernel
theorem dJ2_putChar_b72d1_34 : decode cJ2_putChar_b72d1 34 = .ok (.iinc 1 1, 3) := by decide +kernel
theorem dJ2_putChar_b72d1_37 : decode cJ2_putChar_b72d1 37 = .ok (.iload_n 2, 1) := by decide +kernel
theorem dJ2_putChar_b72d1_38 : decode cJ2_putChar_b72d1 38 = .ok (.getstatic 59, 3) := by decide +kernel
theorem dJ2_putChar_b72d1_41 : decode cJ2_putChar_b72d1 41 = .ok (.ishr, 1) := by decide +kernel
theorem dJ2_putChar_b72d1_42 : decode cJ2_putChar_b72d1 42 = .ok (.i2b, 1) := by decide +kernel
theorem dJ2_putChar_b72d1_43 : decode cJ2_putChar_b72d1 43 = .ok (.bastore, 1) := by decide +kernel
theorem dJ2_putChar_b72d1_44 : decode cJ2_putChar_b72d1 44 = .ok (.aload_n 0, 1) := by decide +kernel
theorem dJ2_putChar_b72d1_45 : decode cJ2_putChar_b72d1 45 = .ok (.iload_n 1, 1) := by decide +kernel
theorem dJ2_putChar_b72d1_46 : decode cJ2_putChar_b72d1 46 = .ok (.iload_n 2, 1) := by decide +kernel
theorem dJ2_putChar_b72d1_47 : decode cJ2_putChar_b72d1 47 = .ok (.getstatic 63, 3) := by decide +kernel
theorem dJ2_putChar_b72d1_50 : decode cJ2_putChar_b72d1 50 = .ok (.ishr, 1) := by decide +kernel
theorem dJ2_putChar_b72d1_51 : decode cJ2_putChar_b72d1 51 = .ok (.i2b, 1) := by decide +kernel
theorem dJ2_putChar_b72d1_52 : decode cJ2_putChar_b72d1 52 = .ok (.bastore, 1) := by decide +kernel
theorem dJ2_putChar_b72d1_53 : decode cJ2_putChar_b72d1 53 = .ok (.return_, 1) := by decide +kernel
theorem dJ2_getChar_3b067_0 : decode cJ2_getChar_3b067 0 = .ok (.getstatic 44, 3) := by decide +kernel
theorem dJ2_getChar_3b067_3 : decode cJ2_getChar_3b067 3 = .ok (.ifCond .ne 25, 3) := by decide +kernel
theorem dJ2_getChar_3b067_6 : decode cJ2_getChar_3b067 6 = .ok (.iload_n 1, 1) := by decide +kernel
theorem dJ2_getChar_3b067_7 : decode cJ2_getChar_3b067 7 = .ok (.ifCond .lt 11, 3) := by decide +kernel
theorem dJ2_getChar_3b067_10 : decode cJ2_getChar_3b067 10 = .ok (.iload_n 1, 1) := by decide +kernel
theorem dJ2_getChar_3b067_11 : decode cJ2_getChar_3b067 11 = .ok (.aload_n 0, 1) := by decide +kernel
theorem dJ2_getChar_3b067_12 : decode cJ2_getChar_3b067 12 = .ok (.invokestatic 48, 3) := by decide +kernel
theorem dJ2_getChar_3b067_15 : decode cJ2_getChar_3b067 15 = .ok (.if_icmp .lt 13, 3) := by decide +kernel
theorem dJ2_getChar_3b067_18 : decode cJ2_getChar_3b067 18 = .ok (.new 52, 3) := by decide +kernel
theorem dJ2_getChar_3b067_21 : decode cJ2_getChar_3b067 21 = .ok (.dup, 1) := by decide +kernel
theorem dJ2_getChar_3b067_22 : decode cJ2_getChar_3b067 22 = .ok (.ldc 54, 2) := by decide +kernel
theorem dJ2_getChar_3b067_24 : decode cJ2_getChar_3b067 24 = .ok (.invokespecial 56, 3) := by decide +kernel
theorem dJ2_getChar_3b067_27 : decode cJ2_getChar_3b067 27 = .ok (.athrow, 1) := by decide +kernel
theorem dJ2_getChar_3b067_28 : decode cJ2_getChar_3b067 28 = .ok (.iload_n 1, 1) := by decide +kernel
theorem dJ2_getChar_3b067_29 : decode cJ2_getChar_3b067 29 = .ok (.iconst 1, 1) := by decide +kernel
theorem dJ2_getChar_3b067_30 : decode cJ2_getChar_3b067 30 = .ok (.ishl, 1) := by decide +kernel
theorem dJ2_getChar_3b067_31 : decode cJ2_getChar_3b067 31 = .ok (.istore_n 1, 1) := by decide +kernel
theorem dJ2_getChar_3b067_32 : decode cJ2_getChar_3b067 32 = .ok (.aload_n 0, 1) := by decide +kernel
theorem dJ2_getChar_3b067_33 : decode cJ2_getChar_3b067 33 = .ok (.iload_n 1, 1) := by decide +kernel
theorem dJ2_getChar_3b067_34 : decode cJ2_getChar_3b067 34 = .ok (.iinc 1 1, 3) := by decide +kernel
theorem dJ2_getChar_3b067_37 : decode cJ2_getChar_3b067 37 = .ok (.baload, 1) := by decide +kernel
theorem dJ2_getChar_3b067_38 : decode cJ2_getChar_3b067 38 = .ok (.sipush 255, 3) := by decide +kernel
theorem dJ2_getChar_3b067_41 : decode cJ2_getChar_3b067 41 = .ok (.iand, 1) := by decide +kernel
theorem dJ2_getChar_3b067_42 : decode cJ2_getChar_3b067 42 = .ok (.getstatic 59, 3) := by decide +kernel
theorem dJ2_getChar_3b067_45 : decode cJ2_getChar_3b067 45 = .ok (.ishl, 1) := by decide +kernel
theorem dJ2_getChar_3b067_46 : decode cJ2_getChar_3b067 46 = .ok (.aload_n 0, 1) := by decide +kernel
theorem dJ2_getChar_3b067_47 : decode cJ2_getChar_3b067 47 = .ok (.iload_n 1, 1) := by decide +kernel
theorem dJ2_getChar_3b067_48 : decode cJ2_getChar_3b067 48 = .ok (.baload, 1) := by decide +kernel
theorem dJ2_getChar_3b067_49 : decode cJ2_getChar_3b067 49 = .ok (.sipush 255, 3) := by decide +kernel
theorem dJ2_getChar_3b067_52 : decode cJ2_getChar_3b067 52 = .ok (.iand, 1) := by decide +kernel
theorem dJ2_getChar_3b067_53 : decode cJ2_getChar_3b067 53 = .ok (.getstatic 63, 3) := by decide +kernel
theorem dJ2_getChar_3b067_56 : decode cJ2_getChar_3b067 56 = .ok (.ishl, 1) := by decide +kernel
theorem dJ2_getChar_3b067_57 : decode cJ2_getChar_3b067 57 = .ok (.ior, 1) := by decide +kernel
theorem dJ2_getChar_3b067_58 : decode cJ2_getChar_3b067 58 = .ok (.i2c, 1) := by decide +kernel
theorem dJ2_getChar_3b067_59 : decode cJ2_getChar_3b067 59 = .ok (.ireturn, 1) := by decide +kernel
theorem dJ2_length_9d52b_0 : decode cJ2_length_9d52b 0 = .ok (.aload_n 0, 1) := by decide +kernel
theorem dJ2_length_9d52b_1 : decode cJ2_length_9d52b 1 = .ok (.arraylength, 1) := by decide +kernel
theorem dJ2_length_9d52b_2 : decode cJ2_length_9d52b 2 = .ok (.iconst 1, 1) := by decide +kernel
theorem dJ2_length_9d52b_3 : decode cJ2_length_9d52b 3 = .ok (.ishr, 1) := by decide +kernel
theorem dJ2_length_9d52b_4 : decode cJ2_length_9d52b 4 = .ok (.ireturn, 1) := by decide +kernel
theorem dJ2_putCharSB_b72d1_0 : decode cJ2_putCharSB_b72d1 0 = .ok (.iload_n 1, 1) := by decide +kernel
theorem dJ2_putCharSB_b72d1_1 : decode cJ2_putCharSB_b72d1 1 = .ok (.aload_n 0, 1) := by decide +kernel
theorem dJ2_putCharSB_b72d1_2 : decode cJ2_putCharSB_b72d1 2 = .ok (.invokestatic 67, 3) := by decide +kernel
theorem dJ2_putCharSB_b72d1_5 : decode cJ2_putCharSB_b72d1 5 = .ok (.aload_n 0, 1) := by decide +kernel
theorem dJ2_putCharSB_b72d1_6 : decode cJ2_putCharSB_b72d1 6 = .ok (.iload_n 1, 1) := by decide +kernel
theorem dJ2_putCharSB_b72d1_7 : decode cJ2_putCharSB_b72d1 7 = .ok (.iload_n 2, 1) := by decide +kernel
theorem dJ2_putCharSB_b72d1_8 : decode cJ2_putCharSB_b72d1 8 = .ok (.invokestatic 111, 3) := by decide +kernel
theorem dJ2_putCharSB_b72d1_11 : decode cJ2_putCharSB_b72d1 11 = .ok (.return_, 1) := by decide +kernel
theorem dJ2_getChars_46870_0 : decode cJ2_getChars_46870 0 = .ok (.iload_n 1, 1) := by decide +kernel
theorem dJ2_getChars_46870_1 : decode cJ2_getChars_46870 1 = .ok (.iload_n 2, 1) := by decide +kernel
theorem dJ2_getChars_46870_2 : decode cJ2_getChars_46870 2 = .ok (.aload_n 3, 1) := by decide +kernel
theorem dJ2_getChars_46870_3 : decode cJ2_getChars_46870 3 = .ok (.invokestatic 96, 3) := by decide +kernel
theorem dJ2_getChars_46870_6 : decode cJ2_getChars_46870 6 = .ok (.iload_n 0, 1) := by decide +kernel
theorem dJ2_getChars_46870_7 : decode cJ2_getChars_46870 7 = .ok (.iload_n 2, 1) := by decide +kernel
theorem dJ2_getChars_46870_8 : decode cJ2_getChars_46870 8 = .ok (.aload_n 3, 1) := by decide +kernel
theorem dJ2_getChars_46870_9 : decode cJ2_getChars_46870 9 = .ok (.invokestatic 393, 3) := by decide +kernel
theorem dJ2_getChars_46870_12 : decode cJ2_getChars_46870 12 = .ok (.istore 4, 2) := by decide +kernel
theorem dJ2_getChars_46870_14 : decode cJ2_getChars_46870 14 = .ok (.getstatic 44, 3) := by decide +kernel
theorem dJ2_getChars_46870_17 : decode cJ2_getChars_46870 17 = .ok (.ifCond .ne 17, 3) := by decide +kernel
theorem dJ2_getChars_46870_20 : decode cJ2_getChars_46870 20 = .ok (.iload_n 1, 1) := by decide +kernel
theorem dJ2_getChars_46870_21 : decode cJ2_getChars_46870 21 = .ok (.iload 4, 2) := by decide +kernel
theorem dJ2_getChars_46870_23 : decode cJ2_getChars_46870 23 = .ok (.if_icmp .eq 11, 3) := by decide +kernel
theorem dJ2_getChars_46870_26 : decode cJ2_getChars_46870 26 = .ok (.new 52, 3) := by decide +kernel
theorem dJ2_getChars_46870_29 : decode cJ2_getChars_46870 29 = .ok (.dup, 1) := by decide +kernel
theorem dJ2_getChars_46870_30 : decode cJ2_getChars_46870 30 = .ok (.invokespecial 66, 3) := by decide +kernel
theorem dJ2_getChars_46870_33 : decode cJ2_getChars_46870 33 = .ok (.athrow, 1) := by decide +kernel
theorem dJ2_getChars_46870_34 : decode cJ2_getChars_46870 34 = .ok (.iload 4, 2) := by decide +kernel
theorem dJ2_getChars_46870_36 : decode cJ2_getChars_46870 36 = .ok (.ireturn, 1) := by decide +kernel
theorem dJ2_inflate_0e8fd_0 : decode cJ2_inflate_0e8fd 0 = .ok (.iload_n 3, 1) := by decide +kernel
theorem dJ2_inflate_0e8fd_1 : decode cJ2_inflate_0e8fd 1 = .ok (.iload 4, 2) := by decide +kernel
theorem dJ2_inflate_0e8fd_3 : decode cJ2_inflate_0e8fd 3 = .ok (.aload_n 2, 1) := by decide +kernel
theorem dJ2_inflate_0e8fd_4 : decode cJ2_inflate_0e8fd 4 = .ok (.invokestatic 173, 3) := by decide +kernel
theorem dJ2_inflate_0e8fd_7 : decode cJ2_inflate_0e8fd 7 = .ok (.iconst 0, 1) := by decide +kernel
theorem dJ2_inflate_0e8fd_8 : decode cJ2_inflate_0e8fd 8 = .ok (.istore 5, 2) := by decide +kernel
theorem dJ2_inflate_0e8fd_10 : decode cJ2_inflate_0e8fd 10 = .ok (.iload 5, 2) := by decide +kernel
theorem dJ2_inflate_0e8fd_12 : decode cJ2_inflate_0e8fd 12 = .ok (.iload 4, 2) := by decide +kernel
theorem dJ2_inflate_0e8fd_14 : decode cJ2_inflate_0e8fd 14 = .ok (.if_icmp .ge 27, 3) := by decide +kernel
theorem dJ2_inflate_0e8fd_17 : decode cJ2_inflate_0e8fd 17 = .ok (.aload_n 2, 1) := by decide +kernel
theorem dJ2_inflate_0e8fd_18 : decode cJ2_inflate_0e8fd 18 = .ok (.iload_n 3, 1) := by decide +kernel
theorem dJ2_inflate_0e8fd_19 : decode cJ2_inflate_0e8fd 19 = .ok (.iinc 3 1, 3) := by decide +kernel
theorem dJ2_inflate_0e8fd_22 : decode cJ2_inflate_0e8fd 22 = .ok (.aload_n 0, 1) := by decide +kernel
theorem dJ2_inflate_0e8fd_23 : decode cJ2_inflate_0e8fd 23 = .ok (.iload_n 1, 1) := by decide +kernel
theorem dJ2_inflate_0e8fd_24 : decode cJ2_inflate_0e8fd 24 = .ok (.iinc 1 1, 3) := by decide +kernel
theorem dJ2_inflate_0e8fd_27 : decode cJ2_inflate_0e8fd 27 = .ok (.baload, 1) := by decide +kernel
theorem dJ2_inflate_0e8fd_28 : decode cJ2_inflate_0e8fd 28 = .ok (.sipush 255, 3) := by decide +kernel
theorem dJ2_inflate_0e8fd_31 : decode cJ2_inflate_0e8fd 31 = .ok (.iand, 1) := by decide +kernel
theorem dJ2_inflate_0e8fd_32 : decode cJ2_inflate_0e8fd 32 = .ok (.invokestatic 111, 3) := by decide +kernel
theorem dJ2_inflate_0e8fd_35 : decode cJ2_inflate_0e8fd 35 = .ok (.iinc 5 1, 3) := by decide +kernel
theorem dJ2_inflate_0e8fd_38 : decode cJ2_inflate_0e8fd 38 = .ok (.goto (-28), 3) := by decide +kernel
theorem dJ2_inflate_0e8fd_41 : decode cJ2_inflate_0e8fd 41 = .ok (.return_, 1) := by decide +kernel
theorem dJ2_getChars_ba4f3_0 : decode cJ2_getChars_ba4f3 0 = .ok (.iload_n 1, 1) := by decide +kernel
theorem dJ2_getChars_ba4f3_1 : decode cJ2_getChars_ba4f3 1 = .ok (.istore 5, 2) := by decide +kernel
theorem dJ2_getChars_ba4f3_3 : decode cJ2_getChars_ba4f3 3 = .ok (.iload_n 0, 1) := by decide +kernel
theorem dJ2_getChars_ba4f3_4 : decode cJ2_getChars_ba4f3 4 = .ok (.ifCond .ge 7, 3) := by decide +kernel
theorem dJ2_getChars_ba4f3_7 : decode cJ2_getChars_ba4f3 7 = .ok (.iconst 1, 1) := by decide +kernel
theorem dJ2_getChars_ba4f3_8 : decode cJ2_getChars_ba4f3 8 = .ok (.goto 4, 3) := by decide +kernel
theorem dJ2_getChars_ba4f3_11 : decode cJ2_getChars_ba4f3 11 = .ok (.iconst 0, 1) := by decide +kernel
theorem dJ2_getChars_ba4f3_12 : decode cJ2_getChars_ba4f3 12 = .ok (.istore 6, 2) := by decide +kernel
theorem dJ2_getChars_ba4f3_14 : decode cJ2_getChars_ba4f3 14 = .ok (.iload 6, 2) := by decide +kernel
theorem dJ2_getChars_ba4f3_16 : decode cJ2_getChars_ba4f3 16 = .ok (.ifCond .ne 6, 3) := by decide +kernel
theorem dJ2_getChars_ba4f3_19 : decode cJ2_getChars_ba4f3 19 = .ok (.iload_n 0, 1) := by decide +kernel
theorem dJ2_getChars_ba4f3_20 : decode cJ2_getChars_ba4f3 20 = .ok (.ineg, 1) := by decide +kernel
theorem dJ2_getChars_ba4f3_21 : decode cJ2_getChars_ba4f3 21 = .ok (.istore_n 0, 1) := by decide +kernel
theorem dJ2_getChars_ba4f3_22 : decode cJ2_getChars_ba4f3 22 = .ok (.iload_n 0, 1) := by decide +kernel
theorem dJ2_getChars_ba4f3_23 : decode cJ2_getChars_ba4f3 23 = .ok (.bipush (-100), 2) := by decide +kernel
theorem dJ2_getChars_ba4f3_25 : decode cJ2_getChars_ba4f3 25 = .ok (.if_icmp .gt 51, 3) := by decide +kernel
theorem dJ2_getChars_ba4f3_28 : decode cJ2_getChars_ba4f3 28 = .ok (.iload_n 0, 1) := by decide +kernel
theorem dJ2_getChars_ba4f3_29 : decode cJ2_getChars_ba4f3 29 = .ok (.bipush 100, 2) := by decide +kernel
theorem dJ2_getChars_ba4f3_31 : decode cJ2_getChars_ba4f3 31 = .ok (.idiv, 1) := by decide +kernel
theorem dJ2_getChars_ba4f3_32 : decode cJ2_getChars_ba4f3 32 = .ok (.istore_n 3, 1) := by decide +kernel
theorem dJ2_getChars_ba4f3_33 : decode cJ2_getChars_ba4f3 33 = .ok (.iload_n 3, 1) := by decide +kernel
theorem dJ2_getChars_ba4f3_34 : decode cJ2_getChars_ba4f3 34 = .ok (.bipush 100, 2) := by decide +kernel
theorem dJ2_getChars_ba4f3_36 : decode cJ2_getChars_ba4f3 36 = .ok (.imul, 1) := by decide +kernel
theorem dJ2_getChars_ba4f3_37 : decode cJ2_getChars_ba4f3 37 = .ok (.iload_n 0, 1) := by decide +kernel
theorem dJ2_getChars_ba4f3_38 : decode cJ2_getChars_ba4f3 38 = .ok (.isub, 1) := by decide +kernel
theorem dJ2_getChars_ba4f3_39 : decode cJ2_getChars_ba4f3 39 = .ok (.istore 4, 2) := by decide +kernel
theorem dJ2_getChars_ba4f3_41 : decode cJ2_getChars_ba4f3 41 = .ok (.iload_n 3, 1) := by decide +kernel
theorem dJ2_getChars_ba4f3_42 : decode cJ2_getChars_ba4f3 42 = .ok (.istore_n 0, 1) := by decide +kernel
theorem dJ2_getChars_ba4f3_43 : decode cJ2_getChars_ba4f3 43 = .ok (.aload_n 2, 1) := by decide +kernel
theorem dJ2_getChars_ba4f3_44 : decode cJ2_getChars_ba4f3 44 = .ok (.iinc 5 (-1), 3) := by decide +kernel
theorem dJ2_getChars_ba4f3_47 : decode cJ2_getChars_ba4f3 47 = .ok (.iload 5, 2) := by decide +kernel
theorem dJ2_getChars_ba4f3_49 : decode cJ2_getChars_ba4f3 49 = .ok (.getstatic 403, 3) := by decide +kernel
theorem dJ2_getChars_ba4f3_52 : decode cJ2_getChars_ba4f3 52 = .ok (.iload 4, 2) := by decide +kernel
theorem dJ2_getChars_ba4f3_54 : decode cJ2_getChars_ba4f3 54 = .ok (.baload, 1) := by decide +kernel
theorem dJ2_getChars_ba4f3_55 : decode cJ2_getChars_ba4f3 55 = .ok (.invokestatic 111, 3) := by decide +kernel
theorem dJ2_getChars_ba4f3_58 : decode cJ2_getChars_ba4f3 58 = .ok (.aload_n 2, 1) := by decide +kernel
theorem dJ2_getChars_ba4f3_59 : decode cJ2_getChars_ba4f3 59 = .ok (.iinc 5 (-1), 3) := by decide +kernel
theorem dJ2_getChars_ba4f3_62 : decode cJ2_getChars_ba4f3 62 = .ok (.iload 5, 2) := by decide +kernel
theorem dJ2_getChars_ba4f3_64 : decode cJ2_getChars_ba4f3 64 = .ok (.getstatic 407, 3) := by decide +kernel
theorem dJ2_getChars_ba4f3_67 : decode cJ2_getChars_ba4f3 67 = .ok (.iload 4, 2) := by decide +kernel
theorem dJ2_getChars_ba4f3_69 : decode cJ2_getChars_ba4f3 69 = .ok (.baload, 1) := by decide +kernel
theorem dJ2_getChars_ba4f3_70 : decode cJ2_getChars_ba4f3 70 = .ok (.invokestatic 111, 3) := by decide +kernel
theorem dJ2_getChars_ba4f3_73 : decode cJ2_getChars_ba4f3 73 = .ok (.goto (-51), 3) := by decide +kernel
theorem dJ2_getChars_ba4f3_76 : decode cJ2_getChars_ba4f3 76 = .ok (.aload_n 2, 1) := by decide +kernel
theorem dJ2_getChars_ba4f3_77 : decode cJ2_getChars_ba4f3 77 = .ok (.iinc 5 (-1), 3) := by decide +kernel
theorem dJ2_getChars_ba4f3_80 : decode cJ2_getChars_ba4f3 80 = .ok (.iload 5, 2) := by decide +kernel
theorem dJ2_getChars_ba4f3_82 : decode cJ2_getChars_ba4f3 82 = .ok (.getstatic 403, 3) := by decide +kernel
theorem dJ2_getChars_ba4f3_85 : decode cJ2_getChars_ba4f3 85 = .ok (.iload_n 0, 1) := by decide +kernel
theorem dJ2_getChars_ba4f3_86 : decode cJ2_getChars_ba4f3 86 = .ok (.ineg, 1) := by decide +kernel
theorem dJ2_getChars_ba4f3_87 : decode cJ2_getChars_ba4f3 87 = .ok (.baload, 1) := by decide +kernel
theorem dJ2_getChars_ba4f3_88 : decode cJ2_getChars_ba4f3 88 = .ok (.invokestatic 111, 3) := by decide +kernel
theorem dJ2_getChars_ba4f3_91 : decode cJ2_getChars_ba4f3 91 = .ok (.iload_n 0, 1) := by decide +kernel
theorem dJ2_getChars_ba4f3_92 : decode cJ2_getChars_ba4f3 92 = .ok (.bipush (-9), 2) := by decide +kernel
theorem dJ2_getChars_ba4f3_94 : decode cJ2_getChars_ba4f3 94 = .ok (.if_icmp .ge 18, 3) := by decide +kernel
theorem dJ2_getChars_ba4f3_97 : decode cJ2_getChars_ba4f3 97 = .ok (.aload_n 2, 1) := by decide +kernel
theorem dJ2_getChars_ba4f3_98 : decode cJ2_getChars_ba4f3 98 = .ok (.iinc 5 (-1), 3) := by decide +kernel
theorem dJ2_getChars_ba4f3_101 : decode cJ2_getChars_ba4f3 101 = .ok (.iload 5, 2) := by decide +kernel
theorem dJ2_getChars_ba4f3_103 : decode cJ2_getChars_ba4f3 103 = .ok (.getstatic 407, 3) := by decide +kernel
theorem dJ2_getChars_ba4f3_106 : decode cJ2_getChars_ba4f3 106 = .ok (.iload_n 0, 1) := by decide +kernel
theorem dJ2_getChars_ba4f3_107 : decode cJ2_getChars_ba4f3 107 = .ok (.ineg, 1) := by decide +kernel
theorem dJ2_getChars_ba4f3_108 : decode cJ2_getChars_ba4f3 108 = .ok (.baload, 1) := by decide +kernel
theorem dJ2_getChars_ba4f3_109 : decode cJ2_getChars_ba4f3 109 = .ok (.invokestatic 111, 3) := by decide +kernel
theorem dJ2_getChars_ba4f3_112 : decode cJ2_getChars_ba4f3 112 = .ok (.iload 6, 2) := by decide +kernel
theorem dJ2_getChars_ba4f3_114 : decode cJ2_getChars_ba4f3 114 = .ok (.ifCond .eq 14, 3) := by decide +kernel
theorem dJ2_getChars_ba4f3_117 : decode cJ2_getChars_ba4f3 117 = .ok (.aload_n 2, 1) := by decide +kernel
theorem dJ2_getChars_ba4f3_118 : decode cJ2_getChars_ba4f3 118 = .ok (.iinc 5 (-1), 3) := by decide +kernel
theorem dJ2_getChars_ba4f3_121 : decode cJ2_getChars_ba4f3 121 = .ok (.iload 5, 2) := by decide +kernel
theorem dJ2_getChars_ba4f3_123 : decode cJ2_getChars_ba4f3 123 = .ok (.bipush 45, 2) := by decide +kernel
theorem dJ2_getChars_ba4f3_125 : decode cJ2_getChars_ba4f3 125 = .ok (.invokestatic 111, 3) := by decide +kernel
theorem dJ2_getChars_ba4f3_128 : decode cJ2_getChars_ba4f3 128 = .ok (.iload 5, 2) := by decide +kernel
theorem dJ2_getChars_ba4f3_130 : decode cJ2_getChars_ba4f3 130 = .ok (.ireturn, 1) := by decide +kernel
theorem dJ2_checkIndex_2214a_0 : decode cJ2_checkIndex_2214a 0 = .ok (.iload_n 0, 1) := by decide +kernel
theorem dJ2_checkIndex_2214a_1 : decode cJ2_checkIndex_2214a 1 = .ok (.aload_n 1, 1) := by decide +kernel
theorem dJ2_checkIndex_2214a_2 : decode cJ2_checkIndex_2214a 2 = .ok (.invokestatic 48, 3) := by decide +kernel
theorem dJ2_checkIndex_2214a_5 : decode cJ2_checkIndex_2214a 5 = .ok (.invokestatic 414, 3) := by decide +kernel
theorem dJ2_checkIndex_2214a_8 : decode cJ2_checkIndex_2214a 8 = .ok (.return_, 1) := by decide +kernel
theorem dJ2_checkBoundsBeginEnd_d044e_0 : decode cJ2_checkBoundsBeginEnd_d044e 0 = .ok (.iload_n 0, 1) := by decide +kernel
theorem dJ2_checkBoundsBeginEnd_d044e_1 : decode cJ2_checkBoundsBeginEnd_d044e 1 = .ok (.iload_n 1, 1) := by decide +kernel
theorem dJ2_checkBoundsBeginEnd_d044e_2 : decode cJ2_checkBoundsBeginEnd_d044e 2 = .ok (.aload_n 2, 1) := by decide +kernel
theorem dJ2_checkBoundsBeginEnd_d044e_3 : decode cJ2_checkBoundsBeginEnd_d044e 3 = .ok (.invokestatic 48, 3) := by decide +kernel
theorem dJ2_checkBoundsBeginEnd_d044e_6 : decode cJ2_checkBoundsBeginEnd_d044e 6 = .ok (.invokestatic 241, 3) := by decide +kernel
theorem dJ2_checkBoundsBeginEnd_d044e_9 : decode cJ2_checkBoundsBeginEnd_d044e 9 = .ok (.return_, 1) := by decide +kernel
theorem dJ2_checkBoundsOffCount_d044e_0 : decode cJ2_checkBoundsOffCount_d044e 0 = .ok (.iload_n 0, 1) := by decide +kernel
theorem dJ2_checkBoundsOffCount_d044e_1 : decode cJ2_checkBoundsOffCount_d044e 1 = .ok (.iload_n 1, 1) := by decide +kernel
theorem dJ2_checkBoundsOffCount_d044e_2 : decode cJ2_checkBoundsOffCount_d044e 2 = .ok (.aload_n 2, 1) := by decide +kernel
theorem dJ2_checkBoundsOffCount_d044e_3 : decode cJ2_checkBoundsOffCount_d044e 3 = .ok (.invokestatic 48, 3) := by decide +kernel
theorem dJ2_checkBoundsOffCount_d044e_6 : decode cJ2_checkBoundsOffCount_d044e 6 = .ok (.invokestatic 419, 3) := by decide +kernel
theorem dJ2_checkBoundsOffCount_d044e_9 : decode cJ2_checkBoundsOffCount_d044e 9 = .ok (.pop, 1) := by decide +kernel
theorem dJ2_checkBoundsOffCount_d044e_10 : decode cJ2_checkBoundsOffCount_d044e 10 = .ok (.return_, 1) := by decide +kernel
theorem dJxa1e45_init_da8c8_0 : decode cJxa1e45_init_da8c8 0 = .ok (.aload_n 0, 1) := by decide +kernel
theorem dJxa1e45_init_da8c8_1 : decode cJxa1e45_init_da8c8 1 = .ok (.invokespecial 1, 3) := by decide +kernel
theorem dJxa1e45_init_da8c8_4 : decode cJxa1e45_init_da8c8 4 = .ok (.return_, 1) := by decide +kernel
theorem dJxc12de_init_da8c8_0 : decode cJxc12de_init_da8c8 0 = .ok (.aload_n 0, 1) := by decide +kernel
theorem dJxc12de_init_da8c8_1 : decode cJxc12de_init_da8c8 1 = .ok (.invokespecial 1, 3) := by decide +kernel
theorem dJxc12de_init_da8c8_4 : decode cJxc12de_init_da8c8 4 = .ok (.aload_n 0, 1) := by decide +kernel
theorem dJxc12de_init_da8c8_5 : decode cJxc12de_init_da8c8 5 = .ok (.iconst 0, 1) := by decide +kernel
theorem dJxc12de_init_da8c8_6 : decode cJxc12de_init_da8c8 6 = .ok (.putfield 7, 3) := by decide +kernel
theorem dJxc12de_init_da8c8_9 : decode cJxc12de_init_da8c8 9 = .ok (.return_, 1) := by decide +kernel
theorem dJx4a65c_init_da8c8_0 : decode cJx4a65c_init_da8c8 0 = .ok (.aload_n 0, 1) := by decide +kernel
theorem dJx4a65c_init_da8c8_1 : decode cJx4a65c_init_da8c8 1 = .ok (.invokespecial 1, 3) := by decide +kernel
theorem dJx4a65c_init_da8c8_4 : decode cJx4a65c_init_da8c8 4 = .ok (.aload_n 0, 1) := by decide +kernel
theorem dJx4a65c_init_da8c8_5 : decode cJx4a65c_init_da8c8 5 = .ok (.getstatic 39, 3) := by decide +kernel
theorem dJx4a65c_init_da8c8_8 : decode cJx4a65c_init_da8c8 8 = .ok (.putfield 9, 3) := by decide +kernel
theorem dJx4a65c_init_da8c8_11 : decode cJx4a65c_init_da8c8 11 = .ok (.return_, 1) := by decide +kernel
theorem dJx4a65c_grow_92f84_0 : decode cJx4a65c_grow_92f84 0 = .ok (.aload_n 0, 1) := by decide +kernel
theorem dJx4a65c_grow_92f84_1 : decode cJx4a65c_grow_92f84 1 = .ok (.getfield 9, 3) := by decide +kernel
theorem dJx4a65c_grow_92f84_4 : decode cJx4a65c_grow_92f84 4 = .ok (.arraylength, 1) := by decide +kernel
theorem dJx4a65c_grow_92f84_5 : decode cJx4a65c_grow_92f84 5 = .ok (.istore_n 2, 1) := by decide +kernel
theorem dJx4a65c_grow_92f84_6 : decode cJx4a65c_grow_92f84 6 = .ok (.iload_n 2, 1) := by decide +kernel
theorem dJx4a65c_grow_92f84_7 : decode cJx4a65c_grow_92f84 7 = .ok (.ifCond .gt 13, 3) := by decide +kernel
theorem dJx4a65c_grow_92f84_10 : decode cJx4a65c_grow_92f84 10 = .ok (.aload_n 0, 1) := by decide +kernel
theorem dJx4a65c_grow_92f84_11 : decode cJx4a65c_grow_92f84 11 = .ok (.getfield 9, 3) := by decide +kernel
theorem dJx4a65c_grow_92f84_14 : decode cJx4a65c_grow_92f84 14 = .ok (.getstatic 39, 3) := by decide +kernel
theorem dJx4a65c_grow_92f84_17 : decode cJx4a65c_grow_92f84 17 = .ok (.if_acmp .eq 28, 3) := by decide +kernel
theorem dJx4a65c_grow_92f84_20 : decode cJx4a65c_grow_92f84 20 = .ok (.iload_n 2, 1) := by decide +kernel
theorem dJx4a65c_grow_92f84_21 : decode cJx4a65c_grow_92f84 21 = .ok (.iload_n 1, 1) := by decide +kernel
theorem dJx4a65c_grow_92f84_22 : decode cJx4a65c_grow_92f84 22 = .ok (.iload_n 2, 1) := by decide +kernel
theorem dJx4a65c_grow_92f84_23 : decode cJx4a65c_grow_92f84 23 = .ok (.isub, 1) := by decide +kernel
theorem dJx4a65c_grow_92f84_24 : decode cJx4a65c_grow_92f84 24 = .ok (.iload_n 2, 1) := by decide +kernel
theorem dJx4a65c_grow_92f84_25 : decode cJx4a65c_grow_92f84 25 = .ok (.iconst 1, 1) := by decide +kernel
theorem dJx4a65c_grow_92f84_26 : decode cJx4a65c_grow_92f84 26 = .ok (.ishr, 1) := by decide +kernel
theorem dJx4a65c_grow_92f84_27 : decode cJx4a65c_grow_92f84 27 = .ok (.invokestatic 73, 3) := by decide +kernel
theorem dJx4a65c_grow_92f84_30 : decode cJx4a65c_grow_92f84 30 = .ok (.istore_n 3, 1) := by decide +kernel
theorem dJx4a65c_grow_92f84_31 : decode cJx4a65c_grow_92f84 31 = .ok (.aload_n 0, 1) := by decide +kernel
theorem dJx4a65c_grow_92f84_32 : decode cJx4a65c_grow_92f84 32 = .ok (.aload_n 0, 1) := by decide +kernel
theorem dJx4a65c_grow_92f84_33 : decode cJx4a65c_grow_92f84 33 = .ok (.getfield 9, 3) := by decide +kernel
theorem dJx4a65c_grow_92f84_36 : decode cJx4a65c_grow_92f84 36 = .ok (.iload_n 3, 1) := by decide +kernel
theorem dJx4a65c_grow_92f84_37 : decode cJx4a65c_grow_92f84 37 = .ok (.invokestatic 66, 3) := by decide +kernel
theorem dJx4a65c_grow_92f84_40 : decode cJx4a65c_grow_92f84 40 = .ok (.dup_x1, 1) := by decide +kernel
theorem dJx4a65c_grow_92f84_41 : decode cJx4a65c_grow_92f84 41 = .ok (.putfield 9, 3) := by decide +kernel
theorem dJx4a65c_grow_92f84_44 : decode cJx4a65c_grow_92f84 44 = .ok (.areturn, 1) := by decide +kernel
theorem dJx4a65c_grow_92f84_45 : decode cJx4a65c_grow_92f84 45 = .ok (.aload_n 0, 1) := by decide +kernel
theorem dJx4a65c_grow_92f84_46 : decode cJx4a65c_grow_92f84 46 = .ok (.bipush 10, 2) := by decide +kernel
theorem dJx4a65c_grow_92f84_48 : decode cJx4a65c_grow_92f84 48 = .ok (.iload_n 1, 1) := by decide +kernel
theorem dJx4a65c_grow_92f84_49 : decode cJx4a65c_grow_92f84 49 = .ok (.invokestatic 79, 3) := by decide +kernel
theorem dJx4a65c_grow_92f84_52 : decode cJx4a65c_grow_92f84 52 = .ok (.anewarray 7, 3) := by decide +kernel
theorem dJx4a65c_grow_92f84_55 : decode cJx4a65c_grow_92f84 55 = .ok (.dup_x1, 1) := by decide +kernel
theorem dJx4a65c_grow_92f84_56 : decode cJx4a65c_grow_92f84 56 = .ok (.putfield 9, 3) := by decide +kernel
theorem dJx4a65c_grow_92f84_59 : decode cJx4a65c_grow_92f84 59 = .ok (.areturn, 1) := by decide +kernel
theorem dJx4a65c_grow_d5877_0 : decode cJx4a65c_grow_d5877 0 = .ok (.aload_n 0, 1) := by decide +kernel
theorem dJx4a65c_grow_d5877_1 : decode cJx4a65c_grow_d5877 1 = .ok (.aload_n 0, 1) := by decide +kernel
theorem dJx4a65c_grow_d5877_2 : decode cJx4a65c_grow_d5877 2 = .ok (.getfield 48, 3) := by decide +kernel
theorem dJx4a65c_grow_d5877_5 : decode cJx4a65c_grow_d5877 5 = .ok (.iconst 1, 1) := by decide +kernel
theorem dJx4a65c_grow_d5877_6 : decode cJx4a65c_grow_d5877 6 = .ok (.iadd, 1) := by decide +kernel
theorem dJx4a65c_grow_d5877_7 : decode cJx4a65c_grow_d5877 7 = .ok (.invokevirtual 69, 3) := by decide +kernel
theorem dJx4a65c_grow_d5877_10 : decode cJx4a65c_grow_d5877 10 = .ok (.areturn, 1) := by decide +kernel
theorem dJx4a65c_size_8abf5_0 : decode cJx4a65c_size_8abf5 0 = .ok (.aload_n 0, 1) := by decide +kernel
theorem dJx4a65c_size_8abf5_1 : decode cJx4a65c_size_8abf5 1 = .ok (.getfield 48, 3) := by decide +kernel
theorem dJx4a65c_size_8abf5_4 : decode cJx4a65c_size_8abf5 4 = .ok (.ireturn, 1) := by decide +kernel
theorem dJx4a65c_isEmpty_aae02_0 : decode cJx4a65c_isEmpty_aae02 0 = .ok (.aload_n 0, 1) := by decide +kernel
theorem dJx4a65c_isEmpty_aae02_1 : decode cJx4a65c_isEmpty_aae02 1 = .ok (.getfield 48, 3) := by decide +kernel
theorem dJx4a65c_isEmpty_aae02_4 : decode cJx4a65c_isEmpty_aae02 4 = .ok (.ifCond .ne 7, 3) := by decide +kernel
theorem dJx4a65c_isEmpty_aae02_7 : decode cJx4a65c_isEmpty_aae02 7 = .ok (.iconst 1, 1) := by decide +kernel
theorem dJx4a65c_isEmpty_aae02_8 : decode cJx4a65c_isEmpty_aae02 8 = .ok (.goto 4, 3) := by decide +kernel
theorem dJx4a65c_isEmpty_aae02_11 : decode cJx4a65c_isEmpty_aae02 11 = .ok (.iconst 0, 1) := by decide +kernel
theorem dJx4a65c_isEmpty_aae02_12 : decode cJx4a65c_isEmpty_aae02 12 = .ok (.ireturn, 1) := by decide +kernel
theorem dJx4a65c_elementData_915e3_0 : decode cJx4a65c_elementData_915e3 0 = .ok (.aload_n 0, 1) := by decide +kernel
theorem dJx4a65c_elementData_915e3_1 : decode cJx4a65c_elementData_915e3 1 = .ok (.getfield 9, 3) := by decide +kernel
theorem dJx4a65c_elementData_915e3_4 : decode cJx4a65c_elementData_915e3 4 = .ok (.iload_n 1, 1) := by decide +kernel
theorem dJx4a65c_elementData_915e3_5 : decode cJx4a65c_elementData_915e3 5 = .ok (.aaload, 1) := by decide +kernel
theorem dJx4a65c_elementData_915e3_6 : decode cJx4a65c_elementData_915e3 6 = .ok (.areturn, 1) := by decide +kernel
theorem dJx4a65c_get_915e3_0 : decode cJx4a65c_get_915e3 0 = .ok (.iload_n 1, 1) := by decide +kernel
theorem dJx4a65c_get_915e3_1 : decode cJx4a65c_get_915e3 1 = .ok (.aload_n 0, 1) := by decide +kernel
theorem dJx4a65c_get_915e3_2 : decode cJx4a65c_get_915e3 2 = .ok (.getfield 48, 3) := by decide +kernel
theorem dJx4a65c_get_915e3_5 : decode cJx4a65c_get_915e3 5 = .ok (.invokestatic 118, 3) := by decide +kernel
theorem dJx4a65c_get_915e3_8 : decode cJx4a65c_get_915e3 8 = .ok (.pop, 1) := by decide +kernel
theorem dJx4a65c_get_915e3_9 : decode cJx4a65c_get_915e3 9 = .ok (.aload_n 0, 1) := by decide +kernel
theorem dJx4a65c_get_915e3_10 : decode cJx4a65c_get_915e3 10 = .ok (.iload_n 1, 1) := by decide +kernel
theorem dJx4a65c_get_915e3_11 : decode cJx4a65c_get_915e3 11 = .ok (.invokevirtual 123, 3) := by decide +kernel
theorem dJx4a65c_get_915e3_14 : decode cJx4a65c_get_915e3 14 = .ok (.areturn, 1) := by decide +kernel
theorem dJx4a65c_add_72be8_0 : decode cJx4a65c_add_72be8 0 = .ok (.iload_n 3, 1) := by decide +kernel
theorem dJx4a65c_add_72be8_1 : decode cJx4a65c_add_72be8 1 = .ok (.aload_n 2, 1) := by decide +kernel
theorem dJx4a65c_add_72be8_2 : decode cJx4a65c_add_72be8 2 = .ok (.arraylength, 1) := by decide +kernel
theorem dJx4a65c_add_72be8_3 : decode cJx4a65c_add_72be8 3 = .ok (.if_icmp .ne 8, 3) := by decide +kernel
theorem dJx4a65c_add_72be8_6 : decode cJx4a65c_add_72be8 6 = .ok (.aload_n 0, 1) := by decide +kernel
theorem dJx4a65c_add_72be8_7 : decode cJx4a65c_add_72be8 7 = .ok (.invokevirtual 129, 3) := by decide +kernel
theorem dJx4a65c_add_72be8_10 : decode cJx4a65c_add_72be8 10 = .ok (.astore_n 2, 1) := by decide +kernel
theorem dJx4a65c_add_72be8_11 : decode cJx4a65c_add_72be8 11 = .ok (.aload_n 2, 1) := by decide +kernel
theorem dJx4a65c_add_72be8_12 : decode cJx4a65c_add_72be8 12 = .ok (.iload_n 3, 1) := by decide +kernel
theorem dJx4a65c_add_72be8_13 : decode cJx4a65c_add_72be8 13 = .ok (.aload_n 1, 1) := by decide +kernel
theorem dJx4a65c_add_72be8_14 : decode cJx4a65c_add_72be8 14 = .ok (.aastore, 1) := by decide +kernel
theorem dJx4a65c_add_72be8_15 : decode cJx4a65c_add_72be8 15 = .ok (.aload_n 0, 1) := by decide +kernel
theorem dJx4a65c_add_72be8_16 : decode cJx4a65c_add_72be8 16 = .ok (.iload_n 3, 1) := by decide +kernel
theorem dJx4a65c_add_72be8_17 : decode cJx4a65c_add_72be8 17 = .ok (.iconst 1, 1) := by decide +kernel
theorem dJx4a65c_add_72be8_18 : decode cJx4a65c_add_72be8 18 = .ok (.iadd, 1) := by decide +kernel
theorem dJx4a65c_add_72be8_19 : decode cJx4a65c_add_72be8 19 = .ok (.putfield 48, 3) := by decide +kernel
theorem dJx4a65c_add_72be8_22 : decode cJx4a65c_add_72be8 22 = .ok (.return_, 1) := by decide +kernel
theorem dJx4a65c_add_9ea2d_0 : decode cJx4a65c_add_9ea2d 0 = .ok (.aload_n 0, 1) := by decide +kernel
theorem dJx4a65c_add_9ea2d_1 : decode cJx4a65c_add_9ea2d 1 = .ok (.dup, 1) := by decide +kernel
theorem dJx4a65c_add_9ea2d_2 : decode cJx4a65c_add_9ea2d 2 = .ok (.getfield 63, 3) := by decide +kernel
theorem dJx4a65c_add_9ea2d_5 : decode cJx4a65c_add_9ea2d 5 = .ok (.iconst 1, 1) := by decide +kernel
theorem dJx4a65c_add_9ea2d_6 : decode cJx4a65c_add_9ea2d 6 = .ok (.iadd, 1) := by decide +kernel
theorem dJx4a65c_add_9ea2d_7 : decode cJx4a65c_add_9ea2d 7 = .ok (.putfield 63, 3) := by decide +kernel
theorem dJx4a65c_add_9ea2d_10 : decode cJx4a65c_add_9ea2d 10 = .ok (.aload_n 0, 1) := by decide +kernel
theorem dJx4a65c_add_9ea2d_11 : decode cJx4a65c_add_9ea2d 11 = .ok (.aload_n 1, 1) := by decide +kernel
theorem dJx4a65c_add_9ea2d_12 : decode cJx4a65c_add_9ea2d 12 = .ok (.aload_n 0, 1) := by decide +kernel
theorem dJx4a65c_add_9ea2d_13 : decode cJx4a65c_add_9ea2d 13 = .ok (.getfield 9, 3) := by decide +kernel
theorem dJx4a65c_add_9ea2d_16 : decode cJx4a65c_add_9ea2d 16 = .ok (.aload_n 0, 1) := by decide +kernel
theorem dJx4a65c_add_9ea2d_17 : decode cJx4a65c_add_9ea2d 17 = .ok (.getfield 48, 3) := by decide +kernel
theorem dJx4a65c_add_9ea2d_20 : decode cJx4a65c_add_9ea2d 20 = .ok (.invokevirtual 131, 3) := by decide +kernel
theorem dJx4a65c_add_9ea2d_23 : decode cJx4a65c_add_9ea2d 23 = .ok (.iconst 1, 1) := by decide +kernel
theorem dJx4a65c_add_9ea2d_24 : decode cJx4a65c_add_9ea2d 24 = .ok (.ireturn, 1) := by decide +kernel
theorem dJx4a65c_add_7a177_0 : decode cJx4a65c_add_7a177 0 = .ok (.aload_n 0, 1) := by decide +kernel
theorem dJx4a65c_add_7a177_1 : decode cJx4a65c_add_7a177 1 = .ok (.iload_n 1, 1) := by decide +kernel
theorem dJx4a65c_add_7a177_2 : decode cJx4a65c_add_7a177 2 = .ok (.invokevirtual 135, 3) := by decide +kernel
theorem dJx4a65c_add_7a177_5 : decode cJx4a65c_add_7a177 5 = .ok (.aload_n 0, 1) := by decide +kernel
theorem dJx4a65c_add_7a177_6 : decode cJx4a65c_add_7a177 6 = .ok (.dup, 1) := by decide +kernel
theorem dJx4a65c_add_7a177_7 : decode cJx4a65c_add_7a177 7 = .ok (.getfield 63, 3) := by decide +kernel
theorem dJx4a65c_add_7a177_10 : decode cJx4a65c_add_7a177 10 = .ok (.iconst 1, 1) := by decide +kernel
theorem dJx4a65c_add_7a177_11 : decode cJx4a65c_add_7a177 11 = .ok (.iadd, 1) := by decide +kernel
theorem dJx4a65c_add_7a177_12 : decode cJx4a65c_add_7a177 12 = .ok (.putfield 63, 3) := by decide +kernel
theorem dJx4a65c_add_7a177_15 : decode cJx4a65c_add_7a177 15 = .ok (.aload_n 0, 1) := by decide +kernel
theorem dJx4a65c_add_7a177_16 : decode cJx4a65c_add_7a177 16 = .ok (.getfield 48, 3) := by decide +kernel
theorem dJx4a65c_add_7a177_19 : decode cJx4a65c_add_7a177 19 = .ok (.dup, 1) := by decide +kernel
theorem dJx4a65c_add_7a177_20 : decode cJx4a65c_add_7a177 20 = .ok (.istore_n 3, 1) := by decide +kernel
theorem dJx4a65c_add_7a177_21 : decode cJx4a65c_add_7a177 21 = .ok (.aload_n 0, 1) := by decide +kernel
theorem dJx4a65c_add_7a177_22 : decode cJx4a65c_add_7a177 22 = .ok (.getfield 9, 3) := by decide +kernel
theorem dJx4a65c_add_7a177_25 : decode cJx4a65c_add_7a177 25 = .ok (.dup, 1) := by decide +kernel
theorem dJx4a65c_add_7a177_26 : decode cJx4a65c_add_7a177 26 = .ok (.astore 4, 2) := by decide +kernel
theorem dJx4a65c_add_7a177_28 : decode cJx4a65c_add_7a177 28 = .ok (.arraylength, 1) := by decide +kernel
theorem dJx4a65c_add_7a177_29 : decode cJx4a65c_add_7a177 29 = .ok (.if_icmp .ne 9, 3) := by decide +kernel
theorem dJx4a65c_add_7a177_32 : decode cJx4a65c_add_7a177 32 = .ok (.aload_n 0, 1) := by decide +kernel
theorem dJx4a65c_add_7a177_33 : decode cJx4a65c_add_7a177 33 = .ok (.invokevirtual 129, 3) := by decide +kernel
theorem dJx4a65c_add_7a177_36 : decode cJx4a65c_add_7a177 36 = .ok (.astore 4, 2) := by decide +kernel
theorem dJx4a65c_add_7a177_38 : decode cJx4a65c_add_7a177 38 = .ok (.aload 4, 2) := by decide +kernel
theorem dJx4a65c_add_7a177_40 : decode cJx4a65c_add_7a177 40 = .ok (.iload_n 1, 1) := by decide +kernel
theorem dJx4a65c_add_7a177_41 : decode cJx4a65c_add_7a177 41 = .ok (.aload 4, 2) := by decide +kernel
theorem dJx4a65c_add_7a177_43 : decode cJx4a65c_add_7a177 43 = .ok (.iload_n 1, 1) := by decide +kernel
theorem dJx4a65c_add_7a177_44 : decode cJx4a65c_add_7a177 44 = .ok (.iconst 1, 1) := by decide +kernel
theorem dJx4a65c_add_7a177_45 : decode cJx4a65c_add_7a177 45 = .ok (.iadd, 1) := by decide +kernel
theorem dJx4a65c_add_7a177_46 : decode cJx4a65c_add_7a177 46 = .ok (.iload_n 3, 1) := by decide +kernel
theorem dJx4a65c_add_7a177_47 : decode cJx4a65c_add_7a177 47 = .ok (.iload_n 1, 1) := by decide +kernel
theorem dJx4a65c_add_7a177_48 : decode cJx4a65c_add_7a177 48 = .ok (.isub, 1) := by decide +kernel
theorem dJx4a65c_add_7a177_49 : decode cJx4a65c_add_7a177 49 = .ok (.invokestatic 112, 3) := by decide +kernel
theorem dJx4a65c_add_7a177_52 : decode cJx4a65c_add_7a177 52 = .ok (.aload 4, 2) := by decide +kernel
theorem dJx4a65c_add_7a177_54 : decode cJx4a65c_add_7a177 54 = .ok (.iload_n 1, 1) := by decide +kernel
theorem dJx4a65c_add_7a177_55 : decode cJx4a65c_add_7a177 55 = .ok (.aload_n 2, 1) := by decide +kernel
theorem dJx4a65c_add_7a177_56 : decode cJx4a65c_add_7a177 56 = .ok (.aastore, 1) := by decide +kernel
theorem dJx4a65c_add_7a177_57 : decode cJx4a65c_add_7a177 57 = .ok (.aload_n 0, 1) := by decide +kernel
theorem dJx4a65c_add_7a177_58 : decode cJx4a65c_add_7a177 58 = .ok (.iload_n 3, 1) := by decide +kernel
theorem dJx4a65c_add_7a177_59 : decode cJx4a65c_add_7a177 59 = .ok (.iconst 1, 1) := by decide +kernel
theorem dJx4a65c_add_7a177_60 : decode cJx4a65c_add_7a177 60 = .ok (.iadd, 1) := by decide +kernel
theorem dJx4a65c_add_7a177_61 : decode cJx4a65c_add_7a177 61 = .ok (.putfield 48, 3) := by decide +kernel
theorem dJx4a65c_add_7a177_64 : decode cJx4a65c_add_7a177 64 = .ok (.return_, 1) := by decide +kernel
theorem dJx4a65c_rangeCheckForAdd_d00df_0 : decode cJx4a65c_rangeCheckForAdd_d00df 0 = .ok (.iload_n 1, 1) := by decide +kernel
theorem dJx4a65c_rangeCheckForAdd_d00df_1 : decode cJx4a65c_rangeCheckForAdd_d00df 1 = .ok (.aload_n 0, 1) := by decide +kernel
theorem dJx4a65c_rangeCheckForAdd_d00df_2 : decode cJx4a65c_rangeCheckForAdd_d00df 2 = .ok (.getfield 48, 3) := by decide +kernel
theorem dJx4a65c_rangeCheckForAdd_d00df_5 : decode cJx4a65c_rangeCheckForAdd_d00df 5 = .ok (.if_icmp .gt 7, 3) := by decide +kernel
theorem dJx4a65c_rangeCheckForAdd_d00df_8 : decode cJx4a65c_rangeCheckForAdd_d00df 8 = .ok (.iload_n 1, 1) := by decide +kernel
theorem dJx4a65c_rangeCheckForAdd_d00df_9 : decode cJx4a65c_rangeCheckForAdd_d00df 9 = .ok (.ifCond .ge 16, 3) := by decide +kernel
theorem dJx4a65c_rangeCheckForAdd_d00df_12 : decode cJx4a65c_rangeCheckForAdd_d00df 12 = .ok (.new 187, 3) := by decide +kernel
theorem dJx4a65c_rangeCheckForAdd_d00df_15 : decode cJx4a65c_rangeCheckForAdd_d00df 15 = .ok (.dup, 1) := by decide +kernel
theorem dJx4a65c_rangeCheckForAdd_d00df_16 : decode cJx4a65c_rangeCheckForAdd_d00df 16 = .ok (.aload_n 0, 1) := by decide +kernel
theorem dJx4a65c_rangeCheckForAdd_d00df_17 : decode cJx4a65c_rangeCheckForAdd_d00df 17 = .ok (.iload_n 1, 1) := by decide +kernel
theorem dJx4a65c_rangeCheckForAdd_d00df_18 : decode cJx4a65c_rangeCheckForAdd_d00df 18 = .ok (.invokevirtual 198, 3) := by decide +kernel
theorem dJx4a65c_rangeCheckForAdd_d00df_21 : decode cJx4a65c_rangeCheckForAdd_d00df 21 = .ok (.invokespecial 193, 3) := by decide +kernel
theorem dJx4a65c_rangeCheckForAdd_d00df_24 : decode cJx4a65c_rangeCheckForAdd_d00df 24 = .ok (.athrow, 1) := by decide +kernel
theorem dJx4a65c_rangeCheckForAdd_d00df_25 : decode cJx4a65c_rangeCheckForAdd_d00df 25 = .ok (.return_, 1) := by decide +kernel
theorem dJ7_copyOf_1904c_0 : decode cJ7_copyOf_1904c 0 = .ok (.aload_n 0, 1) := by decide +kernel
theorem dJ7_copyOf_1904c_1 : decode cJ7_copyOf_1904c 1 = .ok (.iload_n 1, 1) := by decide +kernel
theorem dJ7_copyOf_1904c_2 : decode cJ7_copyOf_1904c 2 = .ok (.aload_n 0, 1) := by decide +kernel
theorem dJ7_copyOf_1904c_3 : decode cJ7_copyOf_1904c 3 = .ok (.invokevirtual 86, 3) := by decide +kernel
theorem dJ7_copyOf_1904c_6 : decode cJ7_copyOf_1904c 6 = .ok (.invokestatic 300, 3) := by decide +kernel
theorem dJ7_copyOf_1904c_9 : decode cJ7_copyOf_1904c 9 = .ok (.areturn, 1) := by decide +kernel
theorem dJ7_copyOf_6403c_0 : decode cJ7_copyOf_6403c 0 = .ok (.aload_n 2, 1) := by decide +kernel
theorem dJ7_copyOf_6403c_1 : decode cJ7_copyOf_6403c 1 = .ok (.ldc 110, 2) := by decide +kernel
theorem dJ7_copyOf_6403c_3 : decode cJ7_copyOf_6403c 3 = .ok (.if_acmp .ne 10, 3) := by decide +kernel
theorem dJ7_copyOf_6403c_6 : decode cJ7_copyOf_6403c 6 = .ok (.iload_n 1, 1) := by decide +kernel
theorem dJ7_copyOf_6403c_7 : decode cJ7_copyOf_6403c 7 = .ok (.anewarray 2, 3) := by decide +kernel
theorem dJ7_copyOf_6403c_10 : decode cJ7_copyOf_6403c 10 = .ok (.goto 14, 3) := by decide +kernel
theorem dJ7_copyOf_6403c_13 : decode cJ7_copyOf_6403c 13 = .ok (.aload_n 2, 1) := by decide +kernel
theorem dJ7_copyOf_6403c_14 : decode cJ7_copyOf_6403c 14 = .ok (.invokevirtual 90, 3) := by decide +kernel
theorem dJ7_copyOf_6403c_17 : decode cJ7_copyOf_6403c 17 = .ok (.iload_n 1, 1) := by decide +kernel
theorem dJ7_copyOf_6403c_18 : decode cJ7_copyOf_6403c 18 = .ok (.invokestatic 95, 3) := by decide +kernel
theorem dJ7_copyOf_6403c_21 : decode cJ7_copyOf_6403c 21 = .ok (.checkcast 110, 3) := by decide +kernel
theorem dJ7_copyOf_6403c_24 : decode cJ7_copyOf_6403c 24 = .ok (.astore_n 3, 1) := by decide +kernel
theorem dJ7_copyOf_6403c_25 : decode cJ7_copyOf_6403c 25 = .ok (.aload_n 0, 1) := by decide +kernel
theorem dJ7_copyOf_6403c_26 : decode cJ7_copyOf_6403c 26 = .ok (.iconst 0, 1) := by decide +kernel
theorem dJ7_copyOf_6403c_27 : decode cJ7_copyOf_6403c 27 = .ok (.aload_n 3, 1) := by decide +kernel
theorem dJ7_copyOf_6403c_28 : decode cJ7_copyOf_6403c 28 = .ok (.iconst 0, 1) := by decide +kernel
theorem dJ7_copyOf_6403c_29 : decode cJ7_copyOf_6403c 29 = .ok (.aload_n 0, 1) := by decide +kernel
theorem dJ7_copyOf_6403c_30 : decode cJ7_copyOf_6403c 30 = .ok (.arraylength, 1) := by decide +kernel
theorem dJ7_copyOf_6403c_31 : decode cJ7_copyOf_6403c 31 = .ok (.iload_n 1, 1) := by decide +kernel
theorem dJ7_copyOf_6403c_32 : decode cJ7_copyOf_6403c 32 = .ok (.invokestatic 304, 3) := by decide +kernel
theorem dJ7_copyOf_6403c_35 : decode cJ7_copyOf_6403c 35 = .ok (.invokestatic 150, 3) := by decide +kernel
theorem dJ7_copyOf_6403c_38 : decode cJ7_copyOf_6403c 38 = .ok (.aload_n 3, 1) := by decide +kernel
theorem dJ7_copyOf_6403c_39 : decode cJ7_copyOf_6403c 39 = .ok (.areturn, 1) := by decide +kernel
theorem dJ7_copyOf_9075b_0 : decode cJ7_copyOf_9075b 0 = .ok (.iload_n 1, 1) := by decide +kernel
theorem dJ7_copyOf_9075b_1 : decode cJ7_copyOf_9075b 1 = .ok (.aload_n 0, 1) := by decide +kernel
theorem dJ7_copyOf_9075b_2 : decode cJ7_copyOf_9075b 2 = .ok (.arraylength, 1) := by decide +kernel
theorem dJ7_copyOf_9075b_3 : decode cJ7_copyOf_9075b 3 = .ok (.if_icmp .ne 11, 3) := by decide +kernel
theorem dJ7_copyOf_9075b_6 : decode cJ7_copyOf_9075b 6 = .ok (.aload_n 0, 1) := by decide +kernel
theorem dJ7_copyOf_9075b_7 : decode cJ7_copyOf_9075b 7 = .ok (.invokevirtual 310, 3) := by decide +kernel
theorem dJ7_copyOf_9075b_10 : decode cJ7_copyOf_9075b 10 = .ok (.checkcast 311, 3) := by decide +kernel
theorem dJ7_copyOf_9075b_13 : decode cJ7_copyOf_9075b 13 = .ok (.areturn, 1) := by decide +kernel
theorem dJ7_copyOf_9075b_14 : decode cJ7_copyOf_9075b 14 = .ok (.iload_n 1, 1) := by decide +kernel
theorem dJ7_copyOf_9075b_15 : decode cJ7_copyOf_9075b 15 = .ok (.newarray .byte, 2) := by decide +kernel
theorem dJ7_copyOf_9075b_17 : decode cJ7_copyOf_9075b 17 = .ok (.astore_n 2, 1) := by decide +kernel
theorem dJ7_copyOf_9075b_18 : decode cJ7_copyOf_9075b 18 = .ok (.aload_n 0, 1) := by decide +kernel
theorem dJ7_copyOf_9075b_19 : decode cJ7_copyOf_9075b 19 = .ok (.iconst 0, 1) := by decide +kernel
theorem dJ7_copyOf_9075b_20 : decode cJ7_copyOf_9075b 20 = .ok (.aload_n 2, 1) := by decide +kernel
theorem dJ7_copyOf_9075b_21 : decode cJ7_copyOf_9075b 21 = .ok (.iconst 0, 1) := by decide +kernel
theorem dJ7_copyOf_9075b_22 : decode cJ7_copyOf_9075b 22 = .ok (.aload_n 0, 1) := by decide +kernel
theorem dJ7_copyOf_9075b_23 : decode cJ7_copyOf_9075b 23 = .ok (.arraylength, 1) := by decide +kernel
theorem dJ7_copyOf_9075b_24 : decode cJ7_copyOf_9075b 24 = .ok (.iload_n 1, 1) := by decide +kernel
theorem dJ7_copyOf_9075b_25 : decode cJ7_copyOf_9075b 25 = .ok (.invokestatic 304, 3) := by decide +kernel
theorem dJ7_copyOf_9075b_28 : decode cJ7_copyOf_9075b 28 = .ok (.invokestatic 150, 3) := by decide +kernel
theorem dJ7_copyOf_9075b_31 : decode cJ7_copyOf_9075b 31 = .ok (.aload_n 2, 1) := by decide +kernel
theorem dJ7_copyOf_9075b_32 : decode cJ7_copyOf_9075b 32 = .ok (.areturn, 1) := by decide +kernel
theorem dJ15_checkIndex_7cf53_0 : decode cJ15_checkIndex_7cf53 0 = .ok (.iload_n 0, 1) := by decide +kernel
theorem dJ15_checkIndex_7cf53_1 : decode cJ15_checkIndex_7cf53 1 = .ok (.iload_n 1, 1) := by decide +kernel
theorem dJ15_checkIndex_7cf53_2 : decode cJ15_checkIndex_7cf53 2 = .ok (.aconst_null, 1) := by decide +kernel
theorem dJ15_checkIndex_7cf53_3 : decode cJ15_checkIndex_7cf53 3 = .ok (.invokestatic 105, 3) := by decide +kernel
theorem dJ15_checkIndex_7cf53_6 : decode cJ15_checkIndex_7cf53 6 = .ok (.ireturn, 1) := by decide +kernel
theorem dJ8_newLength_cabcc_0 : decode cJ8_newLength_cabcc 0 = .ok (.iload_n 0, 1) := by decide +kernel
theorem dJ8_newLength_cabcc_1 : decode cJ8_newLength_cabcc 1 = .ok (.iload_n 1, 1) := by decide +kernel
theorem dJ8_newLength_cabcc_2 : decode cJ8_newLength_cabcc 2 = .ok (.iload_n 2, 1) := by decide +kernel
theorem dJ8_newLength_cabcc_3 : decode cJ8_newLength_cabcc 3 = .ok (.invokestatic 194, 3) := by decide +kernel
theorem dJ8_newLength_cabcc_6 : decode cJ8_newLength_cabcc 6 = .ok (.iadd, 1) := by decide +kernel
theorem dJ8_newLength_cabcc_7 : decode cJ8_newLength_cabcc 7 = .ok (.istore_n 3, 1) := by decide +kernel
theorem dJ8_newLength_cabcc_8 : decode cJ8_newLength_cabcc 8 = .ok (.iconst 0, 1) := by decide +kernel
theorem dJ8_newLength_cabcc_9 : decode cJ8_newLength_cabcc 9 = .ok (.iload_n 3, 1) := by decide +kernel
theorem dJ8_newLength_cabcc_10 : decode cJ8_newLength_cabcc 10 = .ok (.if_icmp .ge 11, 3) := by decide +kernel
theorem dJ8_newLength_cabcc_13 : decode cJ8_newLength_cabcc 13 = .ok (.iload_n 3, 1) := by decide +kernel
theorem dJ8_newLength_cabcc_14 : decode cJ8_newLength_cabcc 14 = .ok (.ldc 200, 2) := by decide +kernel
theorem dJ8_newLength_cabcc_16 : decode cJ8_newLength_cabcc 16 = .ok (.if_icmp .gt 5, 3) := by decide +kernel
theorem dJ8_newLength_cabcc_19 : decode cJ8_newLength_cabcc 19 = .ok (.iload_n 3, 1) := by decide +kernel
theorem dJ8_newLength_cabcc_20 : decode cJ8_newLength_cabcc 20 = .ok (.ireturn, 1) := by decide +kernel
theorem dJ8_newLength_cabcc_21 : decode cJ8_newLength_cabcc 21 = .ok (.iload_n 0, 1) := by decide +kernel
theorem dJ8_newLength_cabcc_22 : decode cJ8_newLength_cabcc 22 = .ok (.iload_n 1, 1) := by decide +kernel
theorem dJ8_newLength_cabcc_23 : decode cJ8_newLength_cabcc 23 = .ok (.invokestatic 201, 3) := by decide +kernel
theorem dJ8_newLength_cabcc_26 : decode cJ8_newLength_cabcc 26 = .ok (.ireturn, 1) := by decide +kernel
theorem dJ8_hugeLength_7cf53_0 : decode cJ8_hugeLength_7cf53 0 = .ok (.iload_n 0, 1) := by decide +kernel
theorem dJ8_hugeLength_7cf53_1 : decode cJ8_hugeLength_7cf53 1 = .ok (.iload_n 1, 1) := by decide +kernel
theorem dJ8_hugeLength_7cf53_2 : decode cJ8_hugeLength_7cf53 2 = .ok (.iadd, 1) := by decide +kernel
theorem dJ8_hugeLength_7cf53_3 : decode cJ8_hugeLength_7cf53 3 = .ok (.istore_n 2, 1) := by decide +kernel
theorem dJ8_hugeLength_7cf53_4 : decode cJ8_hugeLength_7cf53 4 = .ok (.iload_n 2, 1) := by decide +kernel
theorem dJ8_hugeLength_7cf53_5 : decode cJ8_hugeLength_7cf53 5 = .ok (.ifCond .ge 44, 3) := by decide +kernel
theorem dJ8_hugeLength_7cf53_8 : decode cJ8_hugeLength_7cf53 8 = .ok (.new 204, 3) := by decide +kernel
theorem dJ8_hugeLength_7cf53_11 : decode cJ8_hugeLength_7cf53 11 = .ok (.dup, 1) := by decide +kernel
theorem dJ8_hugeLength_7cf53_12 : decode cJ8_hugeLength_7cf53 12 = .ok (.new 89, 3) := by decide +kernel
theorem dJ8_hugeLength_7cf53_15 : decode cJ8_hugeLength_7cf53 15 = .ok (.dup, 1) := by decide +kernel
theorem dJ8_hugeLength_7cf53_16 : decode cJ8_hugeLength_7cf53 16 = .ok (.invokespecial 91, 3) := by decide +kernel
theorem dJ8_hugeLength_7cf53_19 : decode cJ8_hugeLength_7cf53 19 = .ok (.ldc 206, 2) := by decide +kernel
theorem dJ8_hugeLength_7cf53_21 : decode cJ8_hugeLength_7cf53 21 = .ok (.invokevirtual 94, 3) := by decide +kernel
theorem dJ8_hugeLength_7cf53_24 : decode cJ8_hugeLength_7cf53 24 = .ok (.iload_n 0, 1) := by decide +kernel
theorem dJ8_hugeLength_7cf53_25 : decode cJ8_hugeLength_7cf53 25 = .ok (.invokevirtual 98, 3) := by decide +kernel
theorem dJ8_hugeLength_7cf53_28 : decode cJ8_hugeLength_7cf53 28 = .ok (.ldc 208, 2) := by decide +kernel
theorem dJ8_hugeLength_7cf53_30 : decode cJ8_hugeLength_7cf53 30 = .ok (.invokevirtual 94, 3) := by decide +kernel
theorem dJ8_hugeLength_7cf53_33 : decode cJ8_hugeLength_7cf53 33 = .ok (.iload_n 1, 1) := by decide +kernel
theorem dJ8_hugeLength_7cf53_34 : decode cJ8_hugeLength_7cf53 34 = .ok (.invokevirtual 98, 3) := by decide +kernel
theorem dJ8_hugeLength_7cf53_37 : decode cJ8_hugeLength_7cf53 37 = .ok (.ldc 210, 2) := by decide +kernel
theorem dJ8_hugeLength_7cf53_39 : decode cJ8_hugeLength_7cf53 39 = .ok (.invokevirtual 94, 3) := by decide +kernel
theorem dJ8_hugeLength_7cf53_42 : decode cJ8_hugeLength_7cf53 42 = .ok (.invokevirtual 101, 3) := by decide +kernel
theorem dJ8_hugeLength_7cf53_45 : decode cJ8_hugeLength_7cf53 45 = .ok (.invokespecial 212, 3) := by decide +kernel
theorem dJ8_hugeLength_7cf53_48 : decode cJ8_hugeLength_7cf53 48 = .ok (.athrow, 1) := by decide +kernel
theorem dJ8_hugeLength_7cf53_49 : decode cJ8_hugeLength_7cf53 49 = .ok (.iload_n 2, 1) := by decide +kernel
theorem dJ8_hugeLength_7cf53_50 : decode cJ8_hugeLength_7cf53 50 = .ok (.ldc 200, 2) := by decide +kernel
theorem dJ8_hugeLength_7cf53_52 : decode cJ8_hugeLength_7cf53 52 = .ok (.if_icmp .gt 6, 3) := by decide +kernel
theorem dJ8_hugeLength_7cf53_55 : decode cJ8_hugeLength_7cf53 55 = .ok (.ldc 200, 2) := by decide +kernel
theorem dJ8_hugeLength_7cf53_57 : decode cJ8_hugeLength_7cf53 57 = .ok (.ireturn, 1) := by decide +kernel
theorem dJ8_hugeLength_7cf53_58 : decode cJ8_hugeLength_7cf53 58 = .ok (.iload_n 2, 1) := by decide +kernel
theorem dJ8_hugeLength_7cf53_59 : decode cJ8_hugeLength_7cf53 59 = .ok (.ireturn, 1) := by decide +kernel
theorem dJ3_checkIndex_8e157_0 : decode cJ3_checkIndex_8e157 0 = .ok (.iload_n 0, 1) := by decide +kernel
theorem dJ3_checkIndex_8e157_1 : decode cJ3_checkIndex_8e157 1 = .ok (.ifCond .lt 8, 3) := by decide +kernel
theorem dJ3_checkIndex_8e157_4 : decode cJ3_checkIndex_8e157 4 = .ok (.iload_n 0, 1) := by decide +kernel
theorem dJ3_checkIndex_8e157_5 : decode cJ3_checkIndex_8e157 5 = .ok (.iload_n 1, 1) := by decide +kernel
theorem dJ3_checkIndex_8e157_6 : decode cJ3_checkIndex_8e157 6 = .ok (.if_icmp .lt 10, 3) := by decide +kernel
theorem dJ3_checkIndex_8e157_9 : decode cJ3_checkIndex_8e157 9 = .ok (.aload_n 2, 1) := by decide +kernel
theorem dJ3_checkIndex_8e157_10 : decode cJ3_checkIndex_8e157 10 = .ok (.iload_n 0, 1) := by decide +kernel
theorem dJ3_checkIndex_8e157_11 : decode cJ3_checkIndex_8e157 11 = .ok (.iload_n 1, 1) := by decide +kernel
theorem dJ3_checkIndex_8e157_12 : decode cJ3_checkIndex_8e157 12 = .ok (.invokestatic 95, 3) := by decide +kernel
theorem dJ3_checkIndex_8e157_15 : decode cJ3_checkIndex_8e157 15 = .ok (.athrow, 1) := by decide +kernel
theorem dJ3_checkIndex_8e157_16 : decode cJ3_checkIndex_8e157 16 = .ok (.iload_n 0, 1) := by decide +kernel
theorem dJ3_checkIndex_8e157_17 : decode cJ3_checkIndex_8e157 17 = .ok (.ireturn, 1) := by decide +kernel
theorem dJ3_checkFromToIndex_8c36e_0 : decode cJ3_checkFromToIndex_8c36e 0 = .ok (.iload_n 0, 1) := by decide +kernel
theorem dJ3_checkFromToIndex_8c36e_1 : decode cJ3_checkFromToIndex_8c36e 1 = .ok (.ifCond .lt 13, 3) := by decide +kernel
theorem dJ3_checkFromToIndex_8c36e_4 : decode cJ3_checkFromToIndex_8c36e 4 = .ok (.iload_n 0, 1) := by decide +kernel
theorem dJ3_checkFromToIndex_8c36e_5 : decode cJ3_checkFromToIndex_8c36e 5 = .ok (.iload_n 1, 1) := by decide +kernel
theorem dJ3_checkFromToIndex_8c36e_6 : decode cJ3_checkFromToIndex_8c36e 6 = .ok (.if_icmp .gt 8, 3) := by decide +kernel
theorem dJ3_checkFromToIndex_8c36e_9 : decode cJ3_checkFromToIndex_8c36e 9 = .ok (.iload_n 1, 1) := by decide +kernel
theorem dJ3_checkFromToIndex_8c36e_10 : decode cJ3_checkFromToIndex_8c36e 10 = .ok (.iload_n 2, 1) := by decide +kernel
theorem dJ3_checkFromToIndex_8c36e_11 : decode cJ3_checkFromToIndex_8c36e 11 = .ok (.if_icmp .le 11, 3) := by decide +kernel
theorem dJ3_checkFromToIndex_8c36e_14 : decode cJ3_checkFromToIndex_8c36e 14 = .ok (.aload_n 3, 1) := by decide +kernel
theorem dJ3_checkFromToIndex_8c36e_15 : decode cJ3_checkFromToIndex_8c36e 15 = .ok (.iload_n 0, 1) := by decide +kernel
theorem dJ3_checkFromToIndex_8c36e_16 : decode cJ3_checkFromToIndex_8c36e 16 = .ok (.iload_n 1, 1) := by decide +kernel
theorem dJ3_checkFromToIndex_8c36e_17 : decode cJ3_checkFromToIndex_8c36e 17 = .ok (.iload_n 2, 1) := by decide +kernel
theorem dJ3_checkFromToIndex_8c36e_18 : decode cJ3_checkFromToIndex_8c36e 18 = .ok (.invokestatic 99, 3) := by decide +kernel
theorem dJ3_checkFromToIndex_8c36e_21 : decode cJ3_checkFromToIndex_8c36e 21 = .ok (.athrow, 1) := by decide +kernel
theorem dJ3_checkFromToIndex_8c36e_22 : decode cJ3_checkFromToIndex_8c36e 22 = .ok (.iload_n 0, 1) := by decide +kernel
theorem dJ3_checkFromToIndex_8c36e_23 : decode cJ3_checkFromToIndex_8c36e 23 = .ok (.ireturn, 1) := by decide +kernel
theorem dJ3_checkFromIndexSize_8c36e_0 : decode cJ3_checkFromIndexSize_8c36e 0 = .ok (.iload_n 2, 1) := by decide +kernel
theorem dJ3_checkFromIndexSize_8c36e_1 : decode cJ3_checkFromIndexSize_8c36e 1 = .ok (.iload_n 0, 1) := by decide +kernel
theorem dJ3_checkFromIndexSize_8c36e_2 : decode cJ3_checkFromIndexSize_8c36e 2 = .ok (.ior, 1) := by decide +kernel
theorem dJ3_checkFromIndexSize_8c36e_3 : decode cJ3_checkFromIndexSize_8c36e 3 = .ok (.iload_n 1, 1) := by decide +kernel
theorem dJ3_checkFromIndexSize_8c36e_4 : decode cJ3_checkFromIndexSize_8c36e 4 = .ok (.ior, 1) := by decide +kernel
theorem dJ3_checkFromIndexSize_8c36e_5 : decode cJ3_checkFromIndexSize_8c36e 5 = .ok (.ifCond .lt 10, 3) := by decide +kernel
theorem dJ3_checkFromIndexSize_8c36e_8 : decode cJ3_checkFromIndexSize_8c36e 8 = .ok (.iload_n 1, 1) := by decide +kernel
theorem dJ3_checkFromIndexSize_8c36e_9 : decode cJ3_checkFromIndexSize_8c36e 9 = .ok (.iload_n 2, 1) := by decide +kernel
theorem dJ3_checkFromIndexSize_8c36e_10 : decode cJ3_checkFromIndexSize_8c36e 10 = .ok (.iload_n 0, 1) := by decide +kernel
theorem dJ3_checkFromIndexSize_8c36e_11 : decode cJ3_checkFromIndexSize_8c36e 11 = .ok (.isub, 1) := by decide +kernel
theorem dJ3_checkFromIndexSize_8c36e_12 : decode cJ3_checkFromIndexSize_8c36e 12 = .ok (.if_icmp .le 11, 3) := by decide +kernel
theorem dJ3_checkFromIndexSize_8c36e_15 : decode cJ3_checkFromIndexSize_8c36e 15 = .ok (.aload_n 3, 1) := by decide +kernel
theorem dJ3_checkFromIndexSize_8c36e_16 : decode cJ3_checkFromIndexSize_8c36e 16 = .ok (.iload_n 0, 1) := by decide +kernel
theorem dJ3_checkFromIndexSize_8c36e_17 : decode cJ3_checkFromIndexSize_8c36e 17 = .ok (.iload_n 1, 1) := by decide +kernel
theorem dJ3_checkFromIndexSize_8c36e_18 : decode cJ3_checkFromIndexSize_8c36e 18 = .ok (.iload_n 2, 1) := by decide +kernel
theorem dJ3_checkFromIndexSize_8c36e_19 : decode cJ3_checkFromIndexSize_8c36e 19 = .ok (.invokestatic 103, 3) := by decide +kernel
theorem dJ3_checkFromIndexSize_8c36e_22 : decode cJ3_checkFromIndexSize_8c36e 22 = .ok (.athrow, 1) := by decide +kernel
theorem dJ3_checkFromIndexSize_8c36e_23 : decode cJ3_checkFromIndexSize_8c36e 23 = .ok (.iload_n 0, 1) := by decide +kernel
theorem dJ3_checkFromIndexSize_8c36e_24 : decode cJ3_checkFromIndexSize_8c36e 24 = .ok (.ireturn, 1) := by decide +kernel
theorem dL_draw_0 : decode cL_draw 0 = .ok (.iload_n 1, 1) := by decide +kernel
theorem dL_draw_1 : decode cL_draw 1 = .ok (.aload_n 0, 1) := by decide +kernel
theorem dL_draw_2 : decode cL_draw 2 = .ok (.arraylength, 1) := by decide +kernel
theorem dL_draw_3 : decode cL_draw 3 = .ok (.if_icmp .ge 9, 3) := by decide +kernel
theorem dL_draw_6 : decode cL_draw 6 = .ok (.aload_n 0, 1) := by decide +kernel
theorem dL_draw_7 : decode cL_draw 7 = .ok (.iload_n 1, 1) := by decide +kernel
theorem dL_draw_8 : decode cL_draw 8 = .ok (.iaload, 1) := by decide +kernel
theorem dL_draw_9 : decode cL_draw 9 = .ok (.goto 14, 3) := by decide +kernel
theorem dL_draw_12 : decode cL_draw 12 = .ok (.ldc 7, 2) := by decide +kernel
theorem dL_draw_14 : decode cL_draw 14 = .ok (.iload_n 1, 1) := by decide +kernel
theorem dL_draw_15 : decode cL_draw 15 = .ok (.sipush 557, 3) := by decide +kernel
theorem dL_draw_18 : decode cL_draw 18 = .ok (.iadd, 1) := by decide +kernel
theorem dL_draw_19 : decode cL_draw 19 = .ok (.imul, 1) := by decide +kernel
theorem dL_draw_20 : decode cL_draw 20 = .ok (.ldc 8, 2) := by decide +kernel
theorem dL_draw_22 : decode cL_draw 22 = .ok (.iadd, 1) := by decide +kernel
theorem dL_draw_23 : decode cL_draw 23 = .ok (.istore_n 3, 1) := by decide +kernel
theorem dL_draw_24 : decode cL_draw 24 = .ok (.iload_n 3, 1) := by decide +kernel
theorem dL_draw_25 : decode cL_draw 25 = .ok (.ldc 9, 2) := by decide +kernel
theorem dL_draw_27 : decode cL_draw 27 = .ok (.iand, 1) := by decide +kernel
theorem dL_draw_28 : decode cL_draw 28 = .ok (.iload_n 2, 1) := by decide +kernel
theorem dL_draw_29 : decode cL_draw 29 = .ok (.irem, 1) := by decide +kernel
theorem dL_draw_30 : decode cL_draw 30 = .ok (.ireturn, 1) := by decide +kernel
theorem dL_part_0 : decode cL_part 0 = .ok (.iload_n 0, 1) := by decide +kernel
theorem dL_part_1 : decode cL_part 1 = .ok (.iload_n 1, 1) := by decide +kernel
theorem dL_part_2 : decode cL_part 2 = .ok (.ishr, 1) := by decide +kernel
theorem dL_part_3 : decode cL_part 3 = .ok (.iconst 1, 1) := by decide +kernel
theorem dL_part_4 : decode cL_part 4 = .ok (.iload_n 2, 1) := by decide +kernel
theorem dL_part_5 : decode cL_part 5 = .ok (.ishl, 1) := by decide +kernel
theorem dL_part_6 : decode cL_part 6 = .ok (.iconst 1, 1) := by decide +kernel
theorem dL_part_7 : decode cL_part 7 = .ok (.isub, 1) := by decide +kernel
theorem dL_part_8 : decode cL_part 8 = .ok (.iand, 1) := by decide +kernel
theorem dL_part_9 : decode cL_part 9 = .ok (.ireturn, 1) := by decide +kernel
theorem dL_event_0 : decode cL_event 0 = .ok (.iload_n 0, 1) := by decide +kernel
theorem dL_event_1 : decode cL_event 1 = .ok (.iconst 5, 1) := by decide +kernel
theorem dL_event_2 : decode cL_event 2 = .ok (.ishl, 1) := by decide +kernel
theorem dL_event_3 : decode cL_event 3 = .ok (.iload_n 0, 1) := by decide +kernel
theorem dL_event_4 : decode cL_event 4 = .ok (.bipush 27, 2) := by decide +kernel
theorem dL_event_6 : decode cL_event 6 = .ok (.iushr, 1) := by decide +kernel
theorem dL_event_7 : decode cL_event 7 = .ok (.ior, 1) := by decide +kernel
theorem dL_event_8 : decode cL_event 8 = .ok (.bipush 31, 2) := by decide +kernel
theorem dL_event_10 : decode cL_event 10 = .ok (.iload_n 2, 1) := by decide +kernel
theorem dL_event_11 : decode cL_event 11 = .ok (.imul, 1) := by decide +kernel
theorem dL_event_12 : decode cL_event 12 = .ok (.iadd, 1) := by decide +kernel
theorem dL_event_13 : decode cL_event 13 = .ok (.bipush 8, 2) := by decide +kernel
theorem dL_event_15 : decode cL_event 15 = .ok (.iload_n 1, 1) := by decide +kernel
theorem dL_event_16 : decode cL_event 16 = .ok (.imul, 1) := by decide +kernel
theorem dL_event_17 : decode cL_event 17 = .ok (.iload_n 3, 1) := by decide +kernel
theorem dL_event_18 : decode cL_event 18 = .ok (.iadd, 1) := by decide +kernel
theorem dL_event_19 : decode cL_event 19 = .ok (.ixor, 1) := by decide +kernel
theorem dL_event_20 : decode cL_event 20 = .ok (.ireturn, 1) := by decide +kernel
theorem dL_asks_0 : decode cL_asks 0 = .ok (.iload_n 1, 1) := by decide +kernel
theorem dL_asks_1 : decode cL_asks 1 = .ok (.ifCond .ne 22, 3) := by decide +kernel
theorem dL_asks_4 : decode cL_asks 4 = .ok (.aload_n 0, 1) := by decide +kernel
theorem dL_asks_5 : decode cL_asks 5 = .ok (.iload_n 2, 1) := by decide +kernel
theorem dL_asks_6 : decode cL_asks 6 = .ok (.iload_n 3, 1) := by decide +kernel
theorem dL_asks_7 : decode cL_asks 7 = .ok (.iload 4, 2) := by decide +kernel
theorem dL_asks_9 : decode cL_asks 9 = .ok (.ifCond .le 7, 3) := by decide +kernel
theorem dL_asks_12 : decode cL_asks 12 = .ok (.iconst 1, 1) := by decide +kernel
theorem dL_asks_13 : decode cL_asks 13 = .ok (.goto 4, 3) := by decide +kernel
theorem dL_asks_16 : decode cL_asks 16 = .ok (.iconst 0, 1) := by decide +kernel
theorem dL_asks_17 : decode cL_asks 17 = .ok (.invokevirtual 10, 3) := by decide +kernel
theorem dL_asks_20 : decode cL_asks 20 = .ok (.goto 89, 3) := by decide +kernel
theorem dL_asks_23 : decode cL_asks 23 = .ok (.iload_n 1, 1) := by decide +kernel
theorem dL_asks_24 : decode cL_asks 24 = .ok (.iconst 1, 1) := by decide +kernel
theorem dL_asks_25 : decode cL_asks 25 = .ok (.if_icmp .ne 22, 3) := by decide +kernel
theorem dL_asks_28 : decode cL_asks 28 = .ok (.aload_n 0, 1) := by decide +kernel
theorem dL_asks_29 : decode cL_asks 29 = .ok (.iload_n 2, 1) := by decide +kernel
theorem dL_asks_30 : decode cL_asks 30 = .ok (.iload_n 3, 1) := by decide +kernel
theorem dL_asks_31 : decode cL_asks 31 = .ok (.iload 4, 2) := by decide +kernel
theorem dL_asks_33 : decode cL_asks 33 = .ok (.ifCond .le 7, 3) := by decide +kernel
theorem dL_asks_36 : decode cL_asks 36 = .ok (.iconst 1, 1) := by decide +kernel
theorem dL_asks_37 : decode cL_asks 37 = .ok (.goto 4, 3) := by decide +kernel
theorem dL_asks_40 : decode cL_asks 40 = .ok (.iconst 0, 1) := by decide +kernel
theorem dL_asks_41 : decode cL_asks 41 = .ok (.invokevirtual 16, 3) := by decide +kernel
theorem dL_asks_44 : decode cL_asks 44 = .ok (.goto 65, 3) := by decide +kernel
theorem dL_asks_47 : decode cL_asks 47 = .ok (.iload_n 1, 1) := by decide +kernel
theorem dL_asks_48 : decode cL_asks 48 = .ok (.iconst 2, 1) := by decide +kernel
theorem dL_asks_49 : decode cL_asks 49 = .ok (.if_icmp .ne 11, 3) := by decide +kernel
theorem dL_asks_52 : decode cL_asks 52 = .ok (.aload_n 0, 1) := by decide +kernel
theorem dL_asks_53 : decode cL_asks 53 = .ok (.iload_n 2, 1) := by decide +kernel
theorem dL_asks_54 : decode cL_asks 54 = .ok (.invokevirtual 19, 3) := by decide +kernel
theorem dL_asks_57 : decode cL_asks 57 = .ok (.goto 52, 3) := by decide +kernel
theorem dL_asks_60 : decode cL_asks 60 = .ok (.iload_n 1, 1) := by decide +kernel
theorem dL_asks_61 : decode cL_asks 61 = .ok (.iconst 3, 1) := by decide +kernel
theorem dL_asks_62 : decode cL_asks 62 = .ok (.if_icmp .ne 14, 3) := by decide +kernel
theorem dL_asks_65 : decode cL_asks 65 = .ok (.aload_n 0, 1) := by decide +kernel
theorem dL_asks_66 : decode cL_asks 66 = .ok (.iload_n 2, 1) := by decide +kernel
theorem dL_asks_67 : decode cL_asks 67 = .ok (.iload_n 3, 1) := by decide +kernel
theorem dL_asks_68 : decode cL_asks 68 = .ok (.iload 4, 2) := by decide +kernel
theorem dL_asks_70 : decode cL_asks 70 = .ok (.invokevirtual 23, 3) := by decide +kernel
theorem dL_asks_73 : decode cL_asks 73 = .ok (.goto 36, 3) := by decide +kernel
theorem dL_asks_76 : decode cL_asks 76 = .ok (.iload_n 1, 1) := by decide +kernel
theorem dL_asks_77 : decode cL_asks 77 = .ok (.iconst 4, 1) := by decide +kernel
theorem dL_asks_78 : decode cL_asks 78 = .ok (.if_icmp .ne 12, 3) := by decide +kernel
theorem dL_asks_81 : decode cL_asks 81 = .ok (.aload_n 0, 1) := by decide +kernel
theorem dL_asks_82 : decode cL_asks 82 = .ok (.iload_n 2, 1) := by decide +kernel
theorem dL_asks_83 : decode cL_asks 83 = .ok (.iload_n 3, 1) := by decide +kernel
theorem dL_asks_84 : decode cL_asks 84 = .ok (.invokevirtual 27, 3) := by decide +kernel
theorem dL_asks_87 : decode cL_asks 87 = .ok (.goto 22, 3) := by decide +kernel
theorem dL_asks_90 : decode cL_asks 90 = .ok (.iload_n 1, 1) := by decide +kernel
theorem dL_asks_91 : decode cL_asks 91 = .ok (.iconst 5, 1) := by decide +kernel
theorem dL_asks_92 : decode cL_asks 92 = .ok (.if_icmp .ne 12, 3) := by decide +kernel
theorem dL_asks_95 : decode cL_asks 95 = .ok (.aload_n 0, 1) := by decide +kernel
theorem dL_asks_96 : decode cL_asks 96 = .ok (.iload_n 2, 1) := by decide +kernel
theorem dL_asks_97 : decode cL_asks 97 = .ok (.iload_n 3, 1) := by decide +kernel
theorem dL_asks_98 : decode cL_asks 98 = .ok (.invokevirtual 31, 3) := by decide +kernel
theorem dL_asks_101 : decode cL_asks 101 = .ok (.goto 8, 3) := by decide +kernel
theorem dL_asks_104 : decode cL_asks 104 = .ok (.aload_n 0, 1) := by decide +kernel
theorem dL_asks_105 : decode cL_asks 105 = .ok (.iload_n 2, 1) := by decide +kernel
theorem dL_asks_106 : decode cL_asks 106 = .ok (.invokevirtual 34, 3) := by decide +kernel
theorem dL_asks_109 : decode cL_asks 109 = .ok (.ireturn, 1) := by decide +kernel
theorem dL_asks_110 : decode cL_asks 110 = .ok (.astore 5, 2) := by decide +kernel
theorem dL_asks_112 : decode cL_asks 112 = .ok (.bipush (-109), 2) := by decide +kernel
theorem dL_asks_114 : decode cL_asks 114 = .ok (.ireturn, 1) := by decide +kernel
theorem dL_asks_115 : decode cL_asks 115 = .ok (.astore 5, 2) := by decide +kernel
theorem dL_asks_117 : decode cL_asks 117 = .ok (.bipush (-108), 2) := by decide +kernel
theorem dL_asks_119 : decode cL_asks 119 = .ok (.ireturn, 1) := by decide +kernel
theorem dL_buys_0 : decode cL_buys 0 = .ok (.aload_n 0, 1) := by decide +kernel
theorem dL_buys_1 : decode cL_buys 1 = .ok (.iload_n 1, 1) := by decide +kernel
theorem dL_buys_2 : decode cL_buys 2 = .ok (.iload_n 2, 1) := by decide +kernel
theorem dL_buys_3 : decode cL_buys 3 = .ok (.iload_n 3, 1) := by decide +kernel
theorem dL_buys_4 : decode cL_buys 4 = .ok (.iload 4, 2) := by decide +kernel
theorem dL_buys_6 : decode cL_buys 6 = .ok (.iload 5, 2) := by decide +kernel
theorem dL_buys_8 : decode cL_buys 8 = .ok (.iload 6, 2) := by decide +kernel
theorem dL_buys_10 : decode cL_buys 10 = .ok (.invokevirtual 41, 3) := by decide +kernel
theorem dL_buys_13 : decode cL_buys 13 = .ok (.ireturn, 1) := by decide +kernel
theorem dL_buys_14 : decode cL_buys 14 = .ok (.astore 7, 2) := by decide +kernel
theorem dL_buys_16 : decode cL_buys 16 = .ok (.bipush (-108), 2) := by decide +kernel
theorem dL_buys_18 : decode cL_buys 18 = .ok (.ireturn, 1) := by decide +kernel
theorem dL_isWhole_0 : decode cL_isWhole 0 = .ok (.lconst 0, 1) := by decide +kernel
theorem dL_isWhole_1 : decode cL_isWhole 1 = .ok (.lstore_n 2, 1) := by decide +kernel
theorem dL_isWhole_2 : decode cL_isWhole 2 = .ok (.lconst 0, 1) := by decide +kernel
theorem dL_isWhole_3 : decode cL_isWhole 3 = .ok (.lstore 4, 2) := by decide +kernel
theorem dL_isWhole_5 : decode cL_isWhole 5 = .ok (.iconst 1, 1) := by decide +kernel
theorem dL_isWhole_6 : decode cL_isWhole 6 = .ok (.istore 6, 2) := by decide +kernel
theorem dL_isWhole_8 : decode cL_isWhole 8 = .ok (.iconst 0, 1) := by decide +kernel
theorem dL_isWhole_9 : decode cL_isWhole 9 = .ok (.istore 7, 2) := by decide +kernel
theorem dL_isWhole_11 : decode cL_isWhole 11 = .ok (.iload 7, 2) := by decide +kernel
theorem dL_isWhole_13 : decode cL_isWhole 13 = .ok (.iconst 4, 1) := by decide +kernel
theorem dL_isWhole_14 : decode cL_isWhole 14 = .ok (.if_icmp .ge 86, 3) := by decide +kernel
theorem dL_isWhole_17 : decode cL_isWhole 17 = .ok (.lload_n 2, 1) := by decide +kernel
theorem dL_isWhole_18 : decode cL_isWhole 18 = .ok (.aload_n 0, 1) := by decide +kernel
theorem dL_isWhole_19 : decode cL_isWhole 19 = .ok (.iload 7, 2) := by decide +kernel
theorem dL_isWhole_21 : decode cL_isWhole 21 = .ok (.invokevirtual 45, 3) := by decide +kernel
theorem dL_isWhole_24 : decode cL_isWhole 24 = .ok (.i2l, 1) := by decide +kernel
theorem dL_isWhole_25 : decode cL_isWhole 25 = .ok (.aload_n 0, 1) := by decide +kernel
theorem dL_isWhole_26 : decode cL_isWhole 26 = .ok (.iload 7, 2) := by decide +kernel
theorem dL_isWhole_28 : decode cL_isWhole 28 = .ok (.invokevirtual 48, 3) := by decide +kernel
theorem dL_isWhole_31 : decode cL_isWhole 31 = .ok (.i2l, 1) := by decide +kernel
theorem dL_isWhole_32 : decode cL_isWhole 32 = .ok (.ladd, 1) := by decide +kernel
theorem dL_isWhole_33 : decode cL_isWhole 33 = .ok (.aload_n 0, 1) := by decide +kernel
theorem dL_isWhole_34 : decode cL_isWhole 34 = .ok (.iload 7, 2) := by decide +kernel
theorem dL_isWhole_36 : decode cL_isWhole 36 = .ok (.invokevirtual 51, 3) := by decide +kernel
theorem dL_isWhole_39 : decode cL_isWhole 39 = .ok (.i2l, 1) := by decide +kernel
theorem dL_isWhole_40 : decode cL_isWhole 40 = .ok (.ladd, 1) := by decide +kernel
theorem dL_isWhole_41 : decode cL_isWhole 41 = .ok (.ladd, 1) := by decide +kernel
theorem dL_isWhole_42 : decode cL_isWhole 42 = .ok (.lstore_n 2, 1) := by decide +kernel
theorem dL_isWhole_43 : decode cL_isWhole 43 = .ok (.lload 4, 2) := by decide +kernel
theorem dL_isWhole_45 : decode cL_isWhole 45 = .ok (.aload_n 0, 1) := by decide +kernel
theorem dL_isWhole_46 : decode cL_isWhole 46 = .ok (.iload 7, 2) := by decide +kernel
theorem dL_isWhole_48 : decode cL_isWhole 48 = .ok (.invokevirtual 51, 3) := by decide +kernel
theorem dL_isWhole_51 : decode cL_isWhole 51 = .ok (.i2l, 1) := by decide +kernel
theorem dL_isWhole_52 : decode cL_isWhole 52 = .ok (.ladd, 1) := by decide +kernel
theorem dL_isWhole_53 : decode cL_isWhole 53 = .ok (.lstore 4, 2) := by decide +kernel
theorem dL_isWhole_55 : decode cL_isWhole 55 = .ok (.iload 6, 2) := by decide +kernel
theorem dL_isWhole_57 : decode cL_isWhole 57 = .ok (.ifCond .eq 34, 3) := by decide +kernel
theorem dL_isWhole_60 : decode cL_isWhole 60 = .ok (.aload_n 0, 1) := by decide +kernel
theorem dL_isWhole_61 : decode cL_isWhole 61 = .ok (.iload 7, 2) := by decide +kernel
theorem dL_isWhole_63 : decode cL_isWhole 63 = .ok (.invokevirtual 45, 3) := by decide +kernel
theorem dL_isWhole_66 : decode cL_isWhole 66 = .ok (.ifCond .lt 25, 3) := by decide +kernel
theorem dL_isWhole_69 : decode cL_isWhole 69 = .ok (.aload_n 0, 1) := by decide +kernel
theorem dL_isWhole_70 : decode cL_isWhole 70 = .ok (.iload 7, 2) := by decide +kernel
theorem dL_isWhole_72 : decode cL_isWhole 72 = .ok (.invokevirtual 48, 3) := by decide +kernel
theorem dL_isWhole_75 : decode cL_isWhole 75 = .ok (.ifCond .lt 16, 3) := by decide +kernel
theorem dL_isWhole_78 : decode cL_isWhole 78 = .ok (.aload_n 0, 1) := by decide +kernel
theorem dL_isWhole_79 : decode cL_isWhole 79 = .ok (.iload 7, 2) := by decide +kernel
theorem dL_isWhole_81 : decode cL_isWhole 81 = .ok (.invokevirtual 51, 3) := by decide +kernel
theorem dL_isWhole_84 : decode cL_isWhole 84 = .ok (.ifCond .lt 7, 3) := by decide +kernel
theorem dL_isWhole_87 : decode cL_isWhole 87 = .ok (.iconst 1, 1) := by decide +kernel
theorem dL_isWhole_88 : decode cL_isWhole 88 = .ok (.goto 4, 3) := by decide +kernel
theorem dL_isWhole_91 : decode cL_isWhole 91 = .ok (.iconst 0, 1) := by decide +kernel
theorem dL_isWhole_92 : decode cL_isWhole 92 = .ok (.istore 6, 2) := by decide +kernel
theorem dL_isWhole_94 : decode cL_isWhole 94 = .ok (.iinc 7 1, 3) := by decide +kernel
theorem dL_isWhole_97 : decode cL_isWhole 97 = .ok (.goto (-86), 3) := by decide +kernel
theorem dL_isWhole_100 : decode cL_isWhole 100 = .ok (.iconst 0, 1) := by decide +kernel
theorem dL_isWhole_101 : decode cL_isWhole 101 = .ok (.istore 7, 2) := by decide +kernel
theorem dL_isWhole_103 : decode cL_isWhole 103 = .ok (.iload 7, 2) := by decide +kernel
theorem dL_isWhole_105 : decode cL_isWhole 105 = .ok (.aload_n 1, 1) := by decide +kernel
theorem dL_isWhole_106 : decode cL_isWhole 106 = .ok (.iconst 2, 1) := by decide +kernel
theorem dL_isWhole_107 : decode cL_isWhole 107 = .ok (.iaload, 1) := by decide +kernel
theorem dL_isWhole_108 : decode cL_isWhole 108 = .ok (.if_icmp .ge 73, 3) := by decide +kernel
theorem dL_isWhole_111 : decode cL_isWhole 111 = .ok (.lload 4, 2) := by decide +kernel
theorem dL_isWhole_113 : decode cL_isWhole 113 = .ok (.aload_n 0, 1) := by decide +kernel
theorem dL_isWhole_114 : decode cL_isWhole 114 = .ok (.iload 7, 2) := by decide +kernel
theorem dL_isWhole_116 : decode cL_isWhole 116 = .ok (.invokevirtual 54, 3) := by decide +kernel
theorem dL_isWhole_119 : decode cL_isWhole 119 = .ok (.i2l, 1) := by decide +kernel
theorem dL_isWhole_120 : decode cL_isWhole 120 = .ok (.lsub, 1) := by decide +kernel
theorem dL_isWhole_121 : decode cL_isWhole 121 = .ok (.lstore 4, 2) := by decide +kernel
theorem dL_isWhole_123 : decode cL_isWhole 123 = .ok (.iload 6, 2) := by decide +kernel
theorem dL_isWhole_125 : decode cL_isWhole 125 = .ok (.ifCond .eq 47, 3) := by decide +kernel
theorem dL_isWhole_128 : decode cL_isWhole 128 = .ok (.aload_n 0, 1) := by decide +kernel
theorem dL_isWhole_129 : decode cL_isWhole 129 = .ok (.iload 7, 2) := by decide +kernel
theorem dL_isWhole_131 : decode cL_isWhole 131 = .ok (.invokevirtual 54, 3) := by decide +kernel
theorem dL_isWhole_134 : decode cL_isWhole 134 = .ok (.ifCond .lt 38, 3) := by decide +kernel
theorem dL_isWhole_137 : decode cL_isWhole 137 = .ok (.aload_n 0, 1) := by decide +kernel
theorem dL_isWhole_138 : decode cL_isWhole 138 = .ok (.iload 7, 2) := by decide +kernel
theorem dL_isWhole_140 : decode cL_isWhole 140 = .ok (.invokevirtual 57, 3) := by decide +kernel
theorem dL_isWhole_143 : decode cL_isWhole 143 = .ok (.ifCond .lt 29, 3) := by decide +kernel
theorem dL_isWhole_146 : decode cL_isWhole 146 = .ok (.aload_n 0, 1) := by decide +kernel
theorem dL_isWhole_147 : decode cL_isWhole 147 = .ok (.iload 7, 2) := by decide +kernel
theorem dL_isWhole_149 : decode cL_isWhole 149 = .ok (.invokevirtual 60, 3) := by decide +kernel
theorem dL_isWhole_152 : decode cL_isWhole 152 = .ok (.aload_n 0, 1) := by decide +kernel
theorem dL_isWhole_153 : decode cL_isWhole 153 = .ok (.iload 7, 2) := by decide +kernel
theorem dL_isWhole_155 : decode cL_isWhole 155 = .ok (.invokevirtual 54, 3) := by decide +kernel
theorem dL_isWhole_158 : decode cL_isWhole 158 = .ok (.aload_n 0, 1) := by decide +kernel
theorem dL_isWhole_159 : decode cL_isWhole 159 = .ok (.iload 7, 2) := by decide +kernel
theorem dL_isWhole_161 : decode cL_isWhole 161 = .ok (.invokevirtual 57, 3) := by decide +kernel
theorem dL_isWhole_164 : decode cL_isWhole 164 = .ok (.iadd, 1) := by decide +kernel
theorem dL_isWhole_165 : decode cL_isWhole 165 = .ok (.if_icmp .ne 7, 3) := by decide +kernel
theorem dL_isWhole_168 : decode cL_isWhole 168 = .ok (.iconst 1, 1) := by decide +kernel
theorem dL_isWhole_169 : decode cL_isWhole 169 = .ok (.goto 4, 3) := by decide +kernel
theorem dL_isWhole_172 : decode cL_isWhole 172 = .ok (.iconst 0, 1) := by decide +kernel
theorem dL_isWhole_173 : decode cL_isWhole 173 = .ok (.istore 6, 2) := by decide +kernel
theorem dL_isWhole_175 : decode cL_isWhole 175 = .ok (.iinc 7 1, 3) := by decide +kernel
theorem dL_isWhole_178 : decode cL_isWhole 178 = .ok (.goto (-75), 3) := by decide +kernel
theorem dL_isWhole_181 : decode cL_isWhole 181 = .ok (.iconst 0, 1) := by decide +kernel
theorem dL_isWhole_182 : decode cL_isWhole 182 = .ok (.istore 7, 2) := by decide +kernel
theorem dL_isWhole_184 : decode cL_isWhole 184 = .ok (.iload 7, 2) := by decide +kernel
theorem dL_isWhole_186 : decode cL_isWhole 186 = .ok (.aload_n 1, 1) := by decide +kernel
theorem dL_isWhole_187 : decode cL_isWhole 187 = .ok (.iconst 3, 1) := by decide +kernel
theorem dL_isWhole_188 : decode cL_isWhole 188 = .ok (.iaload, 1) := by decide +kernel
theorem dL_isWhole_189 : decode cL_isWhole 189 = .ok (.if_icmp .ge 42, 3) := by decide +kernel
theorem dL_isWhole_192 : decode cL_isWhole 192 = .ok (.iload 6, 2) := by decide +kernel
theorem dL_isWhole_194 : decode cL_isWhole 194 = .ok (.ifCond .eq 28, 3) := by decide +kernel
theorem dL_isWhole_197 : decode cL_isWhole 197 = .ok (.aload_n 0, 1) := by decide +kernel
theorem dL_isWhole_198 : decode cL_isWhole 198 = .ok (.iload 7, 2) := by decide +kernel
theorem dL_isWhole_200 : decode cL_isWhole 200 = .ok (.invokevirtual 63, 3) := by decide +kernel
theorem dL_isWhole_203 : decode cL_isWhole 203 = .ok (.ifCond .lt 19, 3) := by decide +kernel
theorem dL_isWhole_206 : decode cL_isWhole 206 = .ok (.aload_n 0, 1) := by decide +kernel
theorem dL_isWhole_207 : decode cL_isWhole 207 = .ok (.iload 7, 2) := by decide +kernel
theorem dL_isWhole_209 : decode cL_isWhole 209 = .ok (.invokevirtual 63, 3) := by decide +kernel
theorem dL_isWhole_212 : decode cL_isWhole 212 = .ok (.sipush 5000, 3) := by decide +kernel
theorem dL_isWhole_215 : decode cL_isWhole 215 = .ok (.if_icmp .gt 7, 3) := by decide +kernel
theorem dL_isWhole_218 : decode cL_isWhole 218 = .ok (.iconst 1, 1) := by decide +kernel
theorem dL_isWhole_219 : decode cL_isWhole 219 = .ok (.goto 4, 3) := by decide +kernel
theorem dL_isWhole_222 : decode cL_isWhole 222 = .ok (.iconst 0, 1) := by decide +kernel
theorem dL_isWhole_223 : decode cL_isWhole 223 = .ok (.istore 6, 2) := by decide +kernel
theorem dL_isWhole_225 : decode cL_isWhole 225 = .ok (.iinc 7 1, 3) := by decide +kernel
theorem dL_isWhole_228 : decode cL_isWhole 228 = .ok (.goto (-44), 3) := by decide +kernel
theorem dL_isWhole_231 : decode cL_isWhole 231 = .ok (.iload 6, 2) := by decide +kernel
theorem dL_isWhole_233 : decode cL_isWhole 233 = .ok (.ifCond .eq 23, 3) := by decide +kernel
theorem dL_isWhole_236 : decode cL_isWhole 236 = .ok (.lload_n 2, 1) := by decide +kernel
theorem dL_isWhole_237 : decode cL_isWhole 237 = .ok (.aload_n 1, 1) := by decide +kernel
theorem dL_isWhole_238 : decode cL_isWhole 238 = .ok (.iconst 4, 1) := by decide +kernel
theorem dL_isWhole_239 : decode cL_isWhole 239 = .ok (.iaload, 1) := by decide +kernel
theorem dL_isWhole_240 : decode cL_isWhole 240 = .ok (.i2l, 1) := by decide +kernel
theorem dL_isWhole_241 : decode cL_isWhole 241 = .ok (.lcmp, 1) := by decide +kernel
theorem dL_isWhole_242 : decode cL_isWhole 242 = .ok (.ifCond .ne 14, 3) := by decide +kernel
theorem dL_isWhole_245 : decode cL_isWhole 245 = .ok (.lload 4, 2) := by decide +kernel
theorem dL_isWhole_247 : decode cL_isWhole 247 = .ok (.lconst 0, 1) := by decide +kernel
theorem dL_isWhole_248 : decode cL_isWhole 248 = .ok (.lcmp, 1) := by decide +kernel
theorem dL_isWhole_249 : decode cL_isWhole 249 = .ok (.ifCond .ne 7, 3) := by decide +kernel
theorem dL_isWhole_252 : decode cL_isWhole 252 = .ok (.iconst 1, 1) := by decide +kernel
theorem dL_isWhole_253 : decode cL_isWhole 253 = .ok (.goto 4, 3) := by decide +kernel
theorem dL_isWhole_256 : decode cL_isWhole 256 = .ok (.iconst 0, 1) := by decide +kernel
theorem dL_isWhole_257 : decode cL_isWhole 257 = .ok (.ireturn, 1) := by decide +kernel
theorem dL_areLegs_0 : decode cL_areLegs 0 = .ok (.lconst 0, 1) := by decide +kernel
theorem dL_areLegs_1 : decode cL_areLegs 1 = .ok (.lstore 4, 2) := by decide +kernel
theorem dL_areLegs_3 : decode cL_areLegs 3 = .ok (.aload_n 0, 1) := by decide +kernel
theorem dL_areLegs_4 : decode cL_areLegs 4 = .ok (.invokevirtual 66, 3) := by decide +kernel
theorem dL_areLegs_7 : decode cL_areLegs 7 = .ok (.aload_n 3, 1) := by decide +kernel
theorem dL_areLegs_8 : decode cL_areLegs 8 = .ok (.iconst 2, 1) := by decide +kernel
theorem dL_areLegs_9 : decode cL_areLegs 9 = .ok (.iaload, 1) := by decide +kernel
theorem dL_areLegs_10 : decode cL_areLegs 10 = .ok (.if_icmp .ne 17, 3) := by decide +kernel
theorem dL_areLegs_13 : decode cL_areLegs 13 = .ok (.aload_n 0, 1) := by decide +kernel
theorem dL_areLegs_14 : decode cL_areLegs 14 = .ok (.invokevirtual 70, 3) := by decide +kernel
theorem dL_areLegs_17 : decode cL_areLegs 17 = .ok (.aload_n 3, 1) := by decide +kernel
theorem dL_areLegs_18 : decode cL_areLegs 18 = .ok (.iconst 0, 1) := by decide +kernel
theorem dL_areLegs_19 : decode cL_areLegs 19 = .ok (.iaload, 1) := by decide +kernel
theorem dL_areLegs_20 : decode cL_areLegs 20 = .ok (.if_icmp .ne 7, 3) := by decide +kernel
theorem dL_areLegs_23 : decode cL_areLegs 23 = .ok (.iconst 1, 1) := by decide +kernel
theorem dL_areLegs_24 : decode cL_areLegs 24 = .ok (.goto 4, 3) := by decide +kernel
theorem dL_areLegs_27 : decode cL_areLegs 27 = .ok (.iconst 0, 1) := by decide +kernel
theorem dL_areLegs_28 : decode cL_areLegs 28 = .ok (.istore 6, 2) := by decide +kernel
theorem dL_areLegs_30 : decode cL_areLegs 30 = .ok (.iconst 0, 1) := by decide +kernel
theorem dL_areLegs_31 : decode cL_areLegs 31 = .ok (.istore 7, 2) := by decide +kernel
theorem dL_areLegs_33 : decode cL_areLegs 33 = .ok (.iload 7, 2) := by decide +kernel
theorem dL_areLegs_35 : decode cL_areLegs 35 = .ok (.aload_n 3, 1) := by decide +kernel
theorem dL_areLegs_36 : decode cL_areLegs 36 = .ok (.iconst 2, 1) := by decide +kernel
theorem dL_areLegs_37 : decode cL_areLegs 37 = .ok (.iaload, 1) := by decide +kernel
theorem dL_areLegs_38 : decode cL_areLegs 38 = .ok (.if_icmp .ge 333, 3) := by decide +kernel
theorem dL_areLegs_41 : decode cL_areLegs 41 = .ok (.iload 6, 2) := by decide +kernel
theorem dL_areLegs_43 : decode cL_areLegs 43 = .ok (.ifCond .eq 328, 3) := by decide +kernel
theorem dL_areLegs_46 : decode cL_areLegs 46 = .ok (.aload_n 1, 1) := by decide +kernel
theorem dL_areLegs_47 : decode cL_areLegs 47 = .ok (.iload 7, 2) := by decide +kernel
theorem dL_areLegs_49 : decode cL_areLegs 49 = .ok (.iaload, 1) := by decide +kernel
theorem dL_areLegs_50 : decode cL_areLegs 50 = .ok (.iconst 0, 1) := by decide +kernel
theorem dL_areLegs_51 : decode cL_areLegs 51 = .ok (.iconst 4, 1) := by decide +kernel
theorem dL_areLegs_52 : decode cL_areLegs 52 = .ok (.invokestatic 73, 3) := by decide +kernel
theorem dL_areLegs_55 : decode cL_areLegs 55 = .ok (.istore 8, 2) := by decide +kernel
theorem dL_areLegs_57 : decode cL_areLegs 57 = .ok (.aload_n 0, 1) := by decide +kernel
theorem dL_areLegs_58 : decode cL_areLegs 58 = .ok (.iload 7, 2) := by decide +kernel
theorem dL_areLegs_60 : decode cL_areLegs 60 = .ok (.invokevirtual 78, 3) := by decide +kernel
theorem dL_areLegs_63 : decode cL_areLegs 63 = .ok (.istore 9, 2) := by decide +kernel
theorem dL_areLegs_65 : decode cL_areLegs 65 = .ok (.aload_n 1, 1) := by decide +kernel
theorem dL_areLegs_66 : decode cL_areLegs 66 = .ok (.iload 7, 2) := by decide +kernel
theorem dL_areLegs_68 : decode cL_areLegs 68 = .ok (.iaload, 1) := by decide +kernel
theorem dL_areLegs_69 : decode cL_areLegs 69 = .ok (.bipush 14, 2) := by decide +kernel
theorem dL_areLegs_71 : decode cL_areLegs 71 = .ok (.ishr, 1) := by decide +kernel
theorem dL_areLegs_72 : decode cL_areLegs 72 = .ok (.istore 10, 2) := by decide +kernel
theorem dL_areLegs_74 : decode cL_areLegs 74 = .ok (.iload 9, 2) := by decide +kernel
theorem dL_areLegs_76 : decode cL_areLegs 76 = .ok (.ifCond .le 7, 3) := by decide +kernel
theorem dL_areLegs_79 : decode cL_areLegs 79 = .ok (.iconst 1, 1) := by decide +kernel
theorem dL_areLegs_80 : decode cL_areLegs 80 = .ok (.goto 4, 3) := by decide +kernel
theorem dL_areLegs_83 : decode cL_areLegs 83 = .ok (.iconst 0, 1) := by decide +kernel
theorem dL_areLegs_84 : decode cL_areLegs 84 = .ok (.istore 11, 2) := by decide +kernel
theorem dL_areLegs_86 : decode cL_areLegs 86 = .ok (.iload 9, 2) := by decide +kernel
theorem dL_areLegs_88 : decode cL_areLegs 88 = .ok (.ifCond .lt 113, 3) := by decide +kernel
theorem dL_areLegs_91 : decode cL_areLegs 91 = .ok (.iload 9, 2) := by decide +kernel
theorem dL_areLegs_93 : decode cL_areLegs 93 = .ok (.iconst 4, 1) := by decide +kernel
theorem dL_areLegs_94 : decode cL_areLegs 94 = .ok (.if_icmp .ge 107, 3) := by decide +kernel
theorem dL_areLegs_97 : decode cL_areLegs 97 = .ok (.iload 11, 2) := by decide +kernel
theorem dL_areLegs_99 : decode cL_areLegs 99 = .ok (.ifCond .ne 60, 3) := by decide +kernel
theorem dL_areLegs_102 : decode cL_areLegs 102 = .ok (.aload_n 0, 1) := by decide +kernel
theorem dL_areLegs_103 : decode cL_areLegs 103 = .ok (.iload 7, 2) := by decide +kernel
theorem dL_areLegs_105 : decode cL_areLegs 105 = .ok (.invokevirtual 81, 3) := by decide +kernel
theorem dL_areLegs_108 : decode cL_areLegs 108 = .ok (.aload_n 3, 1) := by decide +kernel
theorem dL_areLegs_109 : decode cL_areLegs 109 = .ok (.iconst 0, 1) := by decide +kernel
theorem dL_areLegs_110 : decode cL_areLegs 110 = .ok (.iaload, 1) := by decide +kernel
theorem dL_areLegs_111 : decode cL_areLegs 111 = .ok (.iload 10, 2) := by decide +kernel
theorem dL_areLegs_113 : decode cL_areLegs 113 = .ok (.isub, 1) := by decide +kernel
theorem dL_areLegs_114 : decode cL_areLegs 114 = .ok (.if_icmp .ne 87, 3) := by decide +kernel
theorem dL_areLegs_117 : decode cL_areLegs 117 = .ok (.aload_n 0, 1) := by decide +kernel
theorem dL_areLegs_118 : decode cL_areLegs 118 = .ok (.iload 8, 2) := by decide +kernel
theorem dL_areLegs_120 : decode cL_areLegs 120 = .ok (.invokevirtual 84, 3) := by decide +kernel
theorem dL_areLegs_123 : decode cL_areLegs 123 = .ok (.iload 7, 2) := by decide +kernel
theorem dL_areLegs_125 : decode cL_areLegs 125 = .ok (.if_icmp .ne 76, 3) := by decide +kernel
theorem dL_areLegs_128 : decode cL_areLegs 128 = .ok (.aload_n 0, 1) := by decide +kernel
theorem dL_areLegs_129 : decode cL_areLegs 129 = .ok (.iload 8, 2) := by decide +kernel
theorem dL_areLegs_131 : decode cL_areLegs 131 = .ok (.invokevirtual 87, 3) := by decide +kernel
theorem dL_areLegs_134 : decode cL_areLegs 134 = .ok (.aload_n 1, 1) := by decide +kernel
theorem dL_areLegs_135 : decode cL_areLegs 135 = .ok (.iload 7, 2) := by decide +kernel
theorem dL_areLegs_137 : decode cL_areLegs 137 = .ok (.iaload, 1) := by decide +kernel
theorem dL_areLegs_138 : decode cL_areLegs 138 = .ok (.bipush 10, 2) := by decide +kernel
theorem dL_areLegs_140 : decode cL_areLegs 140 = .ok (.iconst 3, 1) := by decide +kernel
theorem dL_areLegs_141 : decode cL_areLegs 141 = .ok (.invokestatic 73, 3) := by decide +kernel
theorem dL_areLegs_144 : decode cL_areLegs 144 = .ok (.if_icmp .ne 57, 3) := by decide +kernel
theorem dL_areLegs_147 : decode cL_areLegs 147 = .ok (.lload 4, 2) := by decide +kernel
theorem dL_areLegs_149 : decode cL_areLegs 149 = .ok (.iload 8, 2) := by decide +kernel
theorem dL_areLegs_151 : decode cL_areLegs 151 = .ok (.lshr, 1) := by decide +kernel
theorem dL_areLegs_152 : decode cL_areLegs 152 = .ok (.lconst 1, 1) := by decide +kernel
theorem dL_areLegs_153 : decode cL_areLegs 153 = .ok (.land, 1) := by decide +kernel
theorem dL_areLegs_154 : decode cL_areLegs 154 = .ok (.lconst 0, 1) := by decide +kernel
theorem dL_areLegs_155 : decode cL_areLegs 155 = .ok (.lcmp, 1) := by decide +kernel
theorem dL_areLegs_156 : decode cL_areLegs 156 = .ok (.ifCond .ne 45, 3) := by decide +kernel
theorem dL_areLegs_159 : decode cL_areLegs 159 = .ok (.iload 11, 2) := by decide +kernel
theorem dL_areLegs_161 : decode cL_areLegs 161 = .ok (.ifCond .eq 18, 3) := by decide +kernel
theorem dL_areLegs_164 : decode cL_areLegs 164 = .ok (.aload_n 0, 1) := by decide +kernel
theorem dL_areLegs_165 : decode cL_areLegs 165 = .ok (.iload 7, 2) := by decide +kernel
theorem dL_areLegs_167 : decode cL_areLegs 167 = .ok (.invokevirtual 81, 3) := by decide +kernel
theorem dL_areLegs_170 : decode cL_areLegs 170 = .ok (.aload_n 3, 1) := by decide +kernel
theorem dL_areLegs_171 : decode cL_areLegs 171 = .ok (.iconst 0, 1) := by decide +kernel
theorem dL_areLegs_172 : decode cL_areLegs 172 = .ok (.iaload, 1) := by decide +kernel
theorem dL_areLegs_173 : decode cL_areLegs 173 = .ok (.iload 10, 2) := by decide +kernel
theorem dL_areLegs_175 : decode cL_areLegs 175 = .ok (.isub, 1) := by decide +kernel
theorem dL_areLegs_176 : decode cL_areLegs 176 = .ok (.if_icmp .gt 25, 3) := by decide +kernel
theorem dL_areLegs_179 : decode cL_areLegs 179 = .ok (.aload_n 1, 1) := by decide +kernel
theorem dL_areLegs_180 : decode cL_areLegs 180 = .ok (.iload 7, 2) := by decide +kernel
theorem dL_areLegs_182 : decode cL_areLegs 182 = .ok (.iaload, 1) := by decide +kernel
theorem dL_areLegs_183 : decode cL_areLegs 183 = .ok (.bipush 13, 2) := by decide +kernel
theorem dL_areLegs_185 : decode cL_areLegs 185 = .ok (.iconst 1, 1) := by decide +kernel
theorem dL_areLegs_186 : decode cL_areLegs 186 = .ok (.invokestatic 73, 3) := by decide +kernel
theorem dL_areLegs_189 : decode cL_areLegs 189 = .ok (.ifCond .eq 8, 3) := by decide +kernel
theorem dL_areLegs_192 : decode cL_areLegs 192 = .ok (.iload 11, 2) := by decide +kernel
theorem dL_areLegs_194 : decode cL_areLegs 194 = .ok (.ifCond .eq 7, 3) := by decide +kernel
theorem dL_areLegs_197 : decode cL_areLegs 197 = .ok (.iconst 1, 1) := by decide +kernel
theorem dL_areLegs_198 : decode cL_areLegs 198 = .ok (.goto 4, 3) := by decide +kernel
theorem dL_areLegs_201 : decode cL_areLegs 201 = .ok (.iconst 0, 1) := by decide +kernel
theorem dL_areLegs_202 : decode cL_areLegs 202 = .ok (.istore 6, 2) := by decide +kernel
theorem dL_areLegs_204 : decode cL_areLegs 204 = .ok (.lload 4, 2) := by decide +kernel
theorem dL_areLegs_206 : decode cL_areLegs 206 = .ok (.iload 11, 2) := by decide +kernel
theorem dL_areLegs_208 : decode cL_areLegs 208 = .ok (.ifCond .eq 7, 3) := by decide +kernel
theorem dL_areLegs_211 : decode cL_areLegs 211 = .ok (.lconst 0, 1) := by decide +kernel
theorem dL_areLegs_212 : decode cL_areLegs 212 = .ok (.goto 7, 3) := by decide +kernel
theorem dL_areLegs_215 : decode cL_areLegs 215 = .ok (.lconst 1, 1) := by decide +kernel
theorem dL_areLegs_216 : decode cL_areLegs 216 = .ok (.iload 8, 2) := by decide +kernel
theorem dL_areLegs_218 : decode cL_areLegs 218 = .ok (.lshl, 1) := by decide +kernel
theorem dL_areLegs_219 : decode cL_areLegs 219 = .ok (.lor, 1) := by decide +kernel
theorem dL_areLegs_220 : decode cL_areLegs 220 = .ok (.lstore 4, 2) := by decide +kernel
theorem dL_areLegs_222 : decode cL_areLegs 222 = .ok (.iload 11, 2) := by decide +kernel
theorem dL_areLegs_224 : decode cL_areLegs 224 = .ok (.ifCond .eq 57, 3) := by decide +kernel
theorem dL_areLegs_227 : decode cL_areLegs 227 = .ok (.aload_n 1, 1) := by decide +kernel
theorem dL_areLegs_228 : decode cL_areLegs 228 = .ok (.iload 7, 2) := by decide +kernel
theorem dL_areLegs_230 : decode cL_areLegs 230 = .ok (.iaload, 1) := by decide +kernel
theorem dL_areLegs_231 : decode cL_areLegs 231 = .ok (.bipush 13, 2) := by decide +kernel
theorem dL_areLegs_233 : decode cL_areLegs 233 = .ok (.iconst 1, 1) := by decide +kernel
theorem dL_areLegs_234 : decode cL_areLegs 234 = .ok (.invokestatic 73, 3) := by decide +kernel
theorem dL_areLegs_237 : decode cL_areLegs 237 = .ok (.ifCond .ne 44, 3) := by decide +kernel
theorem dL_areLegs_240 : decode cL_areLegs 240 = .ok (.aload_n 1, 1) := by decide +kernel
theorem dL_areLegs_241 : decode cL_areLegs 241 = .ok (.iload 7, 2) := by decide +kernel
theorem dL_areLegs_243 : decode cL_areLegs 243 = .ok (.dup2, 1) := by decide +kernel
theorem dL_areLegs_244 : decode cL_areLegs 244 = .ok (.iaload, 1) := by decide +kernel
theorem dL_areLegs_245 : decode cL_areLegs 245 = .ok (.sipush 8192, 3) := by decide +kernel
theorem dL_areLegs_248 : decode cL_areLegs 248 = .ok (.ior, 1) := by decide +kernel
theorem dL_areLegs_249 : decode cL_areLegs 249 = .ok (.iastore, 1) := by decide +kernel
theorem dL_areLegs_250 : decode cL_areLegs 250 = .ok (.aload_n 2, 1) := by decide +kernel
theorem dL_areLegs_251 : decode cL_areLegs 251 = .ok (.iload 7, 2) := by decide +kernel
theorem dL_areLegs_253 : decode cL_areLegs 253 = .ok (.aload_n 2, 1) := by decide +kernel
theorem dL_areLegs_254 : decode cL_areLegs 254 = .ok (.iload 7, 2) := by decide +kernel
theorem dL_areLegs_256 : decode cL_areLegs 256 = .ok (.iaload, 1) := by decide +kernel
theorem dL_areLegs_257 : decode cL_areLegs 257 = .ok (.iconst 2, 1) := by decide +kernel
theorem dL_areLegs_258 : decode cL_areLegs 258 = .ok (.iload 10, 2) := by decide +kernel
theorem dL_areLegs_260 : decode cL_areLegs 260 = .ok (.aload_n 0, 1) := by decide +kernel
theorem dL_areLegs_261 : decode cL_areLegs 261 = .ok (.iload 7, 2) := by decide +kernel
theorem dL_areLegs_263 : decode cL_areLegs 263 = .ok (.invokevirtual 81, 3) := by decide +kernel
theorem dL_areLegs_266 : decode cL_areLegs 266 = .ok (.iadd, 1) := by decide +kernel
theorem dL_areLegs_267 : decode cL_areLegs 267 = .ok (.aload_n 1, 1) := by decide +kernel
theorem dL_areLegs_268 : decode cL_areLegs 268 = .ok (.iload 7, 2) := by decide +kernel
theorem dL_areLegs_270 : decode cL_areLegs 270 = .ok (.iaload, 1) := by decide +kernel
theorem dL_areLegs_271 : decode cL_areLegs 271 = .ok (.bipush 10, 2) := by decide +kernel
theorem dL_areLegs_273 : decode cL_areLegs 273 = .ok (.iconst 3, 1) := by decide +kernel
theorem dL_areLegs_274 : decode cL_areLegs 274 = .ok (.invokestatic 73, 3) := by decide +kernel
theorem dL_areLegs_277 : decode cL_areLegs 277 = .ok (.invokestatic 90, 3) := by decide +kernel
theorem dL_areLegs_280 : decode cL_areLegs 280 = .ok (.iastore, 1) := by decide +kernel
theorem dL_areLegs_281 : decode cL_areLegs 281 = .ok (.iload 6, 2) := by decide +kernel
theorem dL_areLegs_283 : decode cL_areLegs 283 = .ok (.ifCond .eq 79, 3) := by decide +kernel
theorem dL_areLegs_286 : decode cL_areLegs 286 = .ok (.aload_n 0, 1) := by decide +kernel
theorem dL_areLegs_287 : decode cL_areLegs 287 = .ok (.iload 7, 2) := by decide +kernel
theorem dL_areLegs_289 : decode cL_areLegs 289 = .ok (.invokevirtual 94, 3) := by decide +kernel
theorem dL_areLegs_292 : decode cL_areLegs 292 = .ok (.aload_n 2, 1) := by decide +kernel
theorem dL_areLegs_293 : decode cL_areLegs 293 = .ok (.iload 7, 2) := by decide +kernel
theorem dL_areLegs_295 : decode cL_areLegs 295 = .ok (.iaload, 1) := by decide +kernel
theorem dL_areLegs_296 : decode cL_areLegs 296 = .ok (.aload_n 2, 1) := by decide +kernel
theorem dL_areLegs_297 : decode cL_areLegs 297 = .ok (.iload 7, 2) := by decide +kernel
theorem dL_areLegs_299 : decode cL_areLegs 299 = .ok (.iaload, 1) := by decide +kernel
theorem dL_areLegs_300 : decode cL_areLegs 300 = .ok (.bipush 16, 2) := by decide +kernel
theorem dL_areLegs_302 : decode cL_areLegs 302 = .ok (.iushr, 1) := by decide +kernel
theorem dL_areLegs_303 : decode cL_areLegs 303 = .ok (.ixor, 1) := by decide +kernel
theorem dL_areLegs_304 : decode cL_areLegs 304 = .ok (.if_icmp .ne 58, 3) := by decide +kernel
theorem dL_areLegs_307 : decode cL_areLegs 307 = .ok (.aload_n 0, 1) := by decide +kernel
theorem dL_areLegs_308 : decode cL_areLegs 308 = .ok (.iload 7, 2) := by decide +kernel
theorem dL_areLegs_310 : decode cL_areLegs 310 = .ok (.invokevirtual 97, 3) := by decide +kernel
theorem dL_areLegs_313 : decode cL_areLegs 313 = .ok (.bipush (-128), 2) := by decide +kernel
theorem dL_areLegs_315 : decode cL_areLegs 315 = .ok (.if_icmp .lt 47, 3) := by decide +kernel
theorem dL_areLegs_318 : decode cL_areLegs 318 = .ok (.aload_n 0, 1) := by decide +kernel
theorem dL_areLegs_319 : decode cL_areLegs 319 = .ok (.iload 7, 2) := by decide +kernel
theorem dL_areLegs_321 : decode cL_areLegs 321 = .ok (.invokevirtual 97, 3) := by decide +kernel
theorem dL_areLegs_324 : decode cL_areLegs 324 = .ok (.bipush 127, 2) := by decide +kernel
theorem dL_areLegs_326 : decode cL_areLegs 326 = .ok (.if_icmp .gt 36, 3) := by decide +kernel
theorem dL_areLegs_329 : decode cL_areLegs 329 = .ok (.aload_n 0, 1) := by decide +kernel
theorem dL_areLegs_330 : decode cL_areLegs 330 = .ok (.iload 7, 2) := by decide +kernel
theorem dL_areLegs_332 : decode cL_areLegs 332 = .ok (.invokevirtual 81, 3) := by decide +kernel
theorem dL_areLegs_335 : decode cL_areLegs 335 = .ok (.ifCond .gt 23, 3) := by decide +kernel
theorem dL_areLegs_338 : decode cL_areLegs 338 = .ok (.aload_n 0, 1) := by decide +kernel
theorem dL_areLegs_339 : decode cL_areLegs 339 = .ok (.iload 7, 2) := by decide +kernel
theorem dL_areLegs_341 : decode cL_areLegs 341 = .ok (.invokevirtual 97, 3) := by decide +kernel
theorem dL_areLegs_344 : decode cL_areLegs 344 = .ok (.iload 8, 2) := by decide +kernel
theorem dL_areLegs_346 : decode cL_areLegs 346 = .ok (.if_icmp .ne 16, 3) := by decide +kernel
theorem dL_areLegs_349 : decode cL_areLegs 349 = .ok (.aload_n 0, 1) := by decide +kernel
theorem dL_areLegs_350 : decode cL_areLegs 350 = .ok (.iload 7, 2) := by decide +kernel
theorem dL_areLegs_352 : decode cL_areLegs 352 = .ok (.invokevirtual 60, 3) := by decide +kernel
theorem dL_areLegs_355 : decode cL_areLegs 355 = .ok (.ifCond .ne 7, 3) := by decide +kernel
theorem dL_areLegs_358 : decode cL_areLegs 358 = .ok (.iconst 1, 1) := by decide +kernel
theorem dL_areLegs_359 : decode cL_areLegs 359 = .ok (.goto 4, 3) := by decide +kernel
theorem dL_areLegs_362 : decode cL_areLegs 362 = .ok (.iconst 0, 1) := by decide +kernel
theorem dL_areLegs_363 : decode cL_areLegs 363 = .ok (.istore 6, 2) := by decide +kernel
theorem dL_areLegs_365 : decode cL_areLegs 365 = .ok (.iinc 7 1, 3) := by decide +kernel
theorem dL_areLegs_368 : decode cL_areLegs 368 = .ok (.goto (-335), 3) := by decide +kernel
theorem dL_areLegs_371 : decode cL_areLegs 371 = .ok (.iconst 0, 1) := by decide +kernel
theorem dL_areLegs_372 : decode cL_areLegs 372 = .ok (.istore 7, 2) := by decide +kernel
theorem dL_areLegs_374 : decode cL_areLegs 374 = .ok (.iload 7, 2) := by decide +kernel
theorem dL_areLegs_376 : decode cL_areLegs 376 = .ok (.bipush 10, 2) := by decide +kernel
theorem dL_areLegs_378 : decode cL_areLegs 378 = .ok (.if_icmp .ge 116, 3) := by decide +kernel
theorem dL_areLegs_381 : decode cL_areLegs 381 = .ok (.iload 6, 2) := by decide +kernel
theorem dL_areLegs_383 : decode cL_areLegs 383 = .ok (.ifCond .eq 111, 3) := by decide +kernel
theorem dL_areLegs_386 : decode cL_areLegs 386 = .ok (.lload 4, 2) := by decide +kernel
theorem dL_areLegs_388 : decode cL_areLegs 388 = .ok (.iload 7, 2) := by decide +kernel
theorem dL_areLegs_390 : decode cL_areLegs 390 = .ok (.lshr, 1) := by decide +kernel
theorem dL_areLegs_391 : decode cL_areLegs 391 = .ok (.lconst 1, 1) := by decide +kernel
theorem dL_areLegs_392 : decode cL_areLegs 392 = .ok (.land, 1) := by decide +kernel
theorem dL_areLegs_393 : decode cL_areLegs 393 = .ok (.lconst 1, 1) := by decide +kernel
theorem dL_areLegs_394 : decode cL_areLegs 394 = .ok (.lcmp, 1) := by decide +kernel
theorem dL_areLegs_395 : decode cL_areLegs 395 = .ok (.ifCond .ne 7, 3) := by decide +kernel
theorem dL_areLegs_398 : decode cL_areLegs 398 = .ok (.iconst 1, 1) := by decide +kernel
theorem dL_areLegs_399 : decode cL_areLegs 399 = .ok (.goto 4, 3) := by decide +kernel
theorem dL_areLegs_402 : decode cL_areLegs 402 = .ok (.iconst 0, 1) := by decide +kernel
theorem dL_areLegs_403 : decode cL_areLegs 403 = .ok (.istore 8, 2) := by decide +kernel
theorem dL_areLegs_405 : decode cL_areLegs 405 = .ok (.aload_n 0, 1) := by decide +kernel
theorem dL_areLegs_406 : decode cL_areLegs 406 = .ok (.iload 7, 2) := by decide +kernel
theorem dL_areLegs_408 : decode cL_areLegs 408 = .ok (.invokevirtual 84, 3) := by decide +kernel
theorem dL_areLegs_411 : decode cL_areLegs 411 = .ok (.ifCond .lt 7, 3) := by decide +kernel
theorem dL_areLegs_414 : decode cL_areLegs 414 = .ok (.iconst 1, 1) := by decide +kernel
theorem dL_areLegs_415 : decode cL_areLegs 415 = .ok (.goto 4, 3) := by decide +kernel
theorem dL_areLegs_418 : decode cL_areLegs 418 = .ok (.iconst 0, 1) := by decide +kernel
theorem dL_areLegs_419 : decode cL_areLegs 419 = .ok (.iload 8, 2) := by decide +kernel
theorem dL_areLegs_421 : decode cL_areLegs 421 = .ok (.if_icmp .ne 64, 3) := by decide +kernel
theorem dL_areLegs_424 : decode cL_areLegs 424 = .ok (.iload 8, 2) := by decide +kernel
theorem dL_areLegs_426 : decode cL_areLegs 426 = .ok (.ifCond .eq 26, 3) := by decide +kernel
theorem dL_areLegs_429 : decode cL_areLegs 429 = .ok (.aload_n 0, 1) := by decide +kernel
theorem dL_areLegs_430 : decode cL_areLegs 430 = .ok (.iload 7, 2) := by decide +kernel
theorem dL_areLegs_432 : decode cL_areLegs 432 = .ok (.invokevirtual 100, 3) := by decide +kernel
theorem dL_areLegs_435 : decode cL_areLegs 435 = .ok (.ifCond .lt 50, 3) := by decide +kernel
theorem dL_areLegs_438 : decode cL_areLegs 438 = .ok (.aload_n 0, 1) := by decide +kernel
theorem dL_areLegs_439 : decode cL_areLegs 439 = .ok (.iload 7, 2) := by decide +kernel
theorem dL_areLegs_441 : decode cL_areLegs 441 = .ok (.invokevirtual 100, 3) := by decide +kernel
theorem dL_areLegs_444 : decode cL_areLegs 444 = .ok (.bipush 100, 2) := by decide +kernel
theorem dL_areLegs_446 : decode cL_areLegs 446 = .ok (.if_icmp .gt 39, 3) := by decide +kernel
theorem dL_areLegs_449 : decode cL_areLegs 449 = .ok (.goto 12, 3) := by decide +kernel
theorem dL_areLegs_452 : decode cL_areLegs 452 = .ok (.aload_n 0, 1) := by decide +kernel
theorem dL_areLegs_453 : decode cL_areLegs 453 = .ok (.iload 7, 2) := by decide +kernel
theorem dL_areLegs_455 : decode cL_areLegs 455 = .ok (.invokevirtual 100, 3) := by decide +kernel
theorem dL_areLegs_458 : decode cL_areLegs 458 = .ok (.ifCond .ne 27, 3) := by decide +kernel
theorem dL_areLegs_461 : decode cL_areLegs 461 = .ok (.aload_n 0, 1) := by decide +kernel
theorem dL_areLegs_462 : decode cL_areLegs 462 = .ok (.iload 7, 2) := by decide +kernel
theorem dL_areLegs_464 : decode cL_areLegs 464 = .ok (.invokevirtual 87, 3) := by decide +kernel
theorem dL_areLegs_467 : decode cL_areLegs 467 = .ok (.ifCond .lt 18, 3) := by decide +kernel
theorem dL_areLegs_470 : decode cL_areLegs 470 = .ok (.aload_n 0, 1) := by decide +kernel
theorem dL_areLegs_471 : decode cL_areLegs 471 = .ok (.iload 7, 2) := by decide +kernel
theorem dL_areLegs_473 : decode cL_areLegs 473 = .ok (.invokevirtual 87, 3) := by decide +kernel
theorem dL_areLegs_476 : decode cL_areLegs 476 = .ok (.bipush 8, 2) := by decide +kernel
theorem dL_areLegs_478 : decode cL_areLegs 478 = .ok (.if_icmp .ge 7, 3) := by decide +kernel
theorem dL_areLegs_481 : decode cL_areLegs 481 = .ok (.iconst 1, 1) := by decide +kernel
theorem dL_areLegs_482 : decode cL_areLegs 482 = .ok (.goto 4, 3) := by decide +kernel
theorem dL_areLegs_485 : decode cL_areLegs 485 = .ok (.iconst 0, 1) := by decide +kernel
theorem dL_areLegs_486 : decode cL_areLegs 486 = .ok (.istore 6, 2) := by decide +kernel
theorem dL_areLegs_488 : decode cL_areLegs 488 = .ok (.iinc 7 1, 3) := by decide +kernel
theorem dL_areLegs_491 : decode cL_areLegs 491 = .ok (.goto (-117), 3) := by decide +kernel
theorem dL_areLegs_494 : decode cL_areLegs 494 = .ok (.iload 6, 2) := by decide +kernel
theorem dL_areLegs_496 : decode cL_areLegs 496 = .ok (.ireturn, 1) := by decide +kernel
theorem dL_areCalls_0 : decode cL_areCalls 0 = .ok (.iconst 1, 1) := by decide +kernel
theorem dL_areCalls_1 : decode cL_areCalls 1 = .ok (.istore_n 3, 1) := by decide +kernel
theorem dL_areCalls_2 : decode cL_areCalls 2 = .ok (.iconst 0, 1) := by decide +kernel
theorem dL_areCalls_3 : decode cL_areCalls 3 = .ok (.istore 4, 2) := by decide +kernel
theorem dL_areCalls_5 : decode cL_areCalls 5 = .ok (.iload 4, 2) := by decide +kernel
theorem dL_areCalls_7 : decode cL_areCalls 7 = .ok (.aload_n 2, 1) := by decide +kernel
theorem dL_areCalls_8 : decode cL_areCalls 8 = .ok (.iconst 1, 1) := by decide +kernel
theorem dL_areCalls_9 : decode cL_areCalls 9 = .ok (.iaload, 1) := by decide +kernel
theorem dL_areCalls_10 : decode cL_areCalls 10 = .ok (.if_icmp .ge 143, 3) := by decide +kernel
theorem dL_areCalls_13 : decode cL_areCalls 13 = .ok (.iload_n 3, 1) := by decide +kernel
theorem dL_areCalls_14 : decode cL_areCalls 14 = .ok (.ifCond .eq 139, 3) := by decide +kernel
theorem dL_areCalls_17 : decode cL_areCalls 17 = .ok (.iconst 0, 1) := by decide +kernel
theorem dL_areCalls_18 : decode cL_areCalls 18 = .ok (.istore 5, 2) := by decide +kernel
theorem dL_areCalls_20 : decode cL_areCalls 20 = .ok (.iload 4, 2) := by decide +kernel
theorem dL_areCalls_22 : decode cL_areCalls 22 = .ok (.i2l, 1) := by decide +kernel
theorem dL_areCalls_23 : decode cL_areCalls 23 = .ok (.lconst 1, 1) := by decide +kernel
theorem dL_areCalls_24 : decode cL_areCalls 24 = .ok (.ladd, 1) := by decide +kernel
theorem dL_areCalls_25 : decode cL_areCalls 25 = .ok (.lstore 6, 2) := by decide +kernel
theorem dL_areCalls_27 : decode cL_areCalls 27 = .ok (.iconst 0, 1) := by decide +kernel
theorem dL_areCalls_28 : decode cL_areCalls 28 = .ok (.istore 8, 2) := by decide +kernel
theorem dL_areCalls_30 : decode cL_areCalls 30 = .ok (.iload 8, 2) := by decide +kernel
theorem dL_areCalls_32 : decode cL_areCalls 32 = .ok (.aload_n 2, 1) := by decide +kernel
theorem dL_areCalls_33 : decode cL_areCalls 33 = .ok (.iconst 2, 1) := by decide +kernel
theorem dL_areCalls_34 : decode cL_areCalls 34 = .ok (.iaload, 1) := by decide +kernel
theorem dL_areCalls_35 : decode cL_areCalls 35 = .ok (.if_icmp .ge 64, 3) := by decide +kernel
theorem dL_areCalls_38 : decode cL_areCalls 38 = .ok (.aload_n 1, 1) := by decide +kernel
theorem dL_areCalls_39 : decode cL_areCalls 39 = .ok (.iload 8, 2) := by decide +kernel
theorem dL_areCalls_41 : decode cL_areCalls 41 = .ok (.iaload, 1) := by decide +kernel
theorem dL_areCalls_42 : decode cL_areCalls 42 = .ok (.iconst 4, 1) := by decide +kernel
theorem dL_areCalls_43 : decode cL_areCalls 43 = .ok (.bipush 6, 2) := by decide +kernel
theorem dL_areCalls_45 : decode cL_areCalls 45 = .ok (.invokestatic 73, 3) := by decide +kernel
theorem dL_areCalls_48 : decode cL_areCalls 48 = .ok (.iload 4, 2) := by decide +kernel
theorem dL_areCalls_50 : decode cL_areCalls 50 = .ok (.if_icmp .ne 43, 3) := by decide +kernel
theorem dL_areCalls_53 : decode cL_areCalls 53 = .ok (.iload 5, 2) := by decide +kernel
theorem dL_areCalls_55 : decode cL_areCalls 55 = .ok (.aload_n 0, 1) := by decide +kernel
theorem dL_areCalls_56 : decode cL_areCalls 56 = .ok (.iload 8, 2) := by decide +kernel
theorem dL_areCalls_58 : decode cL_areCalls 58 = .ok (.invokevirtual 78, 3) := by decide +kernel
theorem dL_areCalls_61 : decode cL_areCalls 61 = .ok (.ifCond .ne 7, 3) := by decide +kernel
theorem dL_areCalls_64 : decode cL_areCalls 64 = .ok (.iconst 1, 1) := by decide +kernel
theorem dL_areCalls_65 : decode cL_areCalls 65 = .ok (.goto 4, 3) := by decide +kernel
theorem dL_areCalls_68 : decode cL_areCalls 68 = .ok (.iconst 0, 1) := by decide +kernel
theorem dL_areCalls_69 : decode cL_areCalls 69 = .ok (.iadd, 1) := by decide +kernel
theorem dL_areCalls_70 : decode cL_areCalls 70 = .ok (.istore 5, 2) := by decide +kernel
theorem dL_areCalls_72 : decode cL_areCalls 72 = .ok (.lload 6, 2) := by decide +kernel
theorem dL_areCalls_74 : decode cL_areCalls 74 = .ok (.bipush 7, 2) := by decide +kernel
theorem dL_areCalls_76 : decode cL_areCalls 76 = .ok (.lshl, 1) := by decide +kernel
theorem dL_areCalls_77 : decode cL_areCalls 77 = .ok (.lload 6, 2) := by decide +kernel
theorem dL_areCalls_79 : decode cL_areCalls 79 = .ok (.bipush 57, 2) := by decide +kernel
theorem dL_areCalls_81 : decode cL_areCalls 81 = .ok (.lushr, 1) := by decide +kernel
theorem dL_areCalls_82 : decode cL_areCalls 82 = .ok (.lor, 1) := by decide +kernel
theorem dL_areCalls_83 : decode cL_areCalls 83 = .ok (.aload_n 0, 1) := by decide +kernel
theorem dL_areCalls_84 : decode cL_areCalls 84 = .ok (.iload 8, 2) := by decide +kernel
theorem dL_areCalls_86 : decode cL_areCalls 86 = .ok (.invokevirtual 94, 3) := by decide +kernel
theorem dL_areCalls_89 : decode cL_areCalls 89 = .ok (.i2l, 1) := by decide +kernel
theorem dL_areCalls_90 : decode cL_areCalls 90 = .ok (.ladd, 1) := by decide +kernel
theorem dL_areCalls_91 : decode cL_areCalls 91 = .ok (.lstore 6, 2) := by decide +kernel
theorem dL_areCalls_93 : decode cL_areCalls 93 = .ok (.iinc 8 1, 3) := by decide +kernel
theorem dL_areCalls_96 : decode cL_areCalls 96 = .ok (.goto (-66), 3) := by decide +kernel
theorem dL_areCalls_99 : decode cL_areCalls 99 = .ok (.aload_n 0, 1) := by decide +kernel
theorem dL_areCalls_100 : decode cL_areCalls 100 = .ok (.iload 4, 2) := by decide +kernel
theorem dL_areCalls_102 : decode cL_areCalls 102 = .ok (.invokevirtual 103, 3) := by decide +kernel
theorem dL_areCalls_105 : decode cL_areCalls 105 = .ok (.iload 5, 2) := by decide +kernel
theorem dL_areCalls_107 : decode cL_areCalls 107 = .ok (.if_icmp .ne 38, 3) := by decide +kernel
theorem dL_areCalls_110 : decode cL_areCalls 110 = .ok (.iload 5, 2) := by decide +kernel
theorem dL_areCalls_112 : decode cL_areCalls 112 = .ok (.iconst 1, 1) := by decide +kernel
theorem dL_areCalls_113 : decode cL_areCalls 113 = .ok (.if_icmp .eq 32, 3) := by decide +kernel
theorem dL_areCalls_116 : decode cL_areCalls 116 = .ok (.iload 5, 2) := by decide +kernel
theorem dL_areCalls_118 : decode cL_areCalls 118 = .ok (.iconst 5, 1) := by decide +kernel
theorem dL_areCalls_119 : decode cL_areCalls 119 = .ok (.if_icmp .ge 26, 3) := by decide +kernel
theorem dL_areCalls_122 : decode cL_areCalls 122 = .ok (.aload_n 0, 1) := by decide +kernel
theorem dL_areCalls_123 : decode cL_areCalls 123 = .ok (.iload 4, 2) := by decide +kernel
theorem dL_areCalls_125 : decode cL_areCalls 125 = .ok (.invokevirtual 106, 3) := by decide +kernel
theorem dL_areCalls_128 : decode cL_areCalls 128 = .ok (.lload 6, 2) := by decide +kernel
theorem dL_areCalls_130 : decode cL_areCalls 130 = .ok (.bipush 32, 2) := by decide +kernel
theorem dL_areCalls_132 : decode cL_areCalls 132 = .ok (.lshr, 1) := by decide +kernel
theorem dL_areCalls_133 : decode cL_areCalls 133 = .ok (.l2i, 1) := by decide +kernel
theorem dL_areCalls_134 : decode cL_areCalls 134 = .ok (.lload 6, 2) := by decide +kernel
theorem dL_areCalls_136 : decode cL_areCalls 136 = .ok (.l2i, 1) := by decide +kernel
theorem dL_areCalls_137 : decode cL_areCalls 137 = .ok (.ixor, 1) := by decide +kernel
theorem dL_areCalls_138 : decode cL_areCalls 138 = .ok (.if_icmp .ne 7, 3) := by decide +kernel
theorem dL_areCalls_141 : decode cL_areCalls 141 = .ok (.iconst 1, 1) := by decide +kernel
theorem dL_areCalls_142 : decode cL_areCalls 142 = .ok (.goto 4, 3) := by decide +kernel
theorem dL_areCalls_145 : decode cL_areCalls 145 = .ok (.iconst 0, 1) := by decide +kernel
theorem dL_areCalls_146 : decode cL_areCalls 146 = .ok (.istore_n 3, 1) := by decide +kernel
theorem dL_areCalls_147 : decode cL_areCalls 147 = .ok (.iinc 4 1, 3) := by decide +kernel
theorem dL_areCalls_150 : decode cL_areCalls 150 = .ok (.goto (-145), 3) := by decide +kernel
theorem dL_areCalls_153 : decode cL_areCalls 153 = .ok (.iload_n 3, 1) := by decide +kernel
theorem dL_areCalls_154 : decode cL_areCalls 154 = .ok (.ireturn, 1) := by decide +kernel
theorem dL_reads_0 : decode cL_reads 0 = .ok (.iconst 1, 1) := by decide +kernel
theorem dL_reads_1 : decode cL_reads 1 = .ok (.istore 4, 2) := by decide +kernel
theorem dL_reads_3 : decode cL_reads 3 = .ok (.iload_n 2, 1) := by decide +kernel
theorem dL_reads_4 : decode cL_reads 4 = .ok (.istore 5, 2) := by decide +kernel
theorem dL_reads_6 : decode cL_reads 6 = .ok (.iload_n 3, 1) := by decide +kernel
theorem dL_reads_7 : decode cL_reads 7 = .ok (.iload 4, 2) := by decide +kernel
theorem dL_reads_9 : decode cL_reads 9 = .ok (.idiv, 1) := by decide +kernel
theorem dL_reads_10 : decode cL_reads 10 = .ok (.bipush 9, 2) := by decide +kernel
theorem dL_reads_12 : decode cL_reads 12 = .ok (.if_icmp .le 13, 3) := by decide +kernel
theorem dL_reads_15 : decode cL_reads 15 = .ok (.iload 4, 2) := by decide +kernel
theorem dL_reads_17 : decode cL_reads 17 = .ok (.bipush 10, 2) := by decide +kernel
theorem dL_reads_19 : decode cL_reads 19 = .ok (.imul, 1) := by decide +kernel
theorem dL_reads_20 : decode cL_reads 20 = .ok (.istore 4, 2) := by decide +kernel
theorem dL_reads_22 : decode cL_reads 22 = .ok (.goto (-16), 3) := by decide +kernel
theorem dL_reads_25 : decode cL_reads 25 = .ok (.iload 4, 2) := by decide +kernel
theorem dL_reads_27 : decode cL_reads 27 = .ok (.ifCond .le 48, 3) := by decide +kernel
theorem dL_reads_30 : decode cL_reads 30 = .ok (.iload 5, 2) := by decide +kernel
theorem dL_reads_32 : decode cL_reads 32 = .ok (.ifCond .lt 43, 3) := by decide +kernel
theorem dL_reads_35 : decode cL_reads 35 = .ok (.aload_n 0, 1) := by decide +kernel
theorem dL_reads_36 : decode cL_reads 36 = .ok (.iload_n 1, 1) := by decide +kernel
theorem dL_reads_37 : decode cL_reads 37 = .ok (.iload 5, 2) := by decide +kernel
theorem dL_reads_39 : decode cL_reads 39 = .ok (.invokevirtual 109, 3) := by decide +kernel
theorem dL_reads_42 : decode cL_reads 42 = .ok (.bipush 48, 2) := by decide +kernel
theorem dL_reads_44 : decode cL_reads 44 = .ok (.iload_n 3, 1) := by decide +kernel
theorem dL_reads_45 : decode cL_reads 45 = .ok (.iload 4, 2) := by decide +kernel
theorem dL_reads_47 : decode cL_reads 47 = .ok (.idiv, 1) := by decide +kernel
theorem dL_reads_48 : decode cL_reads 48 = .ok (.bipush 10, 2) := by decide +kernel
theorem dL_reads_50 : decode cL_reads 50 = .ok (.irem, 1) := by decide +kernel
theorem dL_reads_51 : decode cL_reads 51 = .ok (.iadd, 1) := by decide +kernel
theorem dL_reads_52 : decode cL_reads 52 = .ok (.if_icmp .ne 10, 3) := by decide +kernel
theorem dL_reads_55 : decode cL_reads 55 = .ok (.iload 5, 2) := by decide +kernel
theorem dL_reads_57 : decode cL_reads 57 = .ok (.iconst 1, 1) := by decide +kernel
theorem dL_reads_58 : decode cL_reads 58 = .ok (.iadd, 1) := by decide +kernel
theorem dL_reads_59 : decode cL_reads 59 = .ok (.goto 4, 3) := by decide +kernel
theorem dL_reads_62 : decode cL_reads 62 = .ok (.iconst (-1), 1) := by decide +kernel
theorem dL_reads_63 : decode cL_reads 63 = .ok (.istore 5, 2) := by decide +kernel
theorem dL_reads_65 : decode cL_reads 65 = .ok (.iload 4, 2) := by decide +kernel
theorem dL_reads_67 : decode cL_reads 67 = .ok (.bipush 10, 2) := by decide +kernel
theorem dL_reads_69 : decode cL_reads 69 = .ok (.idiv, 1) := by decide +kernel
theorem dL_reads_70 : decode cL_reads 70 = .ok (.istore 4, 2) := by decide +kernel
theorem dL_reads_72 : decode cL_reads 72 = .ok (.goto (-47), 3) := by decide +kernel
theorem dL_reads_75 : decode cL_reads 75 = .ok (.iload 5, 2) := by decide +kernel
theorem dL_reads_77 : decode cL_reads 77 = .ok (.ireturn, 1) := by decide +kernel
theorem dL_isLine_0 : decode cL_isLine 0 = .ok (.aload_n 0, 1) := by decide +kernel
theorem dL_isLine_1 : decode cL_isLine 1 = .ok (.iload_n 1, 1) := by decide +kernel
theorem dL_isLine_2 : decode cL_isLine 2 = .ok (.iconst 0, 1) := by decide +kernel
theorem dL_isLine_3 : decode cL_isLine 3 = .ok (.invokevirtual 109, 3) := by decide +kernel
theorem dL_isLine_6 : decode cL_isLine 6 = .ok (.bipush 80, 2) := by decide +kernel
theorem dL_isLine_8 : decode cL_isLine 8 = .ok (.if_icmp .ne 7, 3) := by decide +kernel
theorem dL_isLine_11 : decode cL_isLine 11 = .ok (.iconst 1, 1) := by decide +kernel
theorem dL_isLine_12 : decode cL_isLine 12 = .ok (.goto 4, 3) := by decide +kernel
theorem dL_isLine_15 : decode cL_isLine 15 = .ok (.iconst (-1), 1) := by decide +kernel
theorem dL_isLine_16 : decode cL_isLine 16 = .ok (.istore_n 3, 1) := by decide +kernel
theorem dL_isLine_17 : decode cL_isLine 17 = .ok (.iconst 0, 1) := by decide +kernel
theorem dL_isLine_18 : decode cL_isLine 18 = .ok (.istore 4, 2) := by decide +kernel
theorem dL_isLine_20 : decode cL_isLine 20 = .ok (.iload 4, 2) := by decide +kernel
theorem dL_isLine_22 : decode cL_isLine 22 = .ok (.iconst 5, 1) := by decide +kernel
theorem dL_isLine_23 : decode cL_isLine 23 = .ok (.if_icmp .ge 202, 3) := by decide +kernel
theorem dL_isLine_26 : decode cL_isLine 26 = .ok (.iload_n 3, 1) := by decide +kernel
theorem dL_isLine_27 : decode cL_isLine 27 = .ok (.ifCond .le 198, 3) := by decide +kernel
theorem dL_isLine_30 : decode cL_isLine 30 = .ok (.iload 4, 2) := by decide +kernel
theorem dL_isLine_32 : decode cL_isLine 32 = .ok (.ifCond .ne 14, 3) := by decide +kernel
theorem dL_isLine_35 : decode cL_isLine 35 = .ok (.aload_n 2, 1) := by decide +kernel
theorem dL_isLine_36 : decode cL_isLine 36 = .ok (.iload_n 1, 1) := by decide +kernel
theorem dL_isLine_37 : decode cL_isLine 37 = .ok (.iaload, 1) := by decide +kernel
theorem dL_isLine_38 : decode cL_isLine 38 = .ok (.iconst 0, 1) := by decide +kernel
theorem dL_isLine_39 : decode cL_isLine 39 = .ok (.iconst 4, 1) := by decide +kernel
theorem dL_isLine_40 : decode cL_isLine 40 = .ok (.invokestatic 73, 3) := by decide +kernel
theorem dL_isLine_43 : decode cL_isLine 43 = .ok (.goto 54, 3) := by decide +kernel
theorem dL_isLine_46 : decode cL_isLine 46 = .ok (.iload 4, 2) := by decide +kernel
theorem dL_isLine_48 : decode cL_isLine 48 = .ok (.iconst 1, 1) := by decide +kernel
theorem dL_isLine_49 : decode cL_isLine 49 = .ok (.if_icmp .ne 15, 3) := by decide +kernel
theorem dL_isLine_52 : decode cL_isLine 52 = .ok (.aload_n 2, 1) := by decide +kernel
theorem dL_isLine_53 : decode cL_isLine 53 = .ok (.iload_n 1, 1) := by decide +kernel
theorem dL_isLine_54 : decode cL_isLine 54 = .ok (.iaload, 1) := by decide +kernel
theorem dL_isLine_55 : decode cL_isLine 55 = .ok (.iconst 4, 1) := by decide +kernel
theorem dL_isLine_56 : decode cL_isLine 56 = .ok (.bipush 6, 2) := by decide +kernel
theorem dL_isLine_58 : decode cL_isLine 58 = .ok (.invokestatic 73, 3) := by decide +kernel
theorem dL_isLine_61 : decode cL_isLine 61 = .ok (.goto 36, 3) := by decide +kernel
theorem dL_isLine_64 : decode cL_isLine 64 = .ok (.iload 4, 2) := by decide +kernel
theorem dL_isLine_66 : decode cL_isLine 66 = .ok (.iconst 2, 1) := by decide +kernel
theorem dL_isLine_67 : decode cL_isLine 67 = .ok (.if_icmp .ne 11, 3) := by decide +kernel
theorem dL_isLine_70 : decode cL_isLine 70 = .ok (.aload_n 0, 1) := by decide +kernel
theorem dL_isLine_71 : decode cL_isLine 71 = .ok (.iload_n 1, 1) := by decide +kernel
theorem dL_isLine_72 : decode cL_isLine 72 = .ok (.invokevirtual 81, 3) := by decide +kernel
theorem dL_isLine_75 : decode cL_isLine 75 = .ok (.goto 22, 3) := by decide +kernel
theorem dL_isLine_78 : decode cL_isLine 78 = .ok (.iload 4, 2) := by decide +kernel
theorem dL_isLine_80 : decode cL_isLine 80 = .ok (.iconst 3, 1) := by decide +kernel
theorem dL_isLine_81 : decode cL_isLine 81 = .ok (.if_icmp .ne 11, 3) := by decide +kernel
theorem dL_isLine_84 : decode cL_isLine 84 = .ok (.aload_n 0, 1) := by decide +kernel
theorem dL_isLine_85 : decode cL_isLine 85 = .ok (.iload_n 1, 1) := by decide +kernel
theorem dL_isLine_86 : decode cL_isLine 86 = .ok (.invokevirtual 54, 3) := by decide +kernel
theorem dL_isLine_89 : decode cL_isLine 89 = .ok (.goto 8, 3) := by decide +kernel
theorem dL_isLine_92 : decode cL_isLine 92 = .ok (.aload_n 0, 1) := by decide +kernel
theorem dL_isLine_93 : decode cL_isLine 93 = .ok (.iload_n 1, 1) := by decide +kernel
theorem dL_isLine_94 : decode cL_isLine 94 = .ok (.invokevirtual 57, 3) := by decide +kernel
theorem dL_isLine_97 : decode cL_isLine 97 = .ok (.istore 5, 2) := by decide +kernel
theorem dL_isLine_99 : decode cL_isLine 99 = .ok (.iload 4, 2) := by decide +kernel
theorem dL_isLine_101 : decode cL_isLine 101 = .ok (.ifCond .ne 8, 3) := by decide +kernel
theorem dL_isLine_104 : decode cL_isLine 104 = .ok (.bipush 67, 2) := by decide +kernel
theorem dL_isLine_106 : decode cL_isLine 106 = .ok (.goto 79, 3) := by decide +kernel
theorem dL_isLine_109 : decode cL_isLine 109 = .ok (.iload 4, 2) := by decide +kernel
theorem dL_isLine_111 : decode cL_isLine 111 = .ok (.iconst 1, 1) := by decide +kernel
theorem dL_isLine_112 : decode cL_isLine 112 = .ok (.if_icmp .ne 8, 3) := by decide +kernel
theorem dL_isLine_115 : decode cL_isLine 115 = .ok (.bipush 58, 2) := by decide +kernel
theorem dL_isLine_117 : decode cL_isLine 117 = .ok (.goto 68, 3) := by decide +kernel
theorem dL_isLine_120 : decode cL_isLine 120 = .ok (.iload 4, 2) := by decide +kernel
theorem dL_isLine_122 : decode cL_isLine 122 = .ok (.iconst 2, 1) := by decide +kernel
theorem dL_isLine_123 : decode cL_isLine 123 = .ok (.if_icmp .ne 8, 3) := by decide +kernel
theorem dL_isLine_126 : decode cL_isLine 126 = .ok (.bipush 61, 2) := by decide +kernel
theorem dL_isLine_128 : decode cL_isLine 128 = .ok (.goto 57, 3) := by decide +kernel
theorem dL_isLine_131 : decode cL_isLine 131 = .ok (.iload 4, 2) := by decide +kernel
theorem dL_isLine_133 : decode cL_isLine 133 = .ok (.iconst 3, 1) := by decide +kernel
theorem dL_isLine_134 : decode cL_isLine 134 = .ok (.if_icmp .ne 8, 3) := by decide +kernel
theorem dL_isLine_137 : decode cL_isLine 137 = .ok (.bipush 43, 2) := by decide +kernel
theorem dL_isLine_139 : decode cL_isLine 139 = .ok (.goto 46, 3) := by decide +kernel
theorem dL_isLine_142 : decode cL_isLine 142 = .ok (.aload_n 0, 1) := by decide +kernel
theorem dL_isLine_143 : decode cL_isLine 143 = .ok (.iload_n 1, 1) := by decide +kernel
theorem dL_isLine_144 : decode cL_isLine 144 = .ok (.invokevirtual 78, 3) := by decide +kernel
theorem dL_isLine_147 : decode cL_isLine 147 = .ok (.ifCond .ne 8, 3) := by decide +kernel
theorem dL_isLine_150 : decode cL_isLine 150 = .ok (.bipush 126, 2) := by decide +kernel
theorem dL_isLine_152 : decode cL_isLine 152 = .ok (.goto 33, 3) := by decide +kernel
theorem dL_isLine_155 : decode cL_isLine 155 = .ok (.aload_n 0, 1) := by decide +kernel
theorem dL_isLine_156 : decode cL_isLine 156 = .ok (.iload_n 1, 1) := by decide +kernel
theorem dL_isLine_157 : decode cL_isLine 157 = .ok (.invokevirtual 78, 3) := by decide +kernel
theorem dL_isLine_160 : decode cL_isLine 160 = .ok (.iconst 1, 1) := by decide +kernel
theorem dL_isLine_161 : decode cL_isLine 161 = .ok (.if_icmp .ne 8, 3) := by decide +kernel
theorem dL_isLine_164 : decode cL_isLine 164 = .ok (.bipush 46, 2) := by decide +kernel
theorem dL_isLine_166 : decode cL_isLine 166 = .ok (.goto 19, 3) := by decide +kernel
theorem dL_isLine_169 : decode cL_isLine 169 = .ok (.aload_n 0, 1) := by decide +kernel
theorem dL_isLine_170 : decode cL_isLine 170 = .ok (.iload_n 1, 1) := by decide +kernel
theorem dL_isLine_171 : decode cL_isLine 171 = .ok (.invokevirtual 78, 3) := by decide +kernel
theorem dL_isLine_174 : decode cL_isLine 174 = .ok (.iconst 2, 1) := by decide +kernel
theorem dL_isLine_175 : decode cL_isLine 175 = .ok (.if_icmp .ne 8, 3) := by decide +kernel
theorem dL_isLine_178 : decode cL_isLine 178 = .ok (.bipush 33, 2) := by decide +kernel
theorem dL_isLine_180 : decode cL_isLine 180 = .ok (.goto 5, 3) := by decide +kernel
theorem dL_isLine_183 : decode cL_isLine 183 = .ok (.bipush 63, 2) := by decide +kernel
theorem dL_isLine_185 : decode cL_isLine 185 = .ok (.istore 6, 2) := by decide +kernel
theorem dL_isLine_187 : decode cL_isLine 187 = .ok (.aload_n 0, 1) := by decide +kernel
theorem dL_isLine_188 : decode cL_isLine 188 = .ok (.iload_n 1, 1) := by decide +kernel
theorem dL_isLine_189 : decode cL_isLine 189 = .ok (.iload_n 3, 1) := by decide +kernel
theorem dL_isLine_190 : decode cL_isLine 190 = .ok (.iload 5, 2) := by decide +kernel
theorem dL_isLine_192 : decode cL_isLine 192 = .ok (.invokestatic 112, 3) := by decide +kernel
theorem dL_isLine_195 : decode cL_isLine 195 = .ok (.istore_n 3, 1) := by decide +kernel
theorem dL_isLine_196 : decode cL_isLine 196 = .ok (.iload_n 3, 1) := by decide +kernel
theorem dL_isLine_197 : decode cL_isLine 197 = .ok (.ifCond .le 20, 3) := by decide +kernel
theorem dL_isLine_200 : decode cL_isLine 200 = .ok (.aload_n 0, 1) := by decide +kernel
theorem dL_isLine_201 : decode cL_isLine 201 = .ok (.iload_n 1, 1) := by decide +kernel
theorem dL_isLine_202 : decode cL_isLine 202 = .ok (.iload_n 3, 1) := by decide +kernel
theorem dL_isLine_203 : decode cL_isLine 203 = .ok (.invokevirtual 109, 3) := by decide +kernel
theorem dL_isLine_206 : decode cL_isLine 206 = .ok (.iload 6, 2) := by decide +kernel
theorem dL_isLine_208 : decode cL_isLine 208 = .ok (.if_icmp .ne 9, 3) := by decide +kernel
theorem dL_isLine_211 : decode cL_isLine 211 = .ok (.iload_n 3, 1) := by decide +kernel
theorem dL_isLine_212 : decode cL_isLine 212 = .ok (.iconst 1, 1) := by decide +kernel
theorem dL_isLine_213 : decode cL_isLine 213 = .ok (.iadd, 1) := by decide +kernel
theorem dL_isLine_214 : decode cL_isLine 214 = .ok (.goto 4, 3) := by decide +kernel
theorem dL_isLine_217 : decode cL_isLine 217 = .ok (.iconst (-1), 1) := by decide +kernel
theorem dL_isLine_218 : decode cL_isLine 218 = .ok (.istore_n 3, 1) := by decide +kernel
theorem dL_isLine_219 : decode cL_isLine 219 = .ok (.iinc 4 1, 3) := by decide +kernel
theorem dL_isLine_222 : decode cL_isLine 222 = .ok (.goto (-202), 3) := by decide +kernel
theorem dL_isLine_225 : decode cL_isLine 225 = .ok (.iload_n 3, 1) := by decide +kernel
theorem dL_isLine_226 : decode cL_isLine 226 = .ok (.ifCond .le 17, 3) := by decide +kernel
theorem dL_isLine_229 : decode cL_isLine 229 = .ok (.aload_n 0, 1) := by decide +kernel
theorem dL_isLine_230 : decode cL_isLine 230 = .ok (.iload_n 1, 1) := by decide +kernel
theorem dL_isLine_231 : decode cL_isLine 231 = .ok (.iload_n 3, 1) := by decide +kernel
theorem dL_isLine_232 : decode cL_isLine 232 = .ok (.invokevirtual 109, 3) := by decide +kernel
theorem dL_isLine_235 : decode cL_isLine 235 = .ok (.iconst (-1), 1) := by decide +kernel
theorem dL_isLine_236 : decode cL_isLine 236 = .ok (.if_icmp .ne 7, 3) := by decide +kernel
theorem dL_isLine_239 : decode cL_isLine 239 = .ok (.iconst 1, 1) := by decide +kernel
theorem dL_isLine_240 : decode cL_isLine 240 = .ok (.goto 4, 3) := by decide +kernel
theorem dL_isLine_243 : decode cL_isLine 243 = .ok (.iconst 0, 1) := by decide +kernel
theorem dL_isLine_244 : decode cL_isLine 244 = .ok (.ireturn, 1) := by decide +kernel
theorem dL_joins_0 : decode cL_joins 0 = .ok (.aload_n 0, 1) := by decide +kernel
theorem dL_joins_1 : decode cL_joins 1 = .ok (.aload_n 2, 1) := by decide +kernel
theorem dL_joins_2 : decode cL_joins 2 = .ok (.iconst 2, 1) := by decide +kernel
theorem dL_joins_3 : decode cL_joins 3 = .ok (.iaload, 1) := by decide +kernel
theorem dL_joins_4 : decode cL_joins 4 = .ok (.iload_n 3, 1) := by decide +kernel
theorem dL_joins_5 : decode cL_joins 5 = .ok (.iload 4, 2) := by decide +kernel
theorem dL_joins_7 : decode cL_joins 7 = .ok (.iconst 4, 1) := by decide +kernel
theorem dL_joins_8 : decode cL_joins 8 = .ok (.ishl, 1) := by decide +kernel
theorem dL_joins_9 : decode cL_joins 9 = .ok (.ior, 1) := by decide +kernel
theorem dL_joins_10 : decode cL_joins 10 = .ok (.iload 5, 2) := by decide +kernel
theorem dL_joins_12 : decode cL_joins 12 = .ok (.bipush 10, 2) := by decide +kernel
theorem dL_joins_14 : decode cL_joins 14 = .ok (.ishl, 1) := by decide +kernel
theorem dL_joins_15 : decode cL_joins 15 = .ok (.ior, 1) := by decide +kernel
theorem dL_joins_16 : decode cL_joins 16 = .ok (.aload_n 2, 1) := by decide +kernel
theorem dL_joins_17 : decode cL_joins 17 = .ok (.iconst 0, 1) := by decide +kernel
theorem dL_joins_18 : decode cL_joins 18 = .ok (.iaload, 1) := by decide +kernel
theorem dL_joins_19 : decode cL_joins 19 = .ok (.bipush 14, 2) := by decide +kernel
theorem dL_joins_21 : decode cL_joins 21 = .ok (.ishl, 1) := by decide +kernel
theorem dL_joins_22 : decode cL_joins 22 = .ok (.ior, 1) := by decide +kernel
theorem dL_joins_23 : decode cL_joins 23 = .ok (.iastore, 1) := by decide +kernel
theorem dL_joins_24 : decode cL_joins 24 = .ok (.aload_n 1, 1) := by decide +kernel
theorem dL_joins_25 : decode cL_joins 25 = .ok (.aload_n 2, 1) := by decide +kernel
theorem dL_joins_26 : decode cL_joins 26 = .ok (.iconst 2, 1) := by decide +kernel
theorem dL_joins_27 : decode cL_joins 27 = .ok (.iaload, 1) := by decide +kernel
theorem dL_joins_28 : decode cL_joins 28 = .ok (.iload_n 3, 1) := by decide +kernel
theorem dL_joins_29 : decode cL_joins 29 = .ok (.iconst 0, 1) := by decide +kernel
theorem dL_joins_30 : decode cL_joins 30 = .ok (.aload_n 2, 1) := by decide +kernel
theorem dL_joins_31 : decode cL_joins 31 = .ok (.iconst 0, 1) := by decide +kernel
theorem dL_joins_32 : decode cL_joins 32 = .ok (.iaload, 1) := by decide +kernel
theorem dL_joins_33 : decode cL_joins 33 = .ok (.iload 5, 2) := by decide +kernel
theorem dL_joins_35 : decode cL_joins 35 = .ok (.invokestatic 90, 3) := by decide +kernel
theorem dL_joins_38 : decode cL_joins 38 = .ok (.iastore, 1) := by decide +kernel
theorem dL_joins_39 : decode cL_joins 39 = .ok (.aload_n 2, 1) := by decide +kernel
theorem dL_joins_40 : decode cL_joins 40 = .ok (.iconst 2, 1) := by decide +kernel
theorem dL_joins_41 : decode cL_joins 41 = .ok (.dup2, 1) := by decide +kernel
theorem dL_joins_42 : decode cL_joins 42 = .ok (.iaload, 1) := by decide +kernel
theorem dL_joins_43 : decode cL_joins 43 = .ok (.iconst 1, 1) := by decide +kernel
theorem dL_joins_44 : decode cL_joins 44 = .ok (.iadd, 1) := by decide +kernel
theorem dL_joins_45 : decode cL_joins 45 = .ok (.iastore, 1) := by decide +kernel
theorem dL_joins_46 : decode cL_joins 46 = .ok (.return_, 1) := by decide +kernel
theorem dL_calls_0 : decode cL_calls 0 = .ok (.iload_n 2, 1) := by decide +kernel
theorem dL_calls_1 : decode cL_calls 1 = .ok (.bipush 10, 2) := by decide +kernel
theorem dL_calls_3 : decode cL_calls 3 = .ok (.irem, 1) := by decide +kernel
theorem dL_calls_4 : decode cL_calls 4 = .ok (.istore 7, 2) := by decide +kernel
theorem dL_calls_6 : decode cL_calls 6 = .ok (.iload_n 1, 1) := by decide +kernel
theorem dL_calls_7 : decode cL_calls 7 = .ok (.ifCond .ne 160, 3) := by decide +kernel
theorem dL_calls_10 : decode cL_calls 10 = .ok (.iload_n 3, 1) := by decide +kernel
theorem dL_calls_11 : decode cL_calls 11 = .ok (.bipush 10, 2) := by decide +kernel
theorem dL_calls_13 : decode cL_calls 13 = .ok (.irem, 1) := by decide +kernel
theorem dL_calls_14 : decode cL_calls 14 = .ok (.istore 8, 2) := by decide +kernel
theorem dL_calls_16 : decode cL_calls 16 = .ok (.aload_n 0, 1) := by decide +kernel
theorem dL_calls_17 : decode cL_calls 17 = .ok (.iload 7, 2) := by decide +kernel
theorem dL_calls_19 : decode cL_calls 19 = .ok (.invokevirtual 84, 3) := by decide +kernel
theorem dL_calls_22 : decode cL_calls 22 = .ok (.ifCond .ge 12, 3) := by decide +kernel
theorem dL_calls_25 : decode cL_calls 25 = .ok (.aload_n 0, 1) := by decide +kernel
theorem dL_calls_26 : decode cL_calls 26 = .ok (.iload 8, 2) := by decide +kernel
theorem dL_calls_28 : decode cL_calls 28 = .ok (.invokevirtual 84, 3) := by decide +kernel
theorem dL_calls_31 : decode cL_calls 31 = .ok (.ifCond .lt 7, 3) := by decide +kernel
theorem dL_calls_34 : decode cL_calls 34 = .ok (.iconst 1, 1) := by decide +kernel
theorem dL_calls_35 : decode cL_calls 35 = .ok (.goto 4, 3) := by decide +kernel
theorem dL_calls_38 : decode cL_calls 38 = .ok (.iconst 0, 1) := by decide +kernel
theorem dL_calls_39 : decode cL_calls 39 = .ok (.istore 9, 2) := by decide +kernel
theorem dL_calls_41 : decode cL_calls 41 = .ok (.aload_n 0, 1) := by decide +kernel
theorem dL_calls_42 : decode cL_calls 42 = .ok (.iconst 0, 1) := by decide +kernel
theorem dL_calls_43 : decode cL_calls 43 = .ok (.iload 7, 2) := by decide +kernel
theorem dL_calls_45 : decode cL_calls 45 = .ok (.iload 8, 2) := by decide +kernel
theorem dL_calls_47 : decode cL_calls 47 = .ok (.iload_n 3, 1) := by decide +kernel
theorem dL_calls_48 : decode cL_calls 48 = .ok (.bipush 10, 2) := by decide +kernel
theorem dL_calls_50 : decode cL_calls 50 = .ok (.idiv, 1) := by decide +kernel
theorem dL_calls_51 : decode cL_calls 51 = .ok (.iconst 2, 1) := by decide +kernel
theorem dL_calls_52 : decode cL_calls 52 = .ok (.irem, 1) := by decide +kernel
theorem dL_calls_53 : decode cL_calls 53 = .ok (.invokestatic 116, 3) := by decide +kernel
theorem dL_calls_56 : decode cL_calls 56 = .ok (.istore 10, 2) := by decide +kernel
theorem dL_calls_58 : decode cL_calls 58 = .ok (.iload 7, 2) := by decide +kernel
theorem dL_calls_60 : decode cL_calls 60 = .ok (.iload 8, 2) := by decide +kernel
theorem dL_calls_62 : decode cL_calls 62 = .ok (.if_icmp .eq 13, 3) := by decide +kernel
theorem dL_calls_65 : decode cL_calls 65 = .ok (.iload 9, 2) := by decide +kernel
theorem dL_calls_67 : decode cL_calls 67 = .ok (.ifCond .ne 8, 3) := by decide +kernel
theorem dL_calls_70 : decode cL_calls 70 = .ok (.iload 10, 2) := by decide +kernel
theorem dL_calls_72 : decode cL_calls 72 = .ok (.ifCond .ge 28, 3) := by decide +kernel
theorem dL_calls_75 : decode cL_calls 75 = .ok (.iload 10, 2) := by decide +kernel
theorem dL_calls_77 : decode cL_calls 77 = .ok (.iload 7, 2) := by decide +kernel
theorem dL_calls_79 : decode cL_calls 79 = .ok (.iload 8, 2) := by decide +kernel
theorem dL_calls_81 : decode cL_calls 81 = .ok (.if_icmp .ne 8, 3) := by decide +kernel
theorem dL_calls_84 : decode cL_calls 84 = .ok (.bipush (-109), 2) := by decide +kernel
theorem dL_calls_86 : decode cL_calls 86 = .ok (.goto 5, 3) := by decide +kernel
theorem dL_calls_89 : decode cL_calls 89 = .ok (.bipush (-108), 2) := by decide +kernel
theorem dL_calls_91 : decode cL_calls 91 = .ok (.if_icmp .ne 7, 3) := by decide +kernel
theorem dL_calls_94 : decode cL_calls 94 = .ok (.iconst 1, 1) := by decide +kernel
theorem dL_calls_95 : decode cL_calls 95 = .ok (.goto 4, 3) := by decide +kernel
theorem dL_calls_98 : decode cL_calls 98 = .ok (.iconst 0, 1) := by decide +kernel
theorem dL_calls_99 : decode cL_calls 99 = .ok (.ireturn, 1) := by decide +kernel
theorem dL_calls_100 : decode cL_calls 100 = .ok (.aload 4, 2) := by decide +kernel
theorem dL_calls_102 : decode cL_calls 102 = .ok (.aload 5, 2) := by decide +kernel
theorem dL_calls_104 : decode cL_calls 104 = .ok (.aload 6, 2) := by decide +kernel
theorem dL_calls_106 : decode cL_calls 106 = .ok (.iload 7, 2) := by decide +kernel
theorem dL_calls_108 : decode cL_calls 108 = .ok (.aload 6, 2) := by decide +kernel
theorem dL_calls_110 : decode cL_calls 110 = .ok (.iconst 1, 1) := by decide +kernel
theorem dL_calls_111 : decode cL_calls 111 = .ok (.iaload, 1) := by decide +kernel
theorem dL_calls_112 : decode cL_calls 112 = .ok (.aload_n 0, 1) := by decide +kernel
theorem dL_calls_113 : decode cL_calls 113 = .ok (.iload 7, 2) := by decide +kernel
theorem dL_calls_115 : decode cL_calls 115 = .ok (.invokevirtual 87, 3) := by decide +kernel
theorem dL_calls_118 : decode cL_calls 118 = .ok (.invokestatic 120, 3) := by decide +kernel
theorem dL_calls_121 : decode cL_calls 121 = .ok (.aload 4, 2) := by decide +kernel
theorem dL_calls_123 : decode cL_calls 123 = .ok (.aload 5, 2) := by decide +kernel
theorem dL_calls_125 : decode cL_calls 125 = .ok (.aload 6, 2) := by decide +kernel
theorem dL_calls_127 : decode cL_calls 127 = .ok (.iload 8, 2) := by decide +kernel
theorem dL_calls_129 : decode cL_calls 129 = .ok (.aload 6, 2) := by decide +kernel
theorem dL_calls_131 : decode cL_calls 131 = .ok (.iconst 1, 1) := by decide +kernel
theorem dL_calls_132 : decode cL_calls 132 = .ok (.iaload, 1) := by decide +kernel
theorem dL_calls_133 : decode cL_calls 133 = .ok (.aload_n 0, 1) := by decide +kernel
theorem dL_calls_134 : decode cL_calls 134 = .ok (.iload 8, 2) := by decide +kernel
theorem dL_calls_136 : decode cL_calls 136 = .ok (.invokevirtual 87, 3) := by decide +kernel
theorem dL_calls_139 : decode cL_calls 139 = .ok (.invokestatic 120, 3) := by decide +kernel
theorem dL_calls_142 : decode cL_calls 142 = .ok (.aload 6, 2) := by decide +kernel
theorem dL_calls_144 : decode cL_calls 144 = .ok (.iconst 1, 1) := by decide +kernel
theorem dL_calls_145 : decode cL_calls 145 = .ok (.dup2, 1) := by decide +kernel
theorem dL_calls_146 : decode cL_calls 146 = .ok (.iaload, 1) := by decide +kernel
theorem dL_calls_147 : decode cL_calls 147 = .ok (.iconst 1, 1) := by decide +kernel
theorem dL_calls_148 : decode cL_calls 148 = .ok (.iadd, 1) := by decide +kernel
theorem dL_calls_149 : decode cL_calls 149 = .ok (.iastore, 1) := by decide +kernel
theorem dL_calls_150 : decode cL_calls 150 = .ok (.iload 10, 2) := by decide +kernel
theorem dL_calls_152 : decode cL_calls 152 = .ok (.aload 6, 2) := by decide +kernel
theorem dL_calls_154 : decode cL_calls 154 = .ok (.iconst 1, 1) := by decide +kernel
theorem dL_calls_155 : decode cL_calls 155 = .ok (.iaload, 1) := by decide +kernel
theorem dL_calls_156 : decode cL_calls 156 = .ok (.iconst 1, 1) := by decide +kernel
theorem dL_calls_157 : decode cL_calls 157 = .ok (.isub, 1) := by decide +kernel
theorem dL_calls_158 : decode cL_calls 158 = .ok (.if_icmp .ne 7, 3) := by decide +kernel
theorem dL_calls_161 : decode cL_calls 161 = .ok (.iconst 1, 1) := by decide +kernel
theorem dL_calls_162 : decode cL_calls 162 = .ok (.goto 4, 3) := by decide +kernel
theorem dL_calls_165 : decode cL_calls 165 = .ok (.iconst 0, 1) := by decide +kernel
theorem dL_calls_166 : decode cL_calls 166 = .ok (.ireturn, 1) := by decide +kernel
theorem dL_calls_167 : decode cL_calls 167 = .ok (.iload_n 1, 1) := by decide +kernel
theorem dL_calls_168 : decode cL_calls 168 = .ok (.iconst 1, 1) := by decide +kernel
theorem dL_calls_169 : decode cL_calls 169 = .ok (.if_icmp .ne 205, 3) := by decide +kernel
theorem dL_calls_172 : decode cL_calls 172 = .ok (.aload 6, 2) := by decide +kernel
theorem dL_calls_174 : decode cL_calls 174 = .ok (.iconst 1, 1) := by decide +kernel
theorem dL_calls_175 : decode cL_calls 175 = .ok (.iaload, 1) := by decide +kernel
theorem dL_calls_176 : decode cL_calls 176 = .ok (.ifCond .ne 5, 3) := by decide +kernel
theorem dL_calls_179 : decode cL_calls 179 = .ok (.iconst 1, 1) := by decide +kernel
theorem dL_calls_180 : decode cL_calls 180 = .ok (.ireturn, 1) := by decide +kernel
theorem dL_calls_181 : decode cL_calls 181 = .ok (.aload 6, 2) := by decide +kernel
theorem dL_calls_183 : decode cL_calls 183 = .ok (.iconst 1, 1) := by decide +kernel
theorem dL_calls_184 : decode cL_calls 184 = .ok (.iaload, 1) := by decide +kernel
theorem dL_calls_185 : decode cL_calls 185 = .ok (.iconst 1, 1) := by decide +kernel
theorem dL_calls_186 : decode cL_calls 186 = .ok (.isub, 1) := by decide +kernel
theorem dL_calls_187 : decode cL_calls 187 = .ok (.iload_n 3, 1) := by decide +kernel
theorem dL_calls_188 : decode cL_calls 188 = .ok (.aload 6, 2) := by decide +kernel
theorem dL_calls_190 : decode cL_calls 190 = .ok (.iconst 1, 1) := by decide +kernel
theorem dL_calls_191 : decode cL_calls 191 = .ok (.iaload, 1) := by decide +kernel
theorem dL_calls_192 : decode cL_calls 192 = .ok (.iconst 4, 1) := by decide +kernel
theorem dL_calls_193 : decode cL_calls 193 = .ok (.if_icmp .ge 10, 3) := by decide +kernel
theorem dL_calls_196 : decode cL_calls 196 = .ok (.aload 6, 2) := by decide +kernel
theorem dL_calls_198 : decode cL_calls 198 = .ok (.iconst 1, 1) := by decide +kernel
theorem dL_calls_199 : decode cL_calls 199 = .ok (.iaload, 1) := by decide +kernel
theorem dL_calls_200 : decode cL_calls 200 = .ok (.goto 4, 3) := by decide +kernel
theorem dL_calls_203 : decode cL_calls 203 = .ok (.iconst 4, 1) := by decide +kernel
theorem dL_calls_204 : decode cL_calls 204 = .ok (.irem, 1) := by decide +kernel
theorem dL_calls_205 : decode cL_calls 205 = .ok (.isub, 1) := by decide +kernel
theorem dL_calls_206 : decode cL_calls 206 = .ok (.istore 8, 2) := by decide +kernel
theorem dL_calls_208 : decode cL_calls 208 = .ok (.aload_n 0, 1) := by decide +kernel
theorem dL_calls_209 : decode cL_calls 209 = .ok (.iload 8, 2) := by decide +kernel
theorem dL_calls_211 : decode cL_calls 211 = .ok (.invokevirtual 103, 3) := by decide +kernel
theorem dL_calls_214 : decode cL_calls 214 = .ok (.istore 9, 2) := by decide +kernel
theorem dL_calls_216 : decode cL_calls 216 = .ok (.aload_n 0, 1) := by decide +kernel
theorem dL_calls_217 : decode cL_calls 217 = .ok (.iload 7, 2) := by decide +kernel
theorem dL_calls_219 : decode cL_calls 219 = .ok (.invokevirtual 84, 3) := by decide +kernel
theorem dL_calls_222 : decode cL_calls 222 = .ok (.ifCond .ge 14, 3) := by decide +kernel
theorem dL_calls_225 : decode cL_calls 225 = .ok (.iload 9, 2) := by decide +kernel
theorem dL_calls_227 : decode cL_calls 227 = .ok (.ifCond .eq 9, 3) := by decide +kernel
theorem dL_calls_230 : decode cL_calls 230 = .ok (.iload 9, 2) := by decide +kernel
theorem dL_calls_232 : decode cL_calls 232 = .ok (.iconst 4, 1) := by decide +kernel
theorem dL_calls_233 : decode cL_calls 233 = .ok (.if_icmp .ne 7, 3) := by decide +kernel
theorem dL_calls_236 : decode cL_calls 236 = .ok (.iconst 1, 1) := by decide +kernel
theorem dL_calls_237 : decode cL_calls 237 = .ok (.goto 4, 3) := by decide +kernel
theorem dL_calls_240 : decode cL_calls 240 = .ok (.iconst 0, 1) := by decide +kernel
theorem dL_calls_241 : decode cL_calls 241 = .ok (.istore 10, 2) := by decide +kernel
theorem dL_calls_243 : decode cL_calls 243 = .ok (.aload_n 0, 1) := by decide +kernel
theorem dL_calls_244 : decode cL_calls 244 = .ok (.iconst 1, 1) := by decide +kernel
theorem dL_calls_245 : decode cL_calls 245 = .ok (.iload 7, 2) := by decide +kernel
theorem dL_calls_247 : decode cL_calls 247 = .ok (.iload 8, 2) := by decide +kernel
theorem dL_calls_249 : decode cL_calls 249 = .ok (.iload_n 3, 1) := by decide +kernel
theorem dL_calls_250 : decode cL_calls 250 = .ok (.iconst 4, 1) := by decide +kernel
theorem dL_calls_251 : decode cL_calls 251 = .ok (.idiv, 1) := by decide +kernel
theorem dL_calls_252 : decode cL_calls 252 = .ok (.iconst 2, 1) := by decide +kernel
theorem dL_calls_253 : decode cL_calls 253 = .ok (.irem, 1) := by decide +kernel
theorem dL_calls_254 : decode cL_calls 254 = .ok (.invokestatic 116, 3) := by decide +kernel
theorem dL_calls_257 : decode cL_calls 257 = .ok (.istore 11, 2) := by decide +kernel
theorem dL_calls_259 : decode cL_calls 259 = .ok (.iload 11, 2) := by decide +kernel
theorem dL_calls_261 : decode cL_calls 261 = .ok (.ifCond .ge 27, 3) := by decide +kernel
theorem dL_calls_264 : decode cL_calls 264 = .ok (.iload 11, 2) := by decide +kernel
theorem dL_calls_266 : decode cL_calls 266 = .ok (.bipush (-108), 2) := by decide +kernel
theorem dL_calls_268 : decode cL_calls 268 = .ok (.if_icmp .ne 18, 3) := by decide +kernel
theorem dL_calls_271 : decode cL_calls 271 = .ok (.aload_n 0, 1) := by decide +kernel
theorem dL_calls_272 : decode cL_calls 272 = .ok (.iload 8, 2) := by decide +kernel
theorem dL_calls_274 : decode cL_calls 274 = .ok (.invokevirtual 103, 3) := by decide +kernel
theorem dL_calls_277 : decode cL_calls 277 = .ok (.iload 9, 2) := by decide +kernel
theorem dL_calls_279 : decode cL_calls 279 = .ok (.if_icmp .ne 7, 3) := by decide +kernel
theorem dL_calls_282 : decode cL_calls 282 = .ok (.iconst 1, 1) := by decide +kernel
theorem dL_calls_283 : decode cL_calls 283 = .ok (.goto 4, 3) := by decide +kernel
theorem dL_calls_286 : decode cL_calls 286 = .ok (.iconst 0, 1) := by decide +kernel
theorem dL_calls_287 : decode cL_calls 287 = .ok (.ireturn, 1) := by decide +kernel
theorem dL_calls_288 : decode cL_calls 288 = .ok (.aload 4, 2) := by decide +kernel
theorem dL_calls_290 : decode cL_calls 290 = .ok (.aload 5, 2) := by decide +kernel
theorem dL_calls_292 : decode cL_calls 292 = .ok (.aload 6, 2) := by decide +kernel
theorem dL_calls_294 : decode cL_calls 294 = .ok (.iload 7, 2) := by decide +kernel
theorem dL_calls_296 : decode cL_calls 296 = .ok (.iload 8, 2) := by decide +kernel
theorem dL_calls_298 : decode cL_calls 298 = .ok (.aload_n 0, 1) := by decide +kernel
theorem dL_calls_299 : decode cL_calls 299 = .ok (.iload 7, 2) := by decide +kernel
theorem dL_calls_301 : decode cL_calls 301 = .ok (.invokevirtual 87, 3) := by decide +kernel
theorem dL_calls_304 : decode cL_calls 304 = .ok (.invokestatic 120, 3) := by decide +kernel
theorem dL_calls_307 : decode cL_calls 307 = .ok (.iload 10, 2) := by decide +kernel
theorem dL_calls_309 : decode cL_calls 309 = .ok (.ifCond .ne 63, 3) := by decide +kernel
theorem dL_calls_312 : decode cL_calls 312 = .ok (.iload 11, 2) := by decide +kernel
theorem dL_calls_314 : decode cL_calls 314 = .ok (.aload 6, 2) := by decide +kernel
theorem dL_calls_316 : decode cL_calls 316 = .ok (.iconst 2, 1) := by decide +kernel
theorem dL_calls_317 : decode cL_calls 317 = .ok (.iaload, 1) := by decide +kernel
theorem dL_calls_318 : decode cL_calls 318 = .ok (.iconst 1, 1) := by decide +kernel
theorem dL_calls_319 : decode cL_calls 319 = .ok (.isub, 1) := by decide +kernel
theorem dL_calls_320 : decode cL_calls 320 = .ok (.if_icmp .ne 52, 3) := by decide +kernel
theorem dL_calls_323 : decode cL_calls 323 = .ok (.aload_n 0, 1) := by decide +kernel
theorem dL_calls_324 : decode cL_calls 324 = .ok (.iload 8, 2) := by decide +kernel
theorem dL_calls_326 : decode cL_calls 326 = .ok (.invokevirtual 103, 3) := by decide +kernel
theorem dL_calls_329 : decode cL_calls 329 = .ok (.iload 9, 2) := by decide +kernel
theorem dL_calls_331 : decode cL_calls 331 = .ok (.aload_n 0, 1) := by decide +kernel
theorem dL_calls_332 : decode cL_calls 332 = .ok (.iload 11, 2) := by decide +kernel
theorem dL_calls_334 : decode cL_calls 334 = .ok (.invokevirtual 78, 3) := by decide +kernel
theorem dL_calls_337 : decode cL_calls 337 = .ok (.ifCond .ne 7, 3) := by decide +kernel
theorem dL_calls_340 : decode cL_calls 340 = .ok (.iconst 1, 1) := by decide +kernel
theorem dL_calls_341 : decode cL_calls 341 = .ok (.goto 4, 3) := by decide +kernel
theorem dL_calls_344 : decode cL_calls 344 = .ok (.iconst 0, 1) := by decide +kernel
theorem dL_calls_345 : decode cL_calls 345 = .ok (.iadd, 1) := by decide +kernel
theorem dL_calls_346 : decode cL_calls 346 = .ok (.if_icmp .ne 26, 3) := by decide +kernel
theorem dL_calls_349 : decode cL_calls 349 = .ok (.aload_n 0, 1) := by decide +kernel
theorem dL_calls_350 : decode cL_calls 350 = .ok (.iload 11, 2) := by decide +kernel
theorem dL_calls_352 : decode cL_calls 352 = .ok (.invokevirtual 78, 3) := by decide +kernel
theorem dL_calls_355 : decode cL_calls 355 = .ok (.ifCond .eq 13, 3) := by decide +kernel
theorem dL_calls_358 : decode cL_calls 358 = .ok (.aload_n 0, 1) := by decide +kernel
theorem dL_calls_359 : decode cL_calls 359 = .ok (.iload 11, 2) := by decide +kernel
theorem dL_calls_361 : decode cL_calls 361 = .ok (.invokevirtual 78, 3) := by decide +kernel
theorem dL_calls_364 : decode cL_calls 364 = .ok (.iconst 2, 1) := by decide +kernel
theorem dL_calls_365 : decode cL_calls 365 = .ok (.if_icmp .ne 7, 3) := by decide +kernel
theorem dL_calls_368 : decode cL_calls 368 = .ok (.iconst 1, 1) := by decide +kernel
theorem dL_calls_369 : decode cL_calls 369 = .ok (.goto 4, 3) := by decide +kernel
theorem dL_calls_372 : decode cL_calls 372 = .ok (.iconst 0, 1) := by decide +kernel
theorem dL_calls_373 : decode cL_calls 373 = .ok (.ireturn, 1) := by decide +kernel
theorem dL_calls_374 : decode cL_calls 374 = .ok (.aload_n 0, 1) := by decide +kernel
theorem dL_calls_375 : decode cL_calls 375 = .ok (.iload 7, 2) := by decide +kernel
theorem dL_calls_377 : decode cL_calls 377 = .ok (.invokevirtual 84, 3) := by decide +kernel
theorem dL_calls_380 : decode cL_calls 380 = .ok (.istore 8, 2) := by decide +kernel
theorem dL_calls_382 : decode cL_calls 382 = .ok (.iload_n 1, 1) := by decide +kernel
theorem dL_calls_383 : decode cL_calls 383 = .ok (.iconst 2, 1) := by decide +kernel
theorem dL_calls_384 : decode cL_calls 384 = .ok (.if_icmp .ne 118, 3) := by decide +kernel
theorem dL_calls_387 : decode cL_calls 387 = .ok (.iload 8, 2) := by decide +kernel
theorem dL_calls_389 : decode cL_calls 389 = .ok (.ifCond .ge 7, 3) := by decide +kernel
theorem dL_calls_392 : decode cL_calls 392 = .ok (.iconst (-1), 1) := by decide +kernel
theorem dL_calls_393 : decode cL_calls 393 = .ok (.goto 14, 3) := by decide +kernel
theorem dL_calls_396 : decode cL_calls 396 = .ok (.aload 4, 2) := by decide +kernel
theorem dL_calls_398 : decode cL_calls 398 = .ok (.iload 8, 2) := by decide +kernel
theorem dL_calls_400 : decode cL_calls 400 = .ok (.iaload, 1) := by decide +kernel
theorem dL_calls_401 : decode cL_calls 401 = .ok (.iconst 4, 1) := by decide +kernel
theorem dL_calls_402 : decode cL_calls 402 = .ok (.bipush 6, 2) := by decide +kernel
theorem dL_calls_404 : decode cL_calls 404 = .ok (.invokestatic 73, 3) := by decide +kernel
theorem dL_calls_407 : decode cL_calls 407 = .ok (.istore 9, 2) := by decide +kernel
theorem dL_calls_409 : decode cL_calls 409 = .ok (.iload 8, 2) := by decide +kernel
theorem dL_calls_411 : decode cL_calls 411 = .ok (.ifCond .ge 7, 3) := by decide +kernel
theorem dL_calls_414 : decode cL_calls 414 = .ok (.iconst 0, 1) := by decide +kernel
theorem dL_calls_415 : decode cL_calls 415 = .ok (.goto 9, 3) := by decide +kernel
theorem dL_calls_418 : decode cL_calls 418 = .ok (.aload_n 0, 1) := by decide +kernel
theorem dL_calls_419 : decode cL_calls 419 = .ok (.iload 9, 2) := by decide +kernel
theorem dL_calls_421 : decode cL_calls 421 = .ok (.invokevirtual 103, 3) := by decide +kernel
theorem dL_calls_424 : decode cL_calls 424 = .ok (.istore 10, 2) := by decide +kernel
theorem dL_calls_426 : decode cL_calls 426 = .ok (.aload_n 0, 1) := by decide +kernel
theorem dL_calls_427 : decode cL_calls 427 = .ok (.iconst 2, 1) := by decide +kernel
theorem dL_calls_428 : decode cL_calls 428 = .ok (.iload 7, 2) := by decide +kernel
theorem dL_calls_430 : decode cL_calls 430 = .ok (.iconst 0, 1) := by decide +kernel
theorem dL_calls_431 : decode cL_calls 431 = .ok (.iconst 0, 1) := by decide +kernel
theorem dL_calls_432 : decode cL_calls 432 = .ok (.invokestatic 116, 3) := by decide +kernel
theorem dL_calls_435 : decode cL_calls 435 = .ok (.istore 11, 2) := by decide +kernel
theorem dL_calls_437 : decode cL_calls 437 = .ok (.iload 8, 2) := by decide +kernel
theorem dL_calls_439 : decode cL_calls 439 = .ok (.ifCond .ge 18, 3) := by decide +kernel
theorem dL_calls_442 : decode cL_calls 442 = .ok (.iload 11, 2) := by decide +kernel
theorem dL_calls_444 : decode cL_calls 444 = .ok (.bipush (-108), 2) := by decide +kernel
theorem dL_calls_446 : decode cL_calls 446 = .ok (.if_icmp .ne 7, 3) := by decide +kernel
theorem dL_calls_449 : decode cL_calls 449 = .ok (.iconst 1, 1) := by decide +kernel
theorem dL_calls_450 : decode cL_calls 450 = .ok (.goto 51, 3) := by decide +kernel
theorem dL_calls_453 : decode cL_calls 453 = .ok (.iconst 0, 1) := by decide +kernel
theorem dL_calls_454 : decode cL_calls 454 = .ok (.goto 47, 3) := by decide +kernel
theorem dL_calls_457 : decode cL_calls 457 = .ok (.iload 11, 2) := by decide +kernel
theorem dL_calls_459 : decode cL_calls 459 = .ok (.iload 10, 2) := by decide +kernel
theorem dL_calls_461 : decode cL_calls 461 = .ok (.iconst 2, 1) := by decide +kernel
theorem dL_calls_462 : decode cL_calls 462 = .ok (.if_icmp .ne 7, 3) := by decide +kernel
theorem dL_calls_465 : decode cL_calls 465 = .ok (.iconst 0, 1) := by decide +kernel
theorem dL_calls_466 : decode cL_calls 466 = .ok (.goto 7, 3) := by decide +kernel
theorem dL_calls_469 : decode cL_calls 469 = .ok (.iload 10, 2) := by decide +kernel
theorem dL_calls_471 : decode cL_calls 471 = .ok (.iconst 1, 1) := by decide +kernel
theorem dL_calls_472 : decode cL_calls 472 = .ok (.isub, 1) := by decide +kernel
theorem dL_calls_473 : decode cL_calls 473 = .ok (.if_icmp .ne 27, 3) := by decide +kernel
theorem dL_calls_476 : decode cL_calls 476 = .ok (.aload_n 0, 1) := by decide +kernel
theorem dL_calls_477 : decode cL_calls 477 = .ok (.iload 8, 2) := by decide +kernel
theorem dL_calls_479 : decode cL_calls 479 = .ok (.invokevirtual 78, 3) := by decide +kernel
theorem dL_calls_482 : decode cL_calls 482 = .ok (.iconst 1, 1) := by decide +kernel
theorem dL_calls_483 : decode cL_calls 483 = .ok (.if_icmp .ne 17, 3) := by decide +kernel
theorem dL_calls_486 : decode cL_calls 486 = .ok (.aload_n 0, 1) := by decide +kernel
theorem dL_calls_487 : decode cL_calls 487 = .ok (.iload 7, 2) := by decide +kernel
theorem dL_calls_489 : decode cL_calls 489 = .ok (.invokevirtual 84, 3) := by decide +kernel
theorem dL_calls_492 : decode cL_calls 492 = .ok (.iconst (-1), 1) := by decide +kernel
theorem dL_calls_493 : decode cL_calls 493 = .ok (.if_icmp .ne 7, 3) := by decide +kernel
theorem dL_calls_496 : decode cL_calls 496 = .ok (.iconst 1, 1) := by decide +kernel
theorem dL_calls_497 : decode cL_calls 497 = .ok (.goto 4, 3) := by decide +kernel
theorem dL_calls_500 : decode cL_calls 500 = .ok (.iconst 0, 1) := by decide +kernel
theorem dL_calls_501 : decode cL_calls 501 = .ok (.ireturn, 1) := by decide +kernel
theorem dL_calls_502 : decode cL_calls 502 = .ok (.aload_n 0, 1) := by decide +kernel
theorem dL_calls_503 : decode cL_calls 503 = .ok (.iload 7, 2) := by decide +kernel
theorem dL_calls_505 : decode cL_calls 505 = .ok (.invokevirtual 87, 3) := by decide +kernel
theorem dL_calls_508 : decode cL_calls 508 = .ok (.istore 9, 2) := by decide +kernel
theorem dL_calls_510 : decode cL_calls 510 = .ok (.iload_n 3, 1) := by decide +kernel
theorem dL_calls_511 : decode cL_calls 511 = .ok (.iconst 3, 1) := by decide +kernel
theorem dL_calls_512 : decode cL_calls 512 = .ok (.irem, 1) := by decide +kernel
theorem dL_calls_513 : decode cL_calls 513 = .ok (.ifCond .ne 12, 3) := by decide +kernel
theorem dL_calls_516 : decode cL_calls 516 = .ok (.iload_n 3, 1) := by decide +kernel
theorem dL_calls_517 : decode cL_calls 517 = .ok (.iconst 3, 1) := by decide +kernel
theorem dL_calls_518 : decode cL_calls 518 = .ok (.idiv, 1) := by decide +kernel
theorem dL_calls_519 : decode cL_calls 519 = .ok (.bipush 8, 2) := by decide +kernel
theorem dL_calls_521 : decode cL_calls 521 = .ok (.irem, 1) := by decide +kernel
theorem dL_calls_522 : decode cL_calls 522 = .ok (.goto 22, 3) := by decide +kernel
theorem dL_calls_525 : decode cL_calls 525 = .ok (.iload 9, 2) := by decide +kernel
theorem dL_calls_527 : decode cL_calls 527 = .ok (.iload_n 3, 1) := by decide +kernel
theorem dL_calls_528 : decode cL_calls 528 = .ok (.iconst 3, 1) := by decide +kernel
theorem dL_calls_529 : decode cL_calls 529 = .ok (.irem, 1) := by decide +kernel
theorem dL_calls_530 : decode cL_calls 530 = .ok (.iconst 1, 1) := by decide +kernel
theorem dL_calls_531 : decode cL_calls 531 = .ok (.if_icmp .ne 7, 3) := by decide +kernel
theorem dL_calls_534 : decode cL_calls 534 = .ok (.iconst 1, 1) := by decide +kernel
theorem dL_calls_535 : decode cL_calls 535 = .ok (.goto 5, 3) := by decide +kernel
theorem dL_calls_538 : decode cL_calls 538 = .ok (.bipush 7, 2) := by decide +kernel
theorem dL_calls_540 : decode cL_calls 540 = .ok (.iadd, 1) := by decide +kernel
theorem dL_calls_541 : decode cL_calls 541 = .ok (.bipush 8, 2) := by decide +kernel
theorem dL_calls_543 : decode cL_calls 543 = .ok (.irem, 1) := by decide +kernel
theorem dL_calls_544 : decode cL_calls 544 = .ok (.istore 10, 2) := by decide +kernel
theorem dL_calls_546 : decode cL_calls 546 = .ok (.aload_n 0, 1) := by decide +kernel
theorem dL_calls_547 : decode cL_calls 547 = .ok (.iload 7, 2) := by decide +kernel
theorem dL_calls_549 : decode cL_calls 549 = .ok (.iload 10, 2) := by decide +kernel
theorem dL_calls_551 : decode cL_calls 551 = .ok (.invokevirtual 124, 3) := by decide +kernel
theorem dL_calls_554 : decode cL_calls 554 = .ok (.istore 11, 2) := by decide +kernel
theorem dL_calls_556 : decode cL_calls 556 = .ok (.iload 8, 2) := by decide +kernel
theorem dL_calls_558 : decode cL_calls 558 = .ok (.ifCond .lt 10, 3) := by decide +kernel
theorem dL_calls_561 : decode cL_calls 561 = .ok (.iload 10, 2) := by decide +kernel
theorem dL_calls_563 : decode cL_calls 563 = .ok (.iload 9, 2) := by decide +kernel
theorem dL_calls_565 : decode cL_calls 565 = .ok (.if_icmp .ne 46, 3) := by decide +kernel
theorem dL_calls_568 : decode cL_calls 568 = .ok (.iload 11, 2) := by decide +kernel
theorem dL_calls_570 : decode cL_calls 570 = .ok (.iload 8, 2) := by decide +kernel
theorem dL_calls_572 : decode cL_calls 572 = .ok (.ifCond .lt 7, 3) := by decide +kernel
theorem dL_calls_575 : decode cL_calls 575 = .ok (.iconst 1, 1) := by decide +kernel
theorem dL_calls_576 : decode cL_calls 576 = .ok (.goto 4, 3) := by decide +kernel
theorem dL_calls_579 : decode cL_calls 579 = .ok (.iconst 0, 1) := by decide +kernel
theorem dL_calls_580 : decode cL_calls 580 = .ok (.if_icmp .ne 29, 3) := by decide +kernel
theorem dL_calls_583 : decode cL_calls 583 = .ok (.aload_n 0, 1) := by decide +kernel
theorem dL_calls_584 : decode cL_calls 584 = .ok (.iload 7, 2) := by decide +kernel
theorem dL_calls_586 : decode cL_calls 586 = .ok (.invokevirtual 87, 3) := by decide +kernel
theorem dL_calls_589 : decode cL_calls 589 = .ok (.iload 10, 2) := by decide +kernel
theorem dL_calls_591 : decode cL_calls 591 = .ok (.if_icmp .ne 18, 3) := by decide +kernel
theorem dL_calls_594 : decode cL_calls 594 = .ok (.aload_n 0, 1) := by decide +kernel
theorem dL_calls_595 : decode cL_calls 595 = .ok (.iload 7, 2) := by decide +kernel
theorem dL_calls_597 : decode cL_calls 597 = .ok (.invokevirtual 84, 3) := by decide +kernel
theorem dL_calls_600 : decode cL_calls 600 = .ok (.iload 8, 2) := by decide +kernel
theorem dL_calls_602 : decode cL_calls 602 = .ok (.if_icmp .ne 7, 3) := by decide +kernel
theorem dL_calls_605 : decode cL_calls 605 = .ok (.iconst 1, 1) := by decide +kernel
theorem dL_calls_606 : decode cL_calls 606 = .ok (.goto 4, 3) := by decide +kernel
theorem dL_calls_609 : decode cL_calls 609 = .ok (.iconst 0, 1) := by decide +kernel
theorem dL_calls_610 : decode cL_calls 610 = .ok (.ireturn, 1) := by decide +kernel
theorem dL_calls_611 : decode cL_calls 611 = .ok (.iload 9, 2) := by decide +kernel
theorem dL_calls_613 : decode cL_calls 613 = .ok (.iconst 1, 1) := by decide +kernel
theorem dL_calls_614 : decode cL_calls 614 = .ok (.iadd, 1) := by decide +kernel
theorem dL_calls_615 : decode cL_calls 615 = .ok (.bipush 8, 2) := by decide +kernel
theorem dL_calls_617 : decode cL_calls 617 = .ok (.irem, 1) := by decide +kernel
theorem dL_calls_618 : decode cL_calls 618 = .ok (.iload 10, 2) := by decide +kernel
theorem dL_calls_620 : decode cL_calls 620 = .ok (.if_icmp .eq 15, 3) := by decide +kernel
theorem dL_calls_623 : decode cL_calls 623 = .ok (.iload 10, 2) := by decide +kernel
theorem dL_calls_625 : decode cL_calls 625 = .ok (.iconst 1, 1) := by decide +kernel
theorem dL_calls_626 : decode cL_calls 626 = .ok (.iadd, 1) := by decide +kernel
theorem dL_calls_627 : decode cL_calls 627 = .ok (.bipush 8, 2) := by decide +kernel
theorem dL_calls_629 : decode cL_calls 629 = .ok (.irem, 1) := by decide +kernel
theorem dL_calls_630 : decode cL_calls 630 = .ok (.iload 9, 2) := by decide +kernel
theorem dL_calls_632 : decode cL_calls 632 = .ok (.if_icmp .ne 7, 3) := by decide +kernel
theorem dL_calls_635 : decode cL_calls 635 = .ok (.iconst 1, 1) := by decide +kernel
theorem dL_calls_636 : decode cL_calls 636 = .ok (.goto 4, 3) := by decide +kernel
theorem dL_calls_639 : decode cL_calls 639 = .ok (.iconst 0, 1) := by decide +kernel
theorem dL_calls_640 : decode cL_calls 640 = .ok (.istore 12, 2) := by decide +kernel
theorem dL_calls_642 : decode cL_calls 642 = .ok (.iload 11, 2) := by decide +kernel
theorem dL_calls_644 : decode cL_calls 644 = .ok (.ifCond .eq 43, 3) := by decide +kernel
theorem dL_calls_647 : decode cL_calls 647 = .ok (.aload 5, 2) := by decide +kernel
theorem dL_calls_649 : decode cL_calls 649 = .ok (.iload 8, 2) := by decide +kernel
theorem dL_calls_651 : decode cL_calls 651 = .ok (.aload 5, 2) := by decide +kernel
theorem dL_calls_653 : decode cL_calls 653 = .ok (.iload 8, 2) := by decide +kernel
theorem dL_calls_655 : decode cL_calls 655 = .ok (.iaload, 1) := by decide +kernel
theorem dL_calls_656 : decode cL_calls 656 = .ok (.iconst 1, 1) := by decide +kernel
theorem dL_calls_657 : decode cL_calls 657 = .ok (.aload 6, 2) := by decide +kernel
theorem dL_calls_659 : decode cL_calls 659 = .ok (.iconst 0, 1) := by decide +kernel
theorem dL_calls_660 : decode cL_calls 660 = .ok (.iaload, 1) := by decide +kernel
theorem dL_calls_661 : decode cL_calls 661 = .ok (.iload 10, 2) := by decide +kernel
theorem dL_calls_663 : decode cL_calls 663 = .ok (.invokestatic 90, 3) := by decide +kernel
theorem dL_calls_666 : decode cL_calls 666 = .ok (.iastore, 1) := by decide +kernel
theorem dL_calls_667 : decode cL_calls 667 = .ok (.aload 4, 2) := by decide +kernel
theorem dL_calls_669 : decode cL_calls 669 = .ok (.iload 8, 2) := by decide +kernel
theorem dL_calls_671 : decode cL_calls 671 = .ok (.aload 4, 2) := by decide +kernel
theorem dL_calls_673 : decode cL_calls 673 = .ok (.iload 8, 2) := by decide +kernel
theorem dL_calls_675 : decode cL_calls 675 = .ok (.iaload, 1) := by decide +kernel
theorem dL_calls_676 : decode cL_calls 676 = .ok (.sipush (-7169), 3) := by decide +kernel
theorem dL_calls_679 : decode cL_calls 679 = .ok (.iand, 1) := by decide +kernel
theorem dL_calls_680 : decode cL_calls 680 = .ok (.iload 10, 2) := by decide +kernel
theorem dL_calls_682 : decode cL_calls 682 = .ok (.bipush 10, 2) := by decide +kernel
theorem dL_calls_684 : decode cL_calls 684 = .ok (.ishl, 1) := by decide +kernel
theorem dL_calls_685 : decode cL_calls 685 = .ok (.ior, 1) := by decide +kernel
theorem dL_calls_686 : decode cL_calls 686 = .ok (.iastore, 1) := by decide +kernel
theorem dL_calls_687 : decode cL_calls 687 = .ok (.iload 12, 2) := by decide +kernel
theorem dL_calls_689 : decode cL_calls 689 = .ok (.ifCond .ne 8, 3) := by decide +kernel
theorem dL_calls_692 : decode cL_calls 692 = .ok (.iload 11, 2) := by decide +kernel
theorem dL_calls_694 : decode cL_calls 694 = .ok (.ifCond .ne 57, 3) := by decide +kernel
theorem dL_calls_697 : decode cL_calls 697 = .ok (.aload_n 0, 1) := by decide +kernel
theorem dL_calls_698 : decode cL_calls 698 = .ok (.iload 7, 2) := by decide +kernel
theorem dL_calls_700 : decode cL_calls 700 = .ok (.invokevirtual 87, 3) := by decide +kernel
theorem dL_calls_703 : decode cL_calls 703 = .ok (.iload 10, 2) := by decide +kernel
theorem dL_calls_705 : decode cL_calls 705 = .ok (.if_icmp .ne 46, 3) := by decide +kernel
theorem dL_calls_708 : decode cL_calls 708 = .ok (.aload_n 0, 1) := by decide +kernel
theorem dL_calls_709 : decode cL_calls 709 = .ok (.iload 8, 2) := by decide +kernel
theorem dL_calls_711 : decode cL_calls 711 = .ok (.invokevirtual 78, 3) := by decide +kernel
theorem dL_calls_714 : decode cL_calls 714 = .ok (.iload 11, 2) := by decide +kernel
theorem dL_calls_716 : decode cL_calls 716 = .ok (.ifCond .eq 7, 3) := by decide +kernel
theorem dL_calls_719 : decode cL_calls 719 = .ok (.iconst 0, 1) := by decide +kernel
theorem dL_calls_720 : decode cL_calls 720 = .ok (.goto 4, 3) := by decide +kernel
theorem dL_calls_723 : decode cL_calls 723 = .ok (.iconst 3, 1) := by decide +kernel
theorem dL_calls_724 : decode cL_calls 724 = .ok (.if_icmp .ne 27, 3) := by decide +kernel
theorem dL_calls_727 : decode cL_calls 727 = .ok (.aload_n 0, 1) := by decide +kernel
theorem dL_calls_728 : decode cL_calls 728 = .ok (.iload 7, 2) := by decide +kernel
theorem dL_calls_730 : decode cL_calls 730 = .ok (.invokevirtual 84, 3) := by decide +kernel
theorem dL_calls_733 : decode cL_calls 733 = .ok (.iload 11, 2) := by decide +kernel
theorem dL_calls_735 : decode cL_calls 735 = .ok (.ifCond .eq 8, 3) := by decide +kernel
theorem dL_calls_738 : decode cL_calls 738 = .ok (.iload 8, 2) := by decide +kernel
theorem dL_calls_740 : decode cL_calls 740 = .ok (.goto 4, 3) := by decide +kernel
theorem dL_calls_743 : decode cL_calls 743 = .ok (.iconst (-1), 1) := by decide +kernel
theorem dL_calls_744 : decode cL_calls 744 = .ok (.if_icmp .ne 7, 3) := by decide +kernel
theorem dL_calls_747 : decode cL_calls 747 = .ok (.iconst 1, 1) := by decide +kernel
theorem dL_calls_748 : decode cL_calls 748 = .ok (.goto 4, 3) := by decide +kernel
theorem dL_calls_751 : decode cL_calls 751 = .ok (.iconst 0, 1) := by decide +kernel
theorem dL_calls_752 : decode cL_calls 752 = .ok (.ireturn, 1) := by decide +kernel
theorem dL_wallets_0 : decode cL_wallets 0 = .ok (.iload_n 2, 1) := by decide +kernel
theorem dL_wallets_1 : decode cL_wallets 1 = .ok (.iconst 4, 1) := by decide +kernel
theorem dL_wallets_2 : decode cL_wallets 2 = .ok (.irem, 1) := by decide +kernel
theorem dL_wallets_3 : decode cL_wallets 3 = .ok (.istore 5, 2) := by decide +kernel
theorem dL_wallets_5 : decode cL_wallets 5 = .ok (.aload_n 0, 1) := by decide +kernel
theorem dL_wallets_6 : decode cL_wallets 6 = .ok (.iload 5, 2) := by decide +kernel
theorem dL_wallets_8 : decode cL_wallets 8 = .ok (.invokevirtual 45, 3) := by decide +kernel
theorem dL_wallets_11 : decode cL_wallets 11 = .ok (.istore 6, 2) := by decide +kernel
theorem dL_wallets_13 : decode cL_wallets 13 = .ok (.iload_n 1, 1) := by decide +kernel
theorem dL_wallets_14 : decode cL_wallets 14 = .ok (.ifCond .ne 55, 3) := by decide +kernel
theorem dL_wallets_17 : decode cL_wallets 17 = .ok (.iconst 1, 1) := by decide +kernel
theorem dL_wallets_18 : decode cL_wallets 18 = .ok (.iload_n 3, 1) := by decide +kernel
theorem dL_wallets_19 : decode cL_wallets 19 = .ok (.iload_n 3, 1) := by decide +kernel
theorem dL_wallets_20 : decode cL_wallets 20 = .ok (.iconst 4, 1) := by decide +kernel
theorem dL_wallets_21 : decode cL_wallets 21 = .ok (.irem, 1) := by decide +kernel
theorem dL_wallets_22 : decode cL_wallets 22 = .ok (.ifCond .ne 9, 3) := by decide +kernel
theorem dL_wallets_25 : decode cL_wallets 25 = .ok (.sipush 20000, 3) := by decide +kernel
theorem dL_wallets_28 : decode cL_wallets 28 = .ok (.goto 6, 3) := by decide +kernel
theorem dL_wallets_31 : decode cL_wallets 31 = .ok (.sipush 900, 3) := by decide +kernel
theorem dL_wallets_34 : decode cL_wallets 34 = .ok (.irem, 1) := by decide +kernel
theorem dL_wallets_35 : decode cL_wallets 35 = .ok (.iadd, 1) := by decide +kernel
theorem dL_wallets_36 : decode cL_wallets 36 = .ok (.istore 7, 2) := by decide +kernel
theorem dL_wallets_38 : decode cL_wallets 38 = .ok (.aload 4, 2) := by decide +kernel
theorem dL_wallets_40 : decode cL_wallets 40 = .ok (.iconst 4, 1) := by decide +kernel
theorem dL_wallets_41 : decode cL_wallets 41 = .ok (.dup2, 1) := by decide +kernel
theorem dL_wallets_42 : decode cL_wallets 42 = .ok (.iaload, 1) := by decide +kernel
theorem dL_wallets_43 : decode cL_wallets 43 = .ok (.iload 7, 2) := by decide +kernel
theorem dL_wallets_45 : decode cL_wallets 45 = .ok (.iadd, 1) := by decide +kernel
theorem dL_wallets_46 : decode cL_wallets 46 = .ok (.iastore, 1) := by decide +kernel
theorem dL_wallets_47 : decode cL_wallets 47 = .ok (.aload_n 0, 1) := by decide +kernel
theorem dL_wallets_48 : decode cL_wallets 48 = .ok (.iload 5, 2) := by decide +kernel
theorem dL_wallets_50 : decode cL_wallets 50 = .ok (.iload 7, 2) := by decide +kernel
theorem dL_wallets_52 : decode cL_wallets 52 = .ok (.invokevirtual 128, 3) := by decide +kernel
theorem dL_wallets_55 : decode cL_wallets 55 = .ok (.iload 6, 2) := by decide +kernel
theorem dL_wallets_57 : decode cL_wallets 57 = .ok (.iload 7, 2) := by decide +kernel
theorem dL_wallets_59 : decode cL_wallets 59 = .ok (.iadd, 1) := by decide +kernel
theorem dL_wallets_60 : decode cL_wallets 60 = .ok (.if_icmp .ne 7, 3) := by decide +kernel
theorem dL_wallets_63 : decode cL_wallets 63 = .ok (.iconst 1, 1) := by decide +kernel
theorem dL_wallets_64 : decode cL_wallets 64 = .ok (.goto 4, 3) := by decide +kernel
theorem dL_wallets_67 : decode cL_wallets 67 = .ok (.iconst 0, 1) := by decide +kernel
theorem dL_wallets_68 : decode cL_wallets 68 = .ok (.ireturn, 1) := by decide +kernel
theorem dL_wallets_69 : decode cL_wallets 69 = .ok (.iload_n 1, 1) := by decide +kernel
theorem dL_wallets_70 : decode cL_wallets 70 = .ok (.iconst 1, 1) := by decide +kernel
theorem dL_wallets_71 : decode cL_wallets 71 = .ok (.if_icmp .ne 72, 3) := by decide +kernel
theorem dL_wallets_74 : decode cL_wallets 74 = .ok (.iload_n 3, 1) := by decide +kernel
theorem dL_wallets_75 : decode cL_wallets 75 = .ok (.iconst 4, 1) := by decide +kernel
theorem dL_wallets_76 : decode cL_wallets 76 = .ok (.irem, 1) := by decide +kernel
theorem dL_wallets_77 : decode cL_wallets 77 = .ok (.istore 7, 2) := by decide +kernel
theorem dL_wallets_79 : decode cL_wallets 79 = .ok (.iconst 1, 1) := by decide +kernel
theorem dL_wallets_80 : decode cL_wallets 80 = .ok (.iload_n 3, 1) := by decide +kernel
theorem dL_wallets_81 : decode cL_wallets 81 = .ok (.iconst 4, 1) := by decide +kernel
theorem dL_wallets_82 : decode cL_wallets 82 = .ok (.idiv, 1) := by decide +kernel
theorem dL_wallets_83 : decode cL_wallets 83 = .ok (.sipush 500, 3) := by decide +kernel
theorem dL_wallets_86 : decode cL_wallets 86 = .ok (.irem, 1) := by decide +kernel
theorem dL_wallets_87 : decode cL_wallets 87 = .ok (.iadd, 1) := by decide +kernel
theorem dL_wallets_88 : decode cL_wallets 88 = .ok (.istore 8, 2) := by decide +kernel
theorem dL_wallets_90 : decode cL_wallets 90 = .ok (.aload_n 0, 1) := by decide +kernel
theorem dL_wallets_91 : decode cL_wallets 91 = .ok (.iconst 3, 1) := by decide +kernel
theorem dL_wallets_92 : decode cL_wallets 92 = .ok (.iload 5, 2) := by decide +kernel
theorem dL_wallets_94 : decode cL_wallets 94 = .ok (.iload 7, 2) := by decide +kernel
theorem dL_wallets_96 : decode cL_wallets 96 = .ok (.iload 8, 2) := by decide +kernel
theorem dL_wallets_98 : decode cL_wallets 98 = .ok (.invokestatic 116, 3) := by decide +kernel
theorem dL_wallets_101 : decode cL_wallets 101 = .ok (.istore 9, 2) := by decide +kernel
theorem dL_wallets_103 : decode cL_wallets 103 = .ok (.iload 9, 2) := by decide +kernel
theorem dL_wallets_105 : decode cL_wallets 105 = .ok (.iload 5, 2) := by decide +kernel
theorem dL_wallets_107 : decode cL_wallets 107 = .ok (.iload 7, 2) := by decide +kernel
theorem dL_wallets_109 : decode cL_wallets 109 = .ok (.if_icmp .ne 8, 3) := by decide +kernel
theorem dL_wallets_112 : decode cL_wallets 112 = .ok (.bipush (-109), 2) := by decide +kernel
theorem dL_wallets_114 : decode cL_wallets 114 = .ok (.goto 20, 3) := by decide +kernel
theorem dL_wallets_117 : decode cL_wallets 117 = .ok (.iload 6, 2) := by decide +kernel
theorem dL_wallets_119 : decode cL_wallets 119 = .ok (.iload 8, 2) := by decide +kernel
theorem dL_wallets_121 : decode cL_wallets 121 = .ok (.if_icmp .ge 8, 3) := by decide +kernel
theorem dL_wallets_124 : decode cL_wallets 124 = .ok (.bipush (-108), 2) := by decide +kernel
theorem dL_wallets_126 : decode cL_wallets 126 = .ok (.goto 8, 3) := by decide +kernel
theorem dL_wallets_129 : decode cL_wallets 129 = .ok (.iload 6, 2) := by decide +kernel
theorem dL_wallets_131 : decode cL_wallets 131 = .ok (.iload 8, 2) := by decide +kernel
theorem dL_wallets_133 : decode cL_wallets 133 = .ok (.isub, 1) := by decide +kernel
theorem dL_wallets_134 : decode cL_wallets 134 = .ok (.if_icmp .ne 7, 3) := by decide +kernel
theorem dL_wallets_137 : decode cL_wallets 137 = .ok (.iconst 1, 1) := by decide +kernel
theorem dL_wallets_138 : decode cL_wallets 138 = .ok (.goto 4, 3) := by decide +kernel
theorem dL_wallets_141 : decode cL_wallets 141 = .ok (.iconst 0, 1) := by decide +kernel
theorem dL_wallets_142 : decode cL_wallets 142 = .ok (.ireturn, 1) := by decide +kernel
theorem dL_wallets_143 : decode cL_wallets 143 = .ok (.iload_n 3, 1) := by decide +kernel
theorem dL_wallets_144 : decode cL_wallets 144 = .ok (.iconst 3, 1) := by decide +kernel
theorem dL_wallets_145 : decode cL_wallets 145 = .ok (.irem, 1) := by decide +kernel
theorem dL_wallets_146 : decode cL_wallets 146 = .ok (.ifCond .ne 13, 3) := by decide +kernel
theorem dL_wallets_149 : decode cL_wallets 149 = .ok (.iload_n 3, 1) := by decide +kernel
theorem dL_wallets_150 : decode cL_wallets 150 = .ok (.iconst 3, 1) := by decide +kernel
theorem dL_wallets_151 : decode cL_wallets 151 = .ok (.idiv, 1) := by decide +kernel
theorem dL_wallets_152 : decode cL_wallets 152 = .ok (.sipush 300, 3) := by decide +kernel
theorem dL_wallets_155 : decode cL_wallets 155 = .ok (.irem, 1) := by decide +kernel
theorem dL_wallets_156 : decode cL_wallets 156 = .ok (.goto 9, 3) := by decide +kernel
theorem dL_wallets_159 : decode cL_wallets 159 = .ok (.iload_n 3, 1) := by decide +kernel
theorem dL_wallets_160 : decode cL_wallets 160 = .ok (.iconst 3, 1) := by decide +kernel
theorem dL_wallets_161 : decode cL_wallets 161 = .ok (.idiv, 1) := by decide +kernel
theorem dL_wallets_162 : decode cL_wallets 162 = .ok (.bipush 20, 2) := by decide +kernel
theorem dL_wallets_164 : decode cL_wallets 164 = .ok (.irem, 1) := by decide +kernel
theorem dL_wallets_165 : decode cL_wallets 165 = .ok (.istore 7, 2) := by decide +kernel
theorem dL_wallets_167 : decode cL_wallets 167 = .ok (.iconst 1, 1) := by decide +kernel
theorem dL_wallets_168 : decode cL_wallets 168 = .ok (.iload_n 2, 1) := by decide +kernel
theorem dL_wallets_169 : decode cL_wallets 169 = .ok (.iconst 4, 1) := by decide +kernel
theorem dL_wallets_170 : decode cL_wallets 170 = .ok (.idiv, 1) := by decide +kernel
theorem dL_wallets_171 : decode cL_wallets 171 = .ok (.bipush 60, 2) := by decide +kernel
theorem dL_wallets_173 : decode cL_wallets 173 = .ok (.irem, 1) := by decide +kernel
theorem dL_wallets_174 : decode cL_wallets 174 = .ok (.iadd, 1) := by decide +kernel
theorem dL_wallets_175 : decode cL_wallets 175 = .ok (.istore 8, 2) := by decide +kernel
theorem dL_wallets_177 : decode cL_wallets 177 = .ok (.aload_n 0, 1) := by decide +kernel
theorem dL_wallets_178 : decode cL_wallets 178 = .ok (.iload 5, 2) := by decide +kernel
theorem dL_wallets_180 : decode cL_wallets 180 = .ok (.iconst 1, 1) := by decide +kernel
theorem dL_wallets_181 : decode cL_wallets 181 = .ok (.iload_n 3, 1) := by decide +kernel
theorem dL_wallets_182 : decode cL_wallets 182 = .ok (.sipush 900, 3) := by decide +kernel
theorem dL_wallets_185 : decode cL_wallets 185 = .ok (.idiv, 1) := by decide +kernel
theorem dL_wallets_186 : decode cL_wallets 186 = .ok (.bipush 7, 2) := by decide +kernel
theorem dL_wallets_188 : decode cL_wallets 188 = .ok (.irem, 1) := by decide +kernel
theorem dL_wallets_189 : decode cL_wallets 189 = .ok (.iadd, 1) := by decide +kernel
theorem dL_wallets_190 : decode cL_wallets 190 = .ok (.iload 8, 2) := by decide +kernel
theorem dL_wallets_192 : decode cL_wallets 192 = .ok (.iconst 1, 1) := by decide +kernel
theorem dL_wallets_193 : decode cL_wallets 193 = .ok (.iload_n 2, 1) := by decide +kernel
theorem dL_wallets_194 : decode cL_wallets 194 = .ok (.sipush 240, 3) := by decide +kernel
theorem dL_wallets_197 : decode cL_wallets 197 = .ok (.idiv, 1) := by decide +kernel
theorem dL_wallets_198 : decode cL_wallets 198 = .ok (.iconst 3, 1) := by decide +kernel
theorem dL_wallets_199 : decode cL_wallets 199 = .ok (.irem, 1) := by decide +kernel
theorem dL_wallets_200 : decode cL_wallets 200 = .ok (.iadd, 1) := by decide +kernel
theorem dL_wallets_201 : decode cL_wallets 201 = .ok (.iload_n 3, 1) := by decide +kernel
theorem dL_wallets_202 : decode cL_wallets 202 = .ok (.bipush 10, 2) := by decide +kernel
theorem dL_wallets_204 : decode cL_wallets 204 = .ok (.irem, 1) := by decide +kernel
theorem dL_wallets_205 : decode cL_wallets 205 = .ok (.iload 7, 2) := by decide +kernel
theorem dL_wallets_207 : decode cL_wallets 207 = .ok (.invokestatic 131, 3) := by decide +kernel
theorem dL_wallets_210 : decode cL_wallets 210 = .ok (.istore 9, 2) := by decide +kernel
theorem dL_wallets_212 : decode cL_wallets 212 = .ok (.iload 6, 2) := by decide +kernel
theorem dL_wallets_214 : decode cL_wallets 214 = .ok (.iload 7, 2) := by decide +kernel
theorem dL_wallets_216 : decode cL_wallets 216 = .ok (.if_icmp .lt 12, 3) := by decide +kernel
theorem dL_wallets_219 : decode cL_wallets 219 = .ok (.aload 4, 2) := by decide +kernel
theorem dL_wallets_221 : decode cL_wallets 221 = .ok (.iconst 3, 1) := by decide +kernel
theorem dL_wallets_222 : decode cL_wallets 222 = .ok (.iaload, 1) := by decide +kernel
theorem dL_wallets_223 : decode cL_wallets 223 = .ok (.bipush 40, 2) := by decide +kernel
theorem dL_wallets_225 : decode cL_wallets 225 = .ok (.if_icmp .ne 27, 3) := by decide +kernel
theorem dL_wallets_228 : decode cL_wallets 228 = .ok (.iload 9, 2) := by decide +kernel
theorem dL_wallets_230 : decode cL_wallets 230 = .ok (.bipush (-108), 2) := by decide +kernel
theorem dL_wallets_232 : decode cL_wallets 232 = .ok (.if_icmp .ne 18, 3) := by decide +kernel
theorem dL_wallets_235 : decode cL_wallets 235 = .ok (.aload_n 0, 1) := by decide +kernel
theorem dL_wallets_236 : decode cL_wallets 236 = .ok (.iload 5, 2) := by decide +kernel
theorem dL_wallets_238 : decode cL_wallets 238 = .ok (.invokevirtual 45, 3) := by decide +kernel
theorem dL_wallets_241 : decode cL_wallets 241 = .ok (.iload 6, 2) := by decide +kernel
theorem dL_wallets_243 : decode cL_wallets 243 = .ok (.if_icmp .ne 7, 3) := by decide +kernel
theorem dL_wallets_246 : decode cL_wallets 246 = .ok (.iconst 1, 1) := by decide +kernel
theorem dL_wallets_247 : decode cL_wallets 247 = .ok (.goto 4, 3) := by decide +kernel
theorem dL_wallets_250 : decode cL_wallets 250 = .ok (.iconst 0, 1) := by decide +kernel
theorem dL_wallets_251 : decode cL_wallets 251 = .ok (.ireturn, 1) := by decide +kernel
theorem dL_wallets_252 : decode cL_wallets 252 = .ok (.aload 4, 2) := by decide +kernel
theorem dL_wallets_254 : decode cL_wallets 254 = .ok (.iconst 3, 1) := by decide +kernel
theorem dL_wallets_255 : decode cL_wallets 255 = .ok (.dup2, 1) := by decide +kernel
theorem dL_wallets_256 : decode cL_wallets 256 = .ok (.iaload, 1) := by decide +kernel
theorem dL_wallets_257 : decode cL_wallets 257 = .ok (.iconst 1, 1) := by decide +kernel
theorem dL_wallets_258 : decode cL_wallets 258 = .ok (.iadd, 1) := by decide +kernel
theorem dL_wallets_259 : decode cL_wallets 259 = .ok (.iastore, 1) := by decide +kernel
theorem dL_wallets_260 : decode cL_wallets 260 = .ok (.aload 4, 2) := by decide +kernel
theorem dL_wallets_262 : decode cL_wallets 262 = .ok (.iconst 4, 1) := by decide +kernel
theorem dL_wallets_263 : decode cL_wallets 263 = .ok (.dup2, 1) := by decide +kernel
theorem dL_wallets_264 : decode cL_wallets 264 = .ok (.iaload, 1) := by decide +kernel
theorem dL_wallets_265 : decode cL_wallets 265 = .ok (.iload 7, 2) := by decide +kernel
theorem dL_wallets_267 : decode cL_wallets 267 = .ok (.isub, 1) := by decide +kernel
theorem dL_wallets_268 : decode cL_wallets 268 = .ok (.iastore, 1) := by decide +kernel
theorem dL_wallets_269 : decode cL_wallets 269 = .ok (.iload 9, 2) := by decide +kernel
theorem dL_wallets_271 : decode cL_wallets 271 = .ok (.aload 4, 2) := by decide +kernel
theorem dL_wallets_273 : decode cL_wallets 273 = .ok (.iconst 3, 1) := by decide +kernel
theorem dL_wallets_274 : decode cL_wallets 274 = .ok (.iaload, 1) := by decide +kernel
theorem dL_wallets_275 : decode cL_wallets 275 = .ok (.iconst 1, 1) := by decide +kernel
theorem dL_wallets_276 : decode cL_wallets 276 = .ok (.isub, 1) := by decide +kernel
theorem dL_wallets_277 : decode cL_wallets 277 = .ok (.if_icmp .ne 32, 3) := by decide +kernel
theorem dL_wallets_280 : decode cL_wallets 280 = .ok (.aload_n 0, 1) := by decide +kernel
theorem dL_wallets_281 : decode cL_wallets 281 = .ok (.iload 9, 2) := by decide +kernel
theorem dL_wallets_283 : decode cL_wallets 283 = .ok (.invokevirtual 63, 3) := by decide +kernel
theorem dL_wallets_286 : decode cL_wallets 286 = .ok (.iload 8, 2) := by decide +kernel
theorem dL_wallets_288 : decode cL_wallets 288 = .ok (.if_icmp .ne 21, 3) := by decide +kernel
theorem dL_wallets_291 : decode cL_wallets 291 = .ok (.aload_n 0, 1) := by decide +kernel
theorem dL_wallets_292 : decode cL_wallets 292 = .ok (.iload 5, 2) := by decide +kernel
theorem dL_wallets_294 : decode cL_wallets 294 = .ok (.invokevirtual 45, 3) := by decide +kernel
theorem dL_wallets_297 : decode cL_wallets 297 = .ok (.iload 6, 2) := by decide +kernel
theorem dL_wallets_299 : decode cL_wallets 299 = .ok (.iload 7, 2) := by decide +kernel
theorem dL_wallets_301 : decode cL_wallets 301 = .ok (.isub, 1) := by decide +kernel
theorem dL_wallets_302 : decode cL_wallets 302 = .ok (.if_icmp .ne 7, 3) := by decide +kernel
theorem dL_wallets_305 : decode cL_wallets 305 = .ok (.iconst 1, 1) := by decide +kernel
theorem dL_wallets_306 : decode cL_wallets 306 = .ok (.goto 4, 3) := by decide +kernel
theorem dL_wallets_309 : decode cL_wallets 309 = .ok (.iconst 0, 1) := by decide +kernel
theorem dL_wallets_310 : decode cL_wallets 310 = .ok (.ireturn, 1) := by decide +kernel
theorem dL_sets_0 : decode cL_sets 0 = .ok (.iload_n 1, 1) := by decide +kernel
theorem dL_sets_1 : decode cL_sets 1 = .ok (.ifCond .ne 94, 3) := by decide +kernel
theorem dL_sets_4 : decode cL_sets 4 = .ok (.iload_n 2, 1) := by decide +kernel
theorem dL_sets_5 : decode cL_sets 5 = .ok (.iconst 3, 1) := by decide +kernel
theorem dL_sets_6 : decode cL_sets 6 = .ok (.irem, 1) := by decide +kernel
theorem dL_sets_7 : decode cL_sets 7 = .ok (.istore 5, 2) := by decide +kernel
theorem dL_sets_9 : decode cL_sets 9 = .ok (.iload_n 3, 1) := by decide +kernel
theorem dL_sets_10 : decode cL_sets 10 = .ok (.iconst 4, 1) := by decide +kernel
theorem dL_sets_11 : decode cL_sets 11 = .ok (.irem, 1) := by decide +kernel
theorem dL_sets_12 : decode cL_sets 12 = .ok (.ifCond .ne 7, 3) := by decide +kernel
theorem dL_sets_15 : decode cL_sets 15 = .ok (.iconst 0, 1) := by decide +kernel
theorem dL_sets_16 : decode cL_sets 16 = .ok (.goto 9, 3) := by decide +kernel
theorem dL_sets_19 : decode cL_sets 19 = .ok (.iload_n 3, 1) := by decide +kernel
theorem dL_sets_20 : decode cL_sets 20 = .ok (.iconst 4, 1) := by decide +kernel
theorem dL_sets_21 : decode cL_sets 21 = .ok (.idiv, 1) := by decide +kernel
theorem dL_sets_22 : decode cL_sets 22 = .ok (.bipush 90, 2) := by decide +kernel
theorem dL_sets_24 : decode cL_sets 24 = .ok (.irem, 1) := by decide +kernel
theorem dL_sets_25 : decode cL_sets 25 = .ok (.istore 6, 2) := by decide +kernel
theorem dL_sets_27 : decode cL_sets 27 = .ok (.aload_n 0, 1) := by decide +kernel
theorem dL_sets_28 : decode cL_sets 28 = .ok (.iload 5, 2) := by decide +kernel
theorem dL_sets_30 : decode cL_sets 30 = .ok (.iload_n 2, 1) := by decide +kernel
theorem dL_sets_31 : decode cL_sets 31 = .ok (.iconst 3, 1) := by decide +kernel
theorem dL_sets_32 : decode cL_sets 32 = .ok (.idiv, 1) := by decide +kernel
theorem dL_sets_33 : decode cL_sets 33 = .ok (.iconst 2, 1) := by decide +kernel
theorem dL_sets_34 : decode cL_sets 34 = .ok (.irem, 1) := by decide +kernel
theorem dL_sets_35 : decode cL_sets 35 = .ok (.ifCond .ne 7, 3) := by decide +kernel
theorem dL_sets_38 : decode cL_sets 38 = .ok (.iconst 1, 1) := by decide +kernel
theorem dL_sets_39 : decode cL_sets 39 = .ok (.goto 4, 3) := by decide +kernel
theorem dL_sets_42 : decode cL_sets 42 = .ok (.iconst 0, 1) := by decide +kernel
theorem dL_sets_43 : decode cL_sets 43 = .ok (.iload 6, 2) := by decide +kernel
theorem dL_sets_45 : decode cL_sets 45 = .ok (.invokevirtual 135, 3) := by decide +kernel
theorem dL_sets_48 : decode cL_sets 48 = .ok (.istore 7, 2) := by decide +kernel
theorem dL_sets_50 : decode cL_sets 50 = .ok (.iload 7, 2) := by decide +kernel
theorem dL_sets_52 : decode cL_sets 52 = .ok (.ifCond .lt 41, 3) := by decide +kernel
theorem dL_sets_55 : decode cL_sets 55 = .ok (.iload 7, 2) := by decide +kernel
theorem dL_sets_57 : decode cL_sets 57 = .ok (.sipush 1000, 3) := by decide +kernel
theorem dL_sets_60 : decode cL_sets 60 = .ok (.if_icmp .gt 33, 3) := by decide +kernel
theorem dL_sets_63 : decode cL_sets 63 = .ok (.aload_n 0, 1) := by decide +kernel
theorem dL_sets_64 : decode cL_sets 64 = .ok (.iload 5, 2) := by decide +kernel
theorem dL_sets_66 : decode cL_sets 66 = .ok (.iload_n 2, 1) := by decide +kernel
theorem dL_sets_67 : decode cL_sets 67 = .ok (.iconst 3, 1) := by decide +kernel
theorem dL_sets_68 : decode cL_sets 68 = .ok (.idiv, 1) := by decide +kernel
theorem dL_sets_69 : decode cL_sets 69 = .ok (.iconst 2, 1) := by decide +kernel
theorem dL_sets_70 : decode cL_sets 70 = .ok (.irem, 1) := by decide +kernel
theorem dL_sets_71 : decode cL_sets 71 = .ok (.ifCond .ne 7, 3) := by decide +kernel
theorem dL_sets_74 : decode cL_sets 74 = .ok (.iconst 1, 1) := by decide +kernel
theorem dL_sets_75 : decode cL_sets 75 = .ok (.goto 4, 3) := by decide +kernel
theorem dL_sets_78 : decode cL_sets 78 = .ok (.iconst 0, 1) := by decide +kernel
theorem dL_sets_79 : decode cL_sets 79 = .ok (.iload 6, 2) := by decide +kernel
theorem dL_sets_81 : decode cL_sets 81 = .ok (.invokevirtual 135, 3) := by decide +kernel
theorem dL_sets_84 : decode cL_sets 84 = .ok (.iload 6, 2) := by decide +kernel
theorem dL_sets_86 : decode cL_sets 86 = .ok (.if_icmp .ne 7, 3) := by decide +kernel
theorem dL_sets_89 : decode cL_sets 89 = .ok (.iconst 1, 1) := by decide +kernel
theorem dL_sets_90 : decode cL_sets 90 = .ok (.goto 4, 3) := by decide +kernel
theorem dL_sets_93 : decode cL_sets 93 = .ok (.iconst 0, 1) := by decide +kernel
theorem dL_sets_94 : decode cL_sets 94 = .ok (.ireturn, 1) := by decide +kernel
theorem dL_sets_95 : decode cL_sets 95 = .ok (.iload_n 1, 1) := by decide +kernel
theorem dL_sets_96 : decode cL_sets 96 = .ok (.iconst 1, 1) := by decide +kernel
theorem dL_sets_97 : decode cL_sets 97 = .ok (.if_icmp .ne 103, 3) := by decide +kernel
theorem dL_sets_100 : decode cL_sets 100 = .ok (.iload_n 2, 1) := by decide +kernel
theorem dL_sets_101 : decode cL_sets 101 = .ok (.bipush 8, 2) := by decide +kernel
theorem dL_sets_103 : decode cL_sets 103 = .ok (.irem, 1) := by decide +kernel
theorem dL_sets_104 : decode cL_sets 104 = .ok (.istore 5, 2) := by decide +kernel
theorem dL_sets_106 : decode cL_sets 106 = .ok (.iconst 0, 1) := by decide +kernel
theorem dL_sets_107 : decode cL_sets 107 = .ok (.istore 6, 2) := by decide +kernel
theorem dL_sets_109 : decode cL_sets 109 = .ok (.iconst 0, 1) := by decide +kernel
theorem dL_sets_110 : decode cL_sets 110 = .ok (.istore 7, 2) := by decide +kernel
theorem dL_sets_112 : decode cL_sets 112 = .ok (.iload 7, 2) := by decide +kernel
theorem dL_sets_114 : decode cL_sets 114 = .ok (.bipush 10, 2) := by decide +kernel
theorem dL_sets_116 : decode cL_sets 116 = .ok (.if_icmp .ge 39, 3) := by decide +kernel
theorem dL_sets_119 : decode cL_sets 119 = .ok (.iload 6, 2) := by decide +kernel
theorem dL_sets_121 : decode cL_sets 121 = .ok (.aload_n 0, 1) := by decide +kernel
theorem dL_sets_122 : decode cL_sets 122 = .ok (.iload 7, 2) := by decide +kernel
theorem dL_sets_124 : decode cL_sets 124 = .ok (.invokevirtual 84, 3) := by decide +kernel
theorem dL_sets_127 : decode cL_sets 127 = .ok (.ifCond .lt 18, 3) := by decide +kernel
theorem dL_sets_130 : decode cL_sets 130 = .ok (.aload_n 0, 1) := by decide +kernel
theorem dL_sets_131 : decode cL_sets 131 = .ok (.iload 7, 2) := by decide +kernel
theorem dL_sets_133 : decode cL_sets 133 = .ok (.invokevirtual 87, 3) := by decide +kernel
theorem dL_sets_136 : decode cL_sets 136 = .ok (.iload 5, 2) := by decide +kernel
theorem dL_sets_138 : decode cL_sets 138 = .ok (.if_icmp .ne 7, 3) := by decide +kernel
theorem dL_sets_141 : decode cL_sets 141 = .ok (.iconst 1, 1) := by decide +kernel
theorem dL_sets_142 : decode cL_sets 142 = .ok (.goto 4, 3) := by decide +kernel
theorem dL_sets_145 : decode cL_sets 145 = .ok (.iconst 0, 1) := by decide +kernel
theorem dL_sets_146 : decode cL_sets 146 = .ok (.iadd, 1) := by decide +kernel
theorem dL_sets_147 : decode cL_sets 147 = .ok (.istore 6, 2) := by decide +kernel
theorem dL_sets_149 : decode cL_sets 149 = .ok (.iinc 7 1, 3) := by decide +kernel
theorem dL_sets_152 : decode cL_sets 152 = .ok (.goto (-40), 3) := by decide +kernel
theorem dL_sets_155 : decode cL_sets 155 = .ok (.iload_n 3, 1) := by decide +kernel
theorem dL_sets_156 : decode cL_sets 156 = .ok (.bipush 6, 2) := by decide +kernel
theorem dL_sets_158 : decode cL_sets 158 = .ok (.irem, 1) := by decide +kernel
theorem dL_sets_159 : decode cL_sets 159 = .ok (.istore 7, 2) := by decide +kernel
theorem dL_sets_161 : decode cL_sets 161 = .ok (.aload_n 0, 1) := by decide +kernel
theorem dL_sets_162 : decode cL_sets 162 = .ok (.iload 5, 2) := by decide +kernel
theorem dL_sets_164 : decode cL_sets 164 = .ok (.iload 7, 2) := by decide +kernel
theorem dL_sets_166 : decode cL_sets 166 = .ok (.iload 7, 2) := by decide +kernel
theorem dL_sets_168 : decode cL_sets 168 = .ok (.iconst 1, 1) := by decide +kernel
theorem dL_sets_169 : decode cL_sets 169 = .ok (.if_icmp .le 16, 3) := by decide +kernel
theorem dL_sets_172 : decode cL_sets 172 = .ok (.iload_n 3, 1) := by decide +kernel
theorem dL_sets_173 : decode cL_sets 173 = .ok (.bipush 6, 2) := by decide +kernel
theorem dL_sets_175 : decode cL_sets 175 = .ok (.idiv, 1) := by decide +kernel
theorem dL_sets_176 : decode cL_sets 176 = .ok (.iconst 4, 1) := by decide +kernel
theorem dL_sets_177 : decode cL_sets 177 = .ok (.irem, 1) := by decide +kernel
theorem dL_sets_178 : decode cL_sets 178 = .ok (.ifCond .ne 7, 3) := by decide +kernel
theorem dL_sets_181 : decode cL_sets 181 = .ok (.iconst 1, 1) := by decide +kernel
theorem dL_sets_182 : decode cL_sets 182 = .ok (.goto 4, 3) := by decide +kernel
theorem dL_sets_185 : decode cL_sets 185 = .ok (.iconst 0, 1) := by decide +kernel
theorem dL_sets_186 : decode cL_sets 186 = .ok (.invokevirtual 139, 3) := by decide +kernel
theorem dL_sets_189 : decode cL_sets 189 = .ok (.iload 6, 2) := by decide +kernel
theorem dL_sets_191 : decode cL_sets 191 = .ok (.if_icmp .ne 7, 3) := by decide +kernel
theorem dL_sets_194 : decode cL_sets 194 = .ok (.iconst 1, 1) := by decide +kernel
theorem dL_sets_195 : decode cL_sets 195 = .ok (.goto 4, 3) := by decide +kernel
theorem dL_sets_198 : decode cL_sets 198 = .ok (.iconst 0, 1) := by decide +kernel
theorem dL_sets_199 : decode cL_sets 199 = .ok (.ireturn, 1) := by decide +kernel
theorem dL_sets_200 : decode cL_sets 200 = .ok (.iload_n 1, 1) := by decide +kernel
theorem dL_sets_201 : decode cL_sets 201 = .ok (.iconst 2, 1) := by decide +kernel
theorem dL_sets_202 : decode cL_sets 202 = .ok (.if_icmp .ne 59, 3) := by decide +kernel
theorem dL_sets_205 : decode cL_sets 205 = .ok (.iconst 1, 1) := by decide +kernel
theorem dL_sets_206 : decode cL_sets 206 = .ok (.iload_n 3, 1) := by decide +kernel
theorem dL_sets_207 : decode cL_sets 207 = .ok (.iload_n 3, 1) := by decide +kernel
theorem dL_sets_208 : decode cL_sets 208 = .ok (.iconst 3, 1) := by decide +kernel
theorem dL_sets_209 : decode cL_sets 209 = .ok (.irem, 1) := by decide +kernel
theorem dL_sets_210 : decode cL_sets 210 = .ok (.ifCond .ne 8, 3) := by decide +kernel
theorem dL_sets_213 : decode cL_sets 213 = .ok (.bipush 100, 2) := by decide +kernel
theorem dL_sets_215 : decode cL_sets 215 = .ok (.goto 5, 3) := by decide +kernel
theorem dL_sets_218 : decode cL_sets 218 = .ok (.bipush 9, 2) := by decide +kernel
theorem dL_sets_220 : decode cL_sets 220 = .ok (.irem, 1) := by decide +kernel
theorem dL_sets_221 : decode cL_sets 221 = .ok (.iadd, 1) := by decide +kernel
theorem dL_sets_222 : decode cL_sets 222 = .ok (.istore 5, 2) := by decide +kernel
theorem dL_sets_224 : decode cL_sets 224 = .ok (.aload_n 0, 1) := by decide +kernel
theorem dL_sets_225 : decode cL_sets 225 = .ok (.iload 5, 2) := by decide +kernel
theorem dL_sets_227 : decode cL_sets 227 = .ok (.invokevirtual 142, 3) := by decide +kernel
theorem dL_sets_230 : decode cL_sets 230 = .ok (.istore 6, 2) := by decide +kernel
theorem dL_sets_232 : decode cL_sets 232 = .ok (.iload 6, 2) := by decide +kernel
theorem dL_sets_234 : decode cL_sets 234 = .ok (.ifCond .le 25, 3) := by decide +kernel
theorem dL_sets_237 : decode cL_sets 237 = .ok (.iload 6, 2) := by decide +kernel
theorem dL_sets_239 : decode cL_sets 239 = .ok (.bipush 100, 2) := by decide +kernel
theorem dL_sets_241 : decode cL_sets 241 = .ok (.if_icmp .gt 18, 3) := by decide +kernel
theorem dL_sets_244 : decode cL_sets 244 = .ok (.aload_n 0, 1) := by decide +kernel
theorem dL_sets_245 : decode cL_sets 245 = .ok (.iload 5, 2) := by decide +kernel
theorem dL_sets_247 : decode cL_sets 247 = .ok (.invokevirtual 142, 3) := by decide +kernel
theorem dL_sets_250 : decode cL_sets 250 = .ok (.iload 5, 2) := by decide +kernel
theorem dL_sets_252 : decode cL_sets 252 = .ok (.if_icmp .ne 7, 3) := by decide +kernel
theorem dL_sets_255 : decode cL_sets 255 = .ok (.iconst 1, 1) := by decide +kernel
theorem dL_sets_256 : decode cL_sets 256 = .ok (.goto 4, 3) := by decide +kernel
theorem dL_sets_259 : decode cL_sets 259 = .ok (.iconst 0, 1) := by decide +kernel
theorem dL_sets_260 : decode cL_sets 260 = .ok (.ireturn, 1) := by decide +kernel
theorem dL_sets_261 : decode cL_sets 261 = .ok (.iload_n 1, 1) := by decide +kernel
theorem dL_sets_262 : decode cL_sets 262 = .ok (.iconst 3, 1) := by decide +kernel
theorem dL_sets_263 : decode cL_sets 263 = .ok (.if_icmp .ne 61, 3) := by decide +kernel
theorem dL_sets_266 : decode cL_sets 266 = .ok (.iload_n 3, 1) := by decide +kernel
theorem dL_sets_267 : decode cL_sets 267 = .ok (.iconst 3, 1) := by decide +kernel
theorem dL_sets_268 : decode cL_sets 268 = .ok (.irem, 1) := by decide +kernel
theorem dL_sets_269 : decode cL_sets 269 = .ok (.ifCond .ne 7, 3) := by decide +kernel
theorem dL_sets_272 : decode cL_sets 272 = .ok (.iconst (-1), 1) := by decide +kernel
theorem dL_sets_273 : decode cL_sets 273 = .ok (.goto 10, 3) := by decide +kernel
theorem dL_sets_276 : decode cL_sets 276 = .ok (.iload_n 3, 1) := by decide +kernel
theorem dL_sets_277 : decode cL_sets 277 = .ok (.iconst 3, 1) := by decide +kernel
theorem dL_sets_278 : decode cL_sets 278 = .ok (.idiv, 1) := by decide +kernel
theorem dL_sets_279 : decode cL_sets 279 = .ok (.sipush 800, 3) := by decide +kernel
theorem dL_sets_282 : decode cL_sets 282 = .ok (.irem, 1) := by decide +kernel
theorem dL_sets_283 : decode cL_sets 283 = .ok (.istore 5, 2) := by decide +kernel
theorem dL_sets_285 : decode cL_sets 285 = .ok (.aload_n 0, 1) := by decide +kernel
theorem dL_sets_286 : decode cL_sets 286 = .ok (.iload_n 2, 1) := by decide +kernel
theorem dL_sets_287 : decode cL_sets 287 = .ok (.bipush 10, 2) := by decide +kernel
theorem dL_sets_289 : decode cL_sets 289 = .ok (.irem, 1) := by decide +kernel
theorem dL_sets_290 : decode cL_sets 290 = .ok (.iload 5, 2) := by decide +kernel
theorem dL_sets_292 : decode cL_sets 292 = .ok (.invokevirtual 145, 3) := by decide +kernel
theorem dL_sets_295 : decode cL_sets 295 = .ok (.istore 6, 2) := by decide +kernel
theorem dL_sets_297 : decode cL_sets 297 = .ok (.iload 6, 2) := by decide +kernel
theorem dL_sets_299 : decode cL_sets 299 = .ok (.iconst (-1), 1) := by decide +kernel
theorem dL_sets_300 : decode cL_sets 300 = .ok (.if_icmp .lt 22, 3) := by decide +kernel
theorem dL_sets_303 : decode cL_sets 303 = .ok (.aload_n 0, 1) := by decide +kernel
theorem dL_sets_304 : decode cL_sets 304 = .ok (.iload_n 2, 1) := by decide +kernel
theorem dL_sets_305 : decode cL_sets 305 = .ok (.bipush 10, 2) := by decide +kernel
theorem dL_sets_307 : decode cL_sets 307 = .ok (.irem, 1) := by decide +kernel
theorem dL_sets_308 : decode cL_sets 308 = .ok (.iload 5, 2) := by decide +kernel
theorem dL_sets_310 : decode cL_sets 310 = .ok (.invokevirtual 145, 3) := by decide +kernel
theorem dL_sets_313 : decode cL_sets 313 = .ok (.iload 5, 2) := by decide +kernel
theorem dL_sets_315 : decode cL_sets 315 = .ok (.if_icmp .ne 7, 3) := by decide +kernel
theorem dL_sets_318 : decode cL_sets 318 = .ok (.iconst 1, 1) := by decide +kernel
theorem dL_sets_319 : decode cL_sets 319 = .ok (.goto 4, 3) := by decide +kernel
theorem dL_sets_322 : decode cL_sets 322 = .ok (.iconst 0, 1) := by decide +kernel
theorem dL_sets_323 : decode cL_sets 323 = .ok (.ireturn, 1) := by decide +kernel
theorem dL_sets_324 : decode cL_sets 324 = .ok (.iload_n 1, 1) := by decide +kernel
theorem dL_sets_325 : decode cL_sets 325 = .ok (.iconst 4, 1) := by decide +kernel
theorem dL_sets_326 : decode cL_sets 326 = .ok (.if_icmp .ne 78, 3) := by decide +kernel
theorem dL_sets_329 : decode cL_sets 329 = .ok (.aload_n 0, 1) := by decide +kernel
theorem dL_sets_330 : decode cL_sets 330 = .ok (.iconst 4, 1) := by decide +kernel
theorem dL_sets_331 : decode cL_sets 331 = .ok (.iload_n 2, 1) := by decide +kernel
theorem dL_sets_332 : decode cL_sets 332 = .ok (.bipush 10, 2) := by decide +kernel
theorem dL_sets_334 : decode cL_sets 334 = .ok (.irem, 1) := by decide +kernel
theorem dL_sets_335 : decode cL_sets 335 = .ok (.iload_n 3, 1) := by decide +kernel
theorem dL_sets_336 : decode cL_sets 336 = .ok (.iconst 4, 1) := by decide +kernel
theorem dL_sets_337 : decode cL_sets 337 = .ok (.irem, 1) := by decide +kernel
theorem dL_sets_338 : decode cL_sets 338 = .ok (.iconst 0, 1) := by decide +kernel
theorem dL_sets_339 : decode cL_sets 339 = .ok (.invokestatic 116, 3) := by decide +kernel
theorem dL_sets_342 : decode cL_sets 342 = .ok (.istore 5, 2) := by decide +kernel
theorem dL_sets_344 : decode cL_sets 344 = .ok (.aload_n 0, 1) := by decide +kernel
theorem dL_sets_345 : decode cL_sets 345 = .ok (.iload_n 2, 1) := by decide +kernel
theorem dL_sets_346 : decode cL_sets 346 = .ok (.bipush 10, 2) := by decide +kernel
theorem dL_sets_348 : decode cL_sets 348 = .ok (.irem, 1) := by decide +kernel
theorem dL_sets_349 : decode cL_sets 349 = .ok (.invokevirtual 84, 3) := by decide +kernel
theorem dL_sets_352 : decode cL_sets 352 = .ok (.ifCond .lt 18, 3) := by decide +kernel
theorem dL_sets_355 : decode cL_sets 355 = .ok (.iload 5, 2) := by decide +kernel
theorem dL_sets_357 : decode cL_sets 357 = .ok (.bipush (-108), 2) := by decide +kernel
theorem dL_sets_359 : decode cL_sets 359 = .ok (.if_icmp .ne 7, 3) := by decide +kernel
theorem dL_sets_362 : decode cL_sets 362 = .ok (.iconst 1, 1) := by decide +kernel
theorem dL_sets_363 : decode cL_sets 363 = .ok (.goto 40, 3) := by decide +kernel
theorem dL_sets_366 : decode cL_sets 366 = .ok (.iconst 0, 1) := by decide +kernel
theorem dL_sets_367 : decode cL_sets 367 = .ok (.goto 36, 3) := by decide +kernel
theorem dL_sets_370 : decode cL_sets 370 = .ok (.iload 5, 2) := by decide +kernel
theorem dL_sets_372 : decode cL_sets 372 = .ok (.ifCond .lt 30, 3) := by decide +kernel
theorem dL_sets_375 : decode cL_sets 375 = .ok (.iload 5, 2) := by decide +kernel
theorem dL_sets_377 : decode cL_sets 377 = .ok (.iconst 4, 1) := by decide +kernel
theorem dL_sets_378 : decode cL_sets 378 = .ok (.if_icmp .ge 24, 3) := by decide +kernel
theorem dL_sets_381 : decode cL_sets 381 = .ok (.aload_n 0, 1) := by decide +kernel
theorem dL_sets_382 : decode cL_sets 382 = .ok (.iload_n 2, 1) := by decide +kernel
theorem dL_sets_383 : decode cL_sets 383 = .ok (.bipush 10, 2) := by decide +kernel
theorem dL_sets_385 : decode cL_sets 385 = .ok (.irem, 1) := by decide +kernel
theorem dL_sets_386 : decode cL_sets 386 = .ok (.iload_n 3, 1) := by decide +kernel
theorem dL_sets_387 : decode cL_sets 387 = .ok (.iconst 4, 1) := by decide +kernel
theorem dL_sets_388 : decode cL_sets 388 = .ok (.irem, 1) := by decide +kernel
theorem dL_sets_389 : decode cL_sets 389 = .ok (.invokevirtual 27, 3) := by decide +kernel
theorem dL_sets_392 : decode cL_sets 392 = .ok (.iload_n 3, 1) := by decide +kernel
theorem dL_sets_393 : decode cL_sets 393 = .ok (.iconst 4, 1) := by decide +kernel
theorem dL_sets_394 : decode cL_sets 394 = .ok (.irem, 1) := by decide +kernel
theorem dL_sets_395 : decode cL_sets 395 = .ok (.if_icmp .ne 7, 3) := by decide +kernel
theorem dL_sets_398 : decode cL_sets 398 = .ok (.iconst 1, 1) := by decide +kernel
theorem dL_sets_399 : decode cL_sets 399 = .ok (.goto 4, 3) := by decide +kernel
theorem dL_sets_402 : decode cL_sets 402 = .ok (.iconst 0, 1) := by decide +kernel
theorem dL_sets_403 : decode cL_sets 403 = .ok (.ireturn, 1) := by decide +kernel
theorem dL_sets_404 : decode cL_sets 404 = .ok (.aload_n 0, 1) := by decide +kernel
theorem dL_sets_405 : decode cL_sets 405 = .ok (.iconst 5, 1) := by decide +kernel
theorem dL_sets_406 : decode cL_sets 406 = .ok (.iload_n 2, 1) := by decide +kernel
theorem dL_sets_407 : decode cL_sets 407 = .ok (.bipush 8, 2) := by decide +kernel
theorem dL_sets_409 : decode cL_sets 409 = .ok (.irem, 1) := by decide +kernel
theorem dL_sets_410 : decode cL_sets 410 = .ok (.iload_n 3, 1) := by decide +kernel
theorem dL_sets_411 : decode cL_sets 411 = .ok (.iconst 3, 1) := by decide +kernel
theorem dL_sets_412 : decode cL_sets 412 = .ok (.irem, 1) := by decide +kernel
theorem dL_sets_413 : decode cL_sets 413 = .ok (.iconst 0, 1) := by decide +kernel
theorem dL_sets_414 : decode cL_sets 414 = .ok (.invokestatic 116, 3) := by decide +kernel
theorem dL_sets_417 : decode cL_sets 417 = .ok (.istore 5, 2) := by decide +kernel
theorem dL_sets_419 : decode cL_sets 419 = .ok (.aload 4, 2) := by decide +kernel
theorem dL_sets_421 : decode cL_sets 421 = .ok (.iconst 1, 1) := by decide +kernel
theorem dL_sets_422 : decode cL_sets 422 = .ok (.iaload, 1) := by decide +kernel
theorem dL_sets_423 : decode cL_sets 423 = .ok (.ifCond .le 18, 3) := by decide +kernel
theorem dL_sets_426 : decode cL_sets 426 = .ok (.iload 5, 2) := by decide +kernel
theorem dL_sets_428 : decode cL_sets 428 = .ok (.bipush (-108), 2) := by decide +kernel
theorem dL_sets_430 : decode cL_sets 430 = .ok (.if_icmp .ne 7, 3) := by decide +kernel
theorem dL_sets_433 : decode cL_sets 433 = .ok (.iconst 1, 1) := by decide +kernel
theorem dL_sets_434 : decode cL_sets 434 = .ok (.goto 40, 3) := by decide +kernel
theorem dL_sets_437 : decode cL_sets 437 = .ok (.iconst 0, 1) := by decide +kernel
theorem dL_sets_438 : decode cL_sets 438 = .ok (.goto 36, 3) := by decide +kernel
theorem dL_sets_441 : decode cL_sets 441 = .ok (.iload 5, 2) := by decide +kernel
theorem dL_sets_443 : decode cL_sets 443 = .ok (.ifCond .lt 30, 3) := by decide +kernel
theorem dL_sets_446 : decode cL_sets 446 = .ok (.iload 5, 2) := by decide +kernel
theorem dL_sets_448 : decode cL_sets 448 = .ok (.iconst 3, 1) := by decide +kernel
theorem dL_sets_449 : decode cL_sets 449 = .ok (.if_icmp .ge 24, 3) := by decide +kernel
theorem dL_sets_452 : decode cL_sets 452 = .ok (.aload_n 0, 1) := by decide +kernel
theorem dL_sets_453 : decode cL_sets 453 = .ok (.iload_n 2, 1) := by decide +kernel
theorem dL_sets_454 : decode cL_sets 454 = .ok (.bipush 8, 2) := by decide +kernel
theorem dL_sets_456 : decode cL_sets 456 = .ok (.irem, 1) := by decide +kernel
theorem dL_sets_457 : decode cL_sets 457 = .ok (.iload_n 3, 1) := by decide +kernel
theorem dL_sets_458 : decode cL_sets 458 = .ok (.iconst 3, 1) := by decide +kernel
theorem dL_sets_459 : decode cL_sets 459 = .ok (.irem, 1) := by decide +kernel
theorem dL_sets_460 : decode cL_sets 460 = .ok (.invokevirtual 31, 3) := by decide +kernel
theorem dL_sets_463 : decode cL_sets 463 = .ok (.iload_n 3, 1) := by decide +kernel
theorem dL_sets_464 : decode cL_sets 464 = .ok (.iconst 3, 1) := by decide +kernel
theorem dL_sets_465 : decode cL_sets 465 = .ok (.irem, 1) := by decide +kernel
theorem dL_sets_466 : decode cL_sets 466 = .ok (.if_icmp .ne 7, 3) := by decide +kernel
theorem dL_sets_469 : decode cL_sets 469 = .ok (.iconst 1, 1) := by decide +kernel
theorem dL_sets_470 : decode cL_sets 470 = .ok (.goto 4, 3) := by decide +kernel
theorem dL_sets_473 : decode cL_sets 473 = .ok (.iconst 0, 1) := by decide +kernel
theorem dL_sets_474 : decode cL_sets 474 = .ok (.ireturn, 1) := by decide +kernel
theorem dL_lives_0 : decode cL_lives 0 = .ok (.iconst 1, 1) := by decide +kernel
theorem dL_lives_1 : decode cL_lives 1 = .ok (.iload_n 1, 1) := by decide +kernel
theorem dL_lives_2 : decode cL_lives 2 = .ok (.iload_n 1, 1) := by decide +kernel
theorem dL_lives_3 : decode cL_lives 3 = .ok (.iconst 5, 1) := by decide +kernel
theorem dL_lives_4 : decode cL_lives 4 = .ok (.irem, 1) := by decide +kernel
theorem dL_lives_5 : decode cL_lives 5 = .ok (.ifCond .ne 9, 3) := by decide +kernel
theorem dL_lives_8 : decode cL_lives 8 = .ok (.sipush 200, 3) := by decide +kernel
theorem dL_lives_11 : decode cL_lives 11 = .ok (.goto 5, 3) := by decide +kernel
theorem dL_lives_14 : decode cL_lives 14 = .ok (.bipush 9, 2) := by decide +kernel
theorem dL_lives_16 : decode cL_lives 16 = .ok (.irem, 1) := by decide +kernel
theorem dL_lives_17 : decode cL_lives 17 = .ok (.iadd, 1) := by decide +kernel
theorem dL_lives_18 : decode cL_lives 18 = .ok (.istore_n 3, 1) := by decide +kernel
theorem dL_lives_19 : decode cL_lives 19 = .ok (.iconst 0, 1) := by decide +kernel
theorem dL_lives_20 : decode cL_lives 20 = .ok (.istore 4, 2) := by decide +kernel
theorem dL_lives_22 : decode cL_lives 22 = .ok (.iconst 0, 1) := by decide +kernel
theorem dL_lives_23 : decode cL_lives 23 = .ok (.istore 5, 2) := by decide +kernel
theorem dL_lives_25 : decode cL_lives 25 = .ok (.iload 5, 2) := by decide +kernel
theorem dL_lives_27 : decode cL_lives 27 = .ok (.aload_n 2, 1) := by decide +kernel
theorem dL_lives_28 : decode cL_lives 28 = .ok (.iconst 2, 1) := by decide +kernel
theorem dL_lives_29 : decode cL_lives 29 = .ok (.iaload, 1) := by decide +kernel
theorem dL_lives_30 : decode cL_lives 30 = .ok (.if_icmp .ge 29, 3) := by decide +kernel
theorem dL_lives_33 : decode cL_lives 33 = .ok (.iload 4, 2) := by decide +kernel
theorem dL_lives_35 : decode cL_lives 35 = .ok (.aload_n 0, 1) := by decide +kernel
theorem dL_lives_36 : decode cL_lives 36 = .ok (.iload 5, 2) := by decide +kernel
theorem dL_lives_38 : decode cL_lives 38 = .ok (.invokevirtual 78, 3) := by decide +kernel
theorem dL_lives_41 : decode cL_lives 41 = .ok (.iconst 2, 1) := by decide +kernel
theorem dL_lives_42 : decode cL_lives 42 = .ok (.if_icmp .ne 7, 3) := by decide +kernel
theorem dL_lives_45 : decode cL_lives 45 = .ok (.iconst 1, 1) := by decide +kernel
theorem dL_lives_46 : decode cL_lives 46 = .ok (.goto 4, 3) := by decide +kernel
theorem dL_lives_49 : decode cL_lives 49 = .ok (.iconst 0, 1) := by decide +kernel
theorem dL_lives_50 : decode cL_lives 50 = .ok (.isub, 1) := by decide +kernel
theorem dL_lives_51 : decode cL_lives 51 = .ok (.istore 4, 2) := by decide +kernel
theorem dL_lives_53 : decode cL_lives 53 = .ok (.iinc 5 1, 3) := by decide +kernel
theorem dL_lives_56 : decode cL_lives 56 = .ok (.goto (-31), 3) := by decide +kernel
theorem dL_lives_59 : decode cL_lives 59 = .ok (.aload_n 0, 1) := by decide +kernel
theorem dL_lives_60 : decode cL_lives 60 = .ok (.bipush 6, 2) := by decide +kernel
theorem dL_lives_62 : decode cL_lives 62 = .ok (.iload_n 3, 1) := by decide +kernel
theorem dL_lives_63 : decode cL_lives 63 = .ok (.iconst 0, 1) := by decide +kernel
theorem dL_lives_64 : decode cL_lives 64 = .ok (.iconst 0, 1) := by decide +kernel
theorem dL_lives_65 : decode cL_lives 65 = .ok (.invokestatic 116, 3) := by decide +kernel
theorem dL_lives_68 : decode cL_lives 68 = .ok (.istore 5, 2) := by decide +kernel
theorem dL_lives_70 : decode cL_lives 70 = .ok (.iconst 0, 1) := by decide +kernel
theorem dL_lives_71 : decode cL_lives 71 = .ok (.istore 6, 2) := by decide +kernel
theorem dL_lives_73 : decode cL_lives 73 = .ok (.iload 6, 2) := by decide +kernel
theorem dL_lives_75 : decode cL_lives 75 = .ok (.aload_n 2, 1) := by decide +kernel
theorem dL_lives_76 : decode cL_lives 76 = .ok (.iconst 2, 1) := by decide +kernel
theorem dL_lives_77 : decode cL_lives 77 = .ok (.iaload, 1) := by decide +kernel
theorem dL_lives_78 : decode cL_lives 78 = .ok (.if_icmp .ge 29, 3) := by decide +kernel
theorem dL_lives_81 : decode cL_lives 81 = .ok (.iload 4, 2) := by decide +kernel
theorem dL_lives_83 : decode cL_lives 83 = .ok (.aload_n 0, 1) := by decide +kernel
theorem dL_lives_84 : decode cL_lives 84 = .ok (.iload 6, 2) := by decide +kernel
theorem dL_lives_86 : decode cL_lives 86 = .ok (.invokevirtual 78, 3) := by decide +kernel
theorem dL_lives_89 : decode cL_lives 89 = .ok (.iconst 2, 1) := by decide +kernel
theorem dL_lives_90 : decode cL_lives 90 = .ok (.if_icmp .ne 7, 3) := by decide +kernel
theorem dL_lives_93 : decode cL_lives 93 = .ok (.iconst 1, 1) := by decide +kernel
theorem dL_lives_94 : decode cL_lives 94 = .ok (.goto 4, 3) := by decide +kernel
theorem dL_lives_97 : decode cL_lives 97 = .ok (.iconst 0, 1) := by decide +kernel
theorem dL_lives_98 : decode cL_lives 98 = .ok (.iadd, 1) := by decide +kernel
theorem dL_lives_99 : decode cL_lives 99 = .ok (.istore 4, 2) := by decide +kernel
theorem dL_lives_101 : decode cL_lives 101 = .ok (.iinc 6 1, 3) := by decide +kernel
theorem dL_lives_104 : decode cL_lives 104 = .ok (.goto (-31), 3) := by decide +kernel
theorem dL_lives_107 : decode cL_lives 107 = .ok (.aload_n 2, 1) := by decide +kernel
theorem dL_lives_108 : decode cL_lives 108 = .ok (.iconst 0, 1) := by decide +kernel
theorem dL_lives_109 : decode cL_lives 109 = .ok (.dup2, 1) := by decide +kernel
theorem dL_lives_110 : decode cL_lives 110 = .ok (.iaload, 1) := by decide +kernel
theorem dL_lives_111 : decode cL_lives 111 = .ok (.iload_n 3, 1) := by decide +kernel
theorem dL_lives_112 : decode cL_lives 112 = .ok (.iadd, 1) := by decide +kernel
theorem dL_lives_113 : decode cL_lives 113 = .ok (.iastore, 1) := by decide +kernel
theorem dL_lives_114 : decode cL_lives 114 = .ok (.iload 5, 2) := by decide +kernel
theorem dL_lives_116 : decode cL_lives 116 = .ok (.iload 4, 2) := by decide +kernel
theorem dL_lives_118 : decode cL_lives 118 = .ok (.if_icmp .ne 7, 3) := by decide +kernel
theorem dL_lives_121 : decode cL_lives 121 = .ok (.iconst 1, 1) := by decide +kernel
theorem dL_lives_122 : decode cL_lives 122 = .ok (.goto 4, 3) := by decide +kernel
theorem dL_lives_125 : decode cL_lives 125 = .ok (.iconst 0, 1) := by decide +kernel
theorem dL_lives_126 : decode cL_lives 126 = .ok (.ireturn, 1) := by decide +kernel
theorem dL_step_0 : decode cL_step 0 = .ok (.iload_n 1, 1) := by decide +kernel
theorem dL_step_1 : decode cL_step 1 = .ok (.iconst 4, 1) := by decide +kernel
theorem dL_step_2 : decode cL_step 2 = .ok (.if_icmp .ge 35, 3) := by decide +kernel
theorem dL_step_5 : decode cL_step 5 = .ok (.aload 6, 2) := by decide +kernel
theorem dL_step_7 : decode cL_step 7 = .ok (.iconst 2, 1) := by decide +kernel
theorem dL_step_8 : decode cL_step 8 = .ok (.iaload, 1) := by decide +kernel
theorem dL_step_9 : decode cL_step 9 = .ok (.bipush 62, 2) := by decide +kernel
theorem dL_step_11 : decode cL_step 11 = .ok (.if_icmp .ge 26, 3) := by decide +kernel
theorem dL_step_14 : decode cL_step 14 = .ok (.aload 6, 2) := by decide +kernel
theorem dL_step_16 : decode cL_step 16 = .ok (.iconst 1, 1) := by decide +kernel
theorem dL_step_17 : decode cL_step 17 = .ok (.iaload, 1) := by decide +kernel
theorem dL_step_18 : decode cL_step 18 = .ok (.bipush 40, 2) := by decide +kernel
theorem dL_step_20 : decode cL_step 20 = .ok (.if_icmp .ge 17, 3) := by decide +kernel
theorem dL_step_23 : decode cL_step 23 = .ok (.aload_n 0, 1) := by decide +kernel
theorem dL_step_24 : decode cL_step 24 = .ok (.iconst 0, 1) := by decide +kernel
theorem dL_step_25 : decode cL_step 25 = .ok (.iload_n 2, 1) := by decide +kernel
theorem dL_step_26 : decode cL_step 26 = .ok (.iload_n 3, 1) := by decide +kernel
theorem dL_step_27 : decode cL_step 27 = .ok (.aload 4, 2) := by decide +kernel
theorem dL_step_29 : decode cL_step 29 = .ok (.aload 5, 2) := by decide +kernel
theorem dL_step_31 : decode cL_step 31 = .ok (.aload 6, 2) := by decide +kernel
theorem dL_step_33 : decode cL_step 33 = .ok (.invokestatic 148, 3) := by decide +kernel
theorem dL_step_36 : decode cL_step 36 = .ok (.ireturn, 1) := by decide +kernel
theorem dL_step_37 : decode cL_step 37 = .ok (.iload_n 1, 1) := by decide +kernel
theorem dL_step_38 : decode cL_step 38 = .ok (.bipush 7, 2) := by decide +kernel
theorem dL_step_40 : decode cL_step 40 = .ok (.if_icmp .ge 26, 3) := by decide +kernel
theorem dL_step_43 : decode cL_step 43 = .ok (.aload 6, 2) := by decide +kernel
theorem dL_step_45 : decode cL_step 45 = .ok (.iconst 2, 1) := by decide +kernel
theorem dL_step_46 : decode cL_step 46 = .ok (.iaload, 1) := by decide +kernel
theorem dL_step_47 : decode cL_step 47 = .ok (.bipush 62, 2) := by decide +kernel
theorem dL_step_49 : decode cL_step 49 = .ok (.if_icmp .ge 17, 3) := by decide +kernel
theorem dL_step_52 : decode cL_step 52 = .ok (.aload_n 0, 1) := by decide +kernel
theorem dL_step_53 : decode cL_step 53 = .ok (.iconst 1, 1) := by decide +kernel
theorem dL_step_54 : decode cL_step 54 = .ok (.iload_n 2, 1) := by decide +kernel
theorem dL_step_55 : decode cL_step 55 = .ok (.iload_n 3, 1) := by decide +kernel
theorem dL_step_56 : decode cL_step 56 = .ok (.aload 4, 2) := by decide +kernel
theorem dL_step_58 : decode cL_step 58 = .ok (.aload 5, 2) := by decide +kernel
theorem dL_step_60 : decode cL_step 60 = .ok (.aload 6, 2) := by decide +kernel
theorem dL_step_62 : decode cL_step 62 = .ok (.invokestatic 148, 3) := by decide +kernel
theorem dL_step_65 : decode cL_step 65 = .ok (.ireturn, 1) := by decide +kernel
theorem dL_step_66 : decode cL_step 66 = .ok (.iload_n 1, 1) := by decide +kernel
theorem dL_step_67 : decode cL_step 67 = .ok (.bipush 12, 2) := by decide +kernel
theorem dL_step_69 : decode cL_step 69 = .ok (.if_icmp .ge 27, 3) := by decide +kernel
theorem dL_step_72 : decode cL_step 72 = .ok (.aload_n 0, 1) := by decide +kernel
theorem dL_step_73 : decode cL_step 73 = .ok (.iload_n 1, 1) := by decide +kernel
theorem dL_step_74 : decode cL_step 74 = .ok (.bipush 8, 2) := by decide +kernel
theorem dL_step_76 : decode cL_step 76 = .ok (.if_icmp .ge 7, 3) := by decide +kernel
theorem dL_step_79 : decode cL_step 79 = .ok (.iconst 2, 1) := by decide +kernel
theorem dL_step_80 : decode cL_step 80 = .ok (.goto 4, 3) := by decide +kernel
theorem dL_step_83 : decode cL_step 83 = .ok (.iconst 3, 1) := by decide +kernel
theorem dL_step_84 : decode cL_step 84 = .ok (.iload_n 2, 1) := by decide +kernel
theorem dL_step_85 : decode cL_step 85 = .ok (.iload_n 3, 1) := by decide +kernel
theorem dL_step_86 : decode cL_step 86 = .ok (.aload 4, 2) := by decide +kernel
theorem dL_step_88 : decode cL_step 88 = .ok (.aload 5, 2) := by decide +kernel
theorem dL_step_90 : decode cL_step 90 = .ok (.aload 6, 2) := by decide +kernel
theorem dL_step_92 : decode cL_step 92 = .ok (.invokestatic 148, 3) := by decide +kernel
theorem dL_step_95 : decode cL_step 95 = .ok (.ireturn, 1) := by decide +kernel
theorem dL_step_96 : decode cL_step 96 = .ok (.iload_n 1, 1) := by decide +kernel
theorem dL_step_97 : decode cL_step 97 = .ok (.bipush 17, 2) := by decide +kernel
theorem dL_step_99 : decode cL_step 99 = .ok (.if_icmp .ge 38, 3) := by decide +kernel
theorem dL_step_102 : decode cL_step 102 = .ok (.aload_n 0, 1) := by decide +kernel
theorem dL_step_103 : decode cL_step 103 = .ok (.iload_n 1, 1) := by decide +kernel
theorem dL_step_104 : decode cL_step 104 = .ok (.bipush 14, 2) := by decide +kernel
theorem dL_step_106 : decode cL_step 106 = .ok (.if_icmp .ge 7, 3) := by decide +kernel
theorem dL_step_109 : decode cL_step 109 = .ok (.iconst 0, 1) := by decide +kernel
theorem dL_step_110 : decode cL_step 110 = .ok (.goto 19, 3) := by decide +kernel
theorem dL_step_113 : decode cL_step 113 = .ok (.iload_n 1, 1) := by decide +kernel
theorem dL_step_114 : decode cL_step 114 = .ok (.bipush 13, 2) := by decide +kernel
theorem dL_step_116 : decode cL_step 116 = .ok (.isub, 1) := by decide +kernel
theorem dL_step_117 : decode cL_step 117 = .ok (.iconst 3, 1) := by decide +kernel
theorem dL_step_118 : decode cL_step 118 = .ok (.if_icmp .ge 10, 3) := by decide +kernel
theorem dL_step_121 : decode cL_step 121 = .ok (.iload_n 1, 1) := by decide +kernel
theorem dL_step_122 : decode cL_step 122 = .ok (.bipush 13, 2) := by decide +kernel
theorem dL_step_124 : decode cL_step 124 = .ok (.isub, 1) := by decide +kernel
theorem dL_step_125 : decode cL_step 125 = .ok (.goto 4, 3) := by decide +kernel
theorem dL_step_128 : decode cL_step 128 = .ok (.iconst 2, 1) := by decide +kernel
theorem dL_step_129 : decode cL_step 129 = .ok (.iload_n 2, 1) := by decide +kernel
theorem dL_step_130 : decode cL_step 130 = .ok (.iload_n 3, 1) := by decide +kernel
theorem dL_step_131 : decode cL_step 131 = .ok (.aload 6, 2) := by decide +kernel
theorem dL_step_133 : decode cL_step 133 = .ok (.invokestatic 152, 3) := by decide +kernel
theorem dL_step_136 : decode cL_step 136 = .ok (.ireturn, 1) := by decide +kernel
theorem dL_step_137 : decode cL_step 137 = .ok (.iload_n 1, 1) := by decide +kernel
theorem dL_step_138 : decode cL_step 138 = .ok (.bipush 23, 2) := by decide +kernel
theorem dL_step_140 : decode cL_step 140 = .ok (.if_icmp .ge 16, 3) := by decide +kernel
theorem dL_step_143 : decode cL_step 143 = .ok (.aload_n 0, 1) := by decide +kernel
theorem dL_step_144 : decode cL_step 144 = .ok (.iload_n 1, 1) := by decide +kernel
theorem dL_step_145 : decode cL_step 145 = .ok (.bipush 17, 2) := by decide +kernel
theorem dL_step_147 : decode cL_step 147 = .ok (.isub, 1) := by decide +kernel
theorem dL_step_148 : decode cL_step 148 = .ok (.iload_n 2, 1) := by decide +kernel
theorem dL_step_149 : decode cL_step 149 = .ok (.iload_n 3, 1) := by decide +kernel
theorem dL_step_150 : decode cL_step 150 = .ok (.aload 6, 2) := by decide +kernel
theorem dL_step_152 : decode cL_step 152 = .ok (.invokestatic 156, 3) := by decide +kernel
theorem dL_step_155 : decode cL_step 155 = .ok (.ireturn, 1) := by decide +kernel
theorem dL_step_156 : decode cL_step 156 = .ok (.aload_n 0, 1) := by decide +kernel
theorem dL_step_157 : decode cL_step 157 = .ok (.iload_n 3, 1) := by decide +kernel
theorem dL_step_158 : decode cL_step 158 = .ok (.aload 6, 2) := by decide +kernel
theorem dL_step_160 : decode cL_step 160 = .ok (.invokestatic 159, 3) := by decide +kernel
theorem dL_step_163 : decode cL_step 163 = .ok (.ireturn, 1) := by decide +kernel
theorem dL_net_0 : decode cL_net 0 = .ok (.new 11, 3) := by decide +kernel
theorem dL_net_3 : decode cL_net 3 = .ok (.dup, 1) := by decide +kernel
theorem dL_net_4 : decode cL_net 4 = .ok (.invokespecial 163, 3) := by decide +kernel
theorem dL_net_7 : decode cL_net 7 = .ok (.astore_n 2, 1) := by decide +kernel
theorem dL_net_8 : decode cL_net 8 = .ok (.bipush 64, 2) := by decide +kernel
theorem dL_net_10 : decode cL_net 10 = .ok (.newarray .int, 2) := by decide +kernel
theorem dL_net_12 : decode cL_net 12 = .ok (.astore_n 3, 1) := by decide +kernel
theorem dL_net_13 : decode cL_net 13 = .ok (.bipush 64, 2) := by decide +kernel
theorem dL_net_15 : decode cL_net 15 = .ok (.newarray .int, 2) := by decide +kernel
theorem dL_net_17 : decode cL_net 17 = .ok (.astore 4, 2) := by decide +kernel
theorem dL_net_19 : decode cL_net 19 = .ok (.iconst 5, 1) := by decide +kernel
theorem dL_net_20 : decode cL_net 20 = .ok (.newarray .int, 2) := by decide +kernel
theorem dL_net_22 : decode cL_net 22 = .ok (.astore 5, 2) := by decide +kernel
theorem dL_net_24 : decode cL_net 24 = .ok (.iconst 0, 1) := by decide +kernel
theorem dL_net_25 : decode cL_net 25 = .ok (.istore 6, 2) := by decide +kernel
theorem dL_net_27 : decode cL_net 27 = .ok (.iload 6, 2) := by decide +kernel
theorem dL_net_29 : decode cL_net 29 = .ok (.bipush 80, 2) := by decide +kernel
theorem dL_net_31 : decode cL_net 31 = .ok (.if_icmp .ge 186, 3) := by decide +kernel
theorem dL_net_34 : decode cL_net 34 = .ok (.aload_n 0, 1) := by decide +kernel
theorem dL_net_35 : decode cL_net 35 = .ok (.iload_n 1, 1) := by decide +kernel
theorem dL_net_36 : decode cL_net 36 = .ok (.iconst 3, 1) := by decide +kernel
theorem dL_net_37 : decode cL_net 37 = .ok (.iload 6, 2) := by decide +kernel
theorem dL_net_39 : decode cL_net 39 = .ok (.imul, 1) := by decide +kernel
theorem dL_net_40 : decode cL_net 40 = .ok (.iadd, 1) := by decide +kernel
theorem dL_net_41 : decode cL_net 41 = .ok (.iconst 1, 1) := by decide +kernel
theorem dL_net_42 : decode cL_net 42 = .ok (.iadd, 1) := by decide +kernel
theorem dL_net_43 : decode cL_net 43 = .ok (.ldc 164, 2) := by decide +kernel
theorem dL_net_45 : decode cL_net 45 = .ok (.invokestatic 165, 3) := by decide +kernel
theorem dL_net_48 : decode cL_net 48 = .ok (.istore 7, 2) := by decide +kernel
theorem dL_net_50 : decode cL_net 50 = .ok (.aload_n 0, 1) := by decide +kernel
theorem dL_net_51 : decode cL_net 51 = .ok (.iload_n 1, 1) := by decide +kernel
theorem dL_net_52 : decode cL_net 52 = .ok (.iconst 3, 1) := by decide +kernel
theorem dL_net_53 : decode cL_net 53 = .ok (.iload 6, 2) := by decide +kernel
theorem dL_net_55 : decode cL_net 55 = .ok (.imul, 1) := by decide +kernel
theorem dL_net_56 : decode cL_net 56 = .ok (.iadd, 1) := by decide +kernel
theorem dL_net_57 : decode cL_net 57 = .ok (.iconst 2, 1) := by decide +kernel
theorem dL_net_58 : decode cL_net 58 = .ok (.iadd, 1) := by decide +kernel
theorem dL_net_59 : decode cL_net 59 = .ok (.ldc 164, 2) := by decide +kernel
theorem dL_net_61 : decode cL_net 61 = .ok (.invokestatic 165, 3) := by decide +kernel
theorem dL_net_64 : decode cL_net 64 = .ok (.istore 8, 2) := by decide +kernel
theorem dL_net_66 : decode cL_net 66 = .ok (.aload_n 2, 1) := by decide +kernel
theorem dL_net_67 : decode cL_net 67 = .ok (.iload 6, 2) := by decide +kernel
theorem dL_net_69 : decode cL_net 69 = .ok (.iconst 2, 1) := by decide +kernel
theorem dL_net_70 : decode cL_net 70 = .ok (.if_icmp .ge 8, 3) := by decide +kernel
theorem dL_net_73 : decode cL_net 73 = .ok (.bipush 22, 2) := by decide +kernel
theorem dL_net_75 : decode cL_net 75 = .ok (.goto 38, 3) := by decide +kernel
theorem dL_net_78 : decode cL_net 78 = .ok (.iload 6, 2) := by decide +kernel
theorem dL_net_80 : decode cL_net 80 = .ok (.bipush 6, 2) := by decide +kernel
theorem dL_net_82 : decode cL_net 82 = .ok (.if_icmp .ge 8, 3) := by decide +kernel
theorem dL_net_85 : decode cL_net 85 = .ok (.bipush 12, 2) := by decide +kernel
theorem dL_net_87 : decode cL_net 87 = .ok (.goto 26, 3) := by decide +kernel
theorem dL_net_90 : decode cL_net 90 = .ok (.iload 6, 2) := by decide +kernel
theorem dL_net_92 : decode cL_net 92 = .ok (.bipush 9, 2) := by decide +kernel
theorem dL_net_94 : decode cL_net 94 = .ok (.if_icmp .ge 7, 3) := by decide +kernel
theorem dL_net_97 : decode cL_net 97 = .ok (.iconst 0, 1) := by decide +kernel
theorem dL_net_98 : decode cL_net 98 = .ok (.goto 15, 3) := by decide +kernel
theorem dL_net_101 : decode cL_net 101 = .ok (.aload_n 0, 1) := by decide +kernel
theorem dL_net_102 : decode cL_net 102 = .ok (.iload_n 1, 1) := by decide +kernel
theorem dL_net_103 : decode cL_net 103 = .ok (.iconst 3, 1) := by decide +kernel
theorem dL_net_104 : decode cL_net 104 = .ok (.iload 6, 2) := by decide +kernel
theorem dL_net_106 : decode cL_net 106 = .ok (.imul, 1) := by decide +kernel
theorem dL_net_107 : decode cL_net 107 = .ok (.iadd, 1) := by decide +kernel
theorem dL_net_108 : decode cL_net 108 = .ok (.bipush 30, 2) := by decide +kernel
theorem dL_net_110 : decode cL_net 110 = .ok (.invokestatic 165, 3) := by decide +kernel
theorem dL_net_113 : decode cL_net 113 = .ok (.iload 7, 2) := by decide +kernel
theorem dL_net_115 : decode cL_net 115 = .ok (.iload 8, 2) := by decide +kernel
theorem dL_net_117 : decode cL_net 117 = .ok (.aload_n 3, 1) := by decide +kernel
theorem dL_net_118 : decode cL_net 118 = .ok (.aload 4, 2) := by decide +kernel
theorem dL_net_120 : decode cL_net 120 = .ok (.aload 5, 2) := by decide +kernel
theorem dL_net_122 : decode cL_net 122 = .ok (.invokestatic 169, 3) := by decide +kernel
theorem dL_net_125 : decode cL_net 125 = .ok (.ifCond .eq 15, 3) := by decide +kernel
theorem dL_net_128 : decode cL_net 128 = .ok (.aload_n 2, 1) := by decide +kernel
theorem dL_net_129 : decode cL_net 129 = .ok (.aload_n 3, 1) := by decide +kernel
theorem dL_net_130 : decode cL_net 130 = .ok (.aload 4, 2) := by decide +kernel
theorem dL_net_132 : decode cL_net 132 = .ok (.aload 5, 2) := by decide +kernel
theorem dL_net_134 : decode cL_net 134 = .ok (.invokestatic 172, 3) := by decide +kernel
theorem dL_net_137 : decode cL_net 137 = .ok (.ifCond .ne 5, 3) := by decide +kernel
theorem dL_net_140 : decode cL_net 140 = .ok (.iconst 0, 1) := by decide +kernel
theorem dL_net_141 : decode cL_net 141 = .ok (.ireturn, 1) := by decide +kernel
theorem dL_net_142 : decode cL_net 142 = .ok (.iload 6, 2) := by decide +kernel
theorem dL_net_144 : decode cL_net 144 = .ok (.iconst 3, 1) := by decide +kernel
theorem dL_net_145 : decode cL_net 145 = .ok (.irem, 1) := by decide +kernel
theorem dL_net_146 : decode cL_net 146 = .ok (.iconst 2, 1) := by decide +kernel
theorem dL_net_147 : decode cL_net 147 = .ok (.if_icmp .ne 12, 3) := by decide +kernel
theorem dL_net_150 : decode cL_net 150 = .ok (.aload_n 2, 1) := by decide +kernel
theorem dL_net_151 : decode cL_net 151 = .ok (.aload 5, 2) := by decide +kernel
theorem dL_net_153 : decode cL_net 153 = .ok (.invokestatic 176, 3) := by decide +kernel
theorem dL_net_156 : decode cL_net 156 = .ok (.ifCond .eq 53, 3) := by decide +kernel
theorem dL_net_159 : decode cL_net 159 = .ok (.iload 6, 2) := by decide +kernel
theorem dL_net_161 : decode cL_net 161 = .ok (.iconst 5, 1) := by decide +kernel
theorem dL_net_162 : decode cL_net 162 = .ok (.irem, 1) := by decide +kernel
theorem dL_net_163 : decode cL_net 163 = .ok (.iconst 4, 1) := by decide +kernel
theorem dL_net_164 : decode cL_net 164 = .ok (.if_icmp .ne 13, 3) := by decide +kernel
theorem dL_net_167 : decode cL_net 167 = .ok (.aload_n 2, 1) := by decide +kernel
theorem dL_net_168 : decode cL_net 168 = .ok (.aload_n 3, 1) := by decide +kernel
theorem dL_net_169 : decode cL_net 169 = .ok (.aload 5, 2) := by decide +kernel
theorem dL_net_171 : decode cL_net 171 = .ok (.invokestatic 180, 3) := by decide +kernel
theorem dL_net_174 : decode cL_net 174 = .ok (.ifCond .eq 35, 3) := by decide +kernel
theorem dL_net_177 : decode cL_net 177 = .ok (.iload 6, 2) := by decide +kernel
theorem dL_net_179 : decode cL_net 179 = .ok (.iconst 4, 1) := by decide +kernel
theorem dL_net_180 : decode cL_net 180 = .ok (.irem, 1) := by decide +kernel
theorem dL_net_181 : decode cL_net 181 = .ok (.iconst 3, 1) := by decide +kernel
theorem dL_net_182 : decode cL_net 182 = .ok (.if_icmp .ne 29, 3) := by decide +kernel
theorem dL_net_185 : decode cL_net 185 = .ok (.aload 5, 2) := by decide +kernel
theorem dL_net_187 : decode cL_net 187 = .ok (.iconst 2, 1) := by decide +kernel
theorem dL_net_188 : decode cL_net 188 = .ok (.iaload, 1) := by decide +kernel
theorem dL_net_189 : decode cL_net 189 = .ok (.ifCond .le 22, 3) := by decide +kernel
theorem dL_net_192 : decode cL_net 192 = .ok (.aload_n 2, 1) := by decide +kernel
theorem dL_net_193 : decode cL_net 193 = .ok (.iload 8, 2) := by decide +kernel
theorem dL_net_195 : decode cL_net 195 = .ok (.iconst 5, 1) := by decide +kernel
theorem dL_net_196 : decode cL_net 196 = .ok (.idiv, 1) := by decide +kernel
theorem dL_net_197 : decode cL_net 197 = .ok (.aload 5, 2) := by decide +kernel
theorem dL_net_199 : decode cL_net 199 = .ok (.iconst 2, 1) := by decide +kernel
theorem dL_net_200 : decode cL_net 200 = .ok (.iaload, 1) := by decide +kernel
theorem dL_net_201 : decode cL_net 201 = .ok (.irem, 1) := by decide +kernel
theorem dL_net_202 : decode cL_net 202 = .ok (.aload_n 3, 1) := by decide +kernel
theorem dL_net_203 : decode cL_net 203 = .ok (.invokestatic 184, 3) := by decide +kernel
theorem dL_net_206 : decode cL_net 206 = .ok (.ifCond .ne 5, 3) := by decide +kernel
theorem dL_net_209 : decode cL_net 209 = .ok (.iconst 0, 1) := by decide +kernel
theorem dL_net_210 : decode cL_net 210 = .ok (.ireturn, 1) := by decide +kernel
theorem dL_net_211 : decode cL_net 211 = .ok (.iinc 6 1, 3) := by decide +kernel
theorem dL_net_214 : decode cL_net 214 = .ok (.goto (-187), 3) := by decide +kernel
theorem dL_net_217 : decode cL_net 217 = .ok (.aload_n 2, 1) := by decide +kernel
theorem dL_net_218 : decode cL_net 218 = .ok (.aload 5, 2) := by decide +kernel
theorem dL_net_220 : decode cL_net 220 = .ok (.invokestatic 176, 3) := by decide +kernel
theorem dL_net_223 : decode cL_net 223 = .ok (.ifCond .eq 17, 3) := by decide +kernel
theorem dL_net_226 : decode cL_net 226 = .ok (.aload_n 2, 1) := by decide +kernel
theorem dL_net_227 : decode cL_net 227 = .ok (.aload_n 3, 1) := by decide +kernel
theorem dL_net_228 : decode cL_net 228 = .ok (.aload 5, 2) := by decide +kernel
theorem dL_net_230 : decode cL_net 230 = .ok (.invokestatic 180, 3) := by decide +kernel
theorem dL_net_233 : decode cL_net 233 = .ok (.ifCond .eq 7, 3) := by decide +kernel
theorem dL_net_236 : decode cL_net 236 = .ok (.iconst 1, 1) := by decide +kernel
theorem dL_net_237 : decode cL_net 237 = .ok (.goto 4, 3) := by decide +kernel
theorem dL_net_240 : decode cL_net 240 = .ok (.iconst 0, 1) := by decide +kernel
theorem dL_net_241 : decode cL_net 241 = .ok (.ireturn, 1) := by decide +kernel
theorem dL_law_0 : decode cL_law 0 = .ok (.aload_n 0, 1) := by decide +kernel
theorem dL_law_1 : decode cL_law 1 = .ok (.iconst 0, 1) := by decide +kernel
theorem dL_law_2 : decode cL_law 2 = .ok (.invokestatic 187, 3) := by decide +kernel
theorem dL_law_5 : decode cL_law 5 = .ok (.ifCond .eq 27, 3) := by decide +kernel
theorem dL_law_8 : decode cL_law 8 = .ok (.aload_n 0, 1) := by decide +kernel
theorem dL_law_9 : decode cL_law 9 = .ok (.sipush 245, 3) := by decide +kernel
theorem dL_law_12 : decode cL_law 12 = .ok (.invokestatic 187, 3) := by decide +kernel
theorem dL_law_15 : decode cL_law 15 = .ok (.ifCond .eq 17, 3) := by decide +kernel
theorem dL_law_18 : decode cL_law 18 = .ok (.aload_n 0, 1) := by decide +kernel
theorem dL_law_19 : decode cL_law 19 = .ok (.sipush 490, 3) := by decide +kernel
theorem dL_law_22 : decode cL_law 22 = .ok (.invokestatic 187, 3) := by decide +kernel
theorem dL_law_25 : decode cL_law 25 = .ok (.ifCond .eq 7, 3) := by decide +kernel
theorem dL_law_28 : decode cL_law 28 = .ok (.iconst 1, 1) := by decide +kernel
theorem dL_law_29 : decode cL_law 29 = .ok (.goto 4, 3) := by decide +kernel
theorem dL_law_32 : decode cL_law 32 = .ok (.iconst 0, 1) := by decide +kernel
theorem dL_law_33 : decode cL_law 33 = .ok (.ireturn, 1) := by decide +kernel
