theorem g_1 : Cond.initialized RX11 ∈ gT := gT_t 1 (by decide +kernel) rfl
theorem g_100 : Cond.fieldLink RX6 51 "MeshBiller$RateStep" "rate" "I" ∈ gT := gT_t 102 (by decide +kernel) rfl
theorem g_1011 : Cond.methodLink RX11 422 yX9_findBundle ∈ gT := gT_t 588 (by decide +kernel) rfl
theorem g_1012 : Cond.instanceMethod yX9_findBundle ∈ gT := gT_t 589 (by decide +kernel) rfl
theorem g_1013 : Cond.selects RX9 yX9_findBundle yX9_findBundle ∈ gT := gT_t 590 (by decide +kernel) rfl
theorem g_1014 : Cond.code yX9_findBundle cX9_findBundle 5 (some (.object "MeshBiller$Bundle")) ∈ gT := gT_t 591 (by decide +kernel) rfl
theorem g_1015 : Cond.methodLink RX9 44 yX0_isFor ∈ gT := gT_t 608 (by decide +kernel) rfl
theorem g_1016 : Cond.instanceMethod yX0_isFor ∈ gT := gT_t 609 (by decide +kernel) rfl
theorem g_1017 : Cond.selects RX0 yX0_isFor yX0_isFor ∈ gT := gT_t 610 (by decide +kernel) rfl
theorem g_1018 : Cond.code yX0_isFor cX0_isFor 2 (some .boolean) ∈ gT := gT_t 611 (by decide +kernel) rfl
theorem g_1019 : Cond.methodLink RX9 48 yX0_isOver ∈ gT := gT_t 612 (by decide +kernel) rfl
theorem g_1020 : Cond.methodLink RX11 372 Lib.Math.min.name ∈ gT := gT_t 616 (by decide +kernel) rfl
theorem g_1021 : Cond.methodLink RX11 426 yX8_takeFromBundle ∈ gT := gT_t 617 (by decide +kernel) rfl
theorem g_1022 : Cond.instanceMethod yX8_takeFromBundle ∈ gT := gT_t 618 (by decide +kernel) rfl
theorem g_1023 : Cond.selects RX8 yX8_takeFromBundle yX8_takeFromBundle ∈ gT := gT_t 619 (by decide +kernel) rfl
theorem g_1024 : Cond.code yX8_takeFromBundle cX8_takeFromBundle 3 none ∈ gT := gT_t 620 (by decide +kernel) rfl
theorem g_1025 : Cond.methodLink RX11 284 yX11_rateNow ∈ gT := gT_t 621 (by decide +kernel) rfl
theorem g_1027 : Cond.instanceMethod yX11_rateNow ∈ gT := gT_t 623 (by decide +kernel) rfl
theorem g_1028 : Cond.code yX11_rateNow cX11_rateNow 2 (some .int) ∈ gT := gT_t 624 (by decide +kernel) rfl
theorem g_1029 : Cond.methodLink RX11 363 yX11_isPeakAt ∈ gT := gT_t 625 (by decide +kernel) rfl
theorem g_1030 : Cond.static yX11_isPeakAt ∈ gT := gT_t 626 (by decide +kernel) rfl
theorem g_1031 : Cond.code yX11_isPeakAt cX11_isPeakAt 2 (some .boolean) ∈ gT := gT_t 627 (by decide +kernel) rfl
theorem g_1032 : Cond.methodLink RX11 430 yX5_mostByCap ∈ gT := gT_t 632 (by decide +kernel) rfl
theorem g_1033 : Cond.instanceMethod yX5_mostByCap ∈ gT := gT_t 633 (by decide +kernel) rfl
theorem g_1034 : Cond.selects RX5 yX5_mostByCap yX5_mostByCap ∈ gT := gT_t 634 (by decide +kernel) rfl
theorem g_1035 : Cond.code yX5_mostByCap cX5_mostByCap 2 (some .int) ∈ gT := gT_t 635 (by decide +kernel) rfl
theorem g_1036 : Jvm.Cond.constant RX5 36 100000 ∈ gT := gT_t 636 (by decide +kernel) rfl
theorem g_1037 : Cond.methodLink RX11 433 yX11_raiseMoney ∈ gT := gT_t 637 (by decide +kernel) rfl
theorem g_1039 : Cond.instanceMethod yX11_raiseMoney ∈ gT := gT_t 639 (by decide +kernel) rfl
theorem g_1040 : Cond.code yX11_raiseMoney cX11_raiseMoney 6 none ∈ gT := gT_t 640 (by decide +kernel) rfl
theorem g_1041 : Cond.methodLink RX11 439 yX11_findRichestOther ∈ gT := gT_t 641 (by decide +kernel) rfl
theorem g_1043 : Cond.instanceMethod yX11_findRichestOther ∈ gT := gT_t 643 (by decide +kernel) rfl
theorem g_1044 : Cond.code yX11_findRichestOther cX11_findRichestOther 9 (some (.object "MeshBiller$Leg")) ∈ gT := gT_t 644 (by decide +kernel) rfl
theorem g_1045 : Cond.methodLink RX11 436 yX8_takeFromMoney ∈ gT := gT_t 649 (by decide +kernel) rfl
theorem g_1046 : Cond.instanceMethod yX8_takeFromMoney ∈ gT := gT_t 650 (by decide +kernel) rfl
theorem g_1047 : Cond.selects RX8 yX8_takeFromMoney yX8_takeFromMoney ∈ gT := gT_t 651 (by decide +kernel) rfl
theorem g_1048 : Cond.code yX8_takeFromMoney cX8_takeFromMoney 3 none ∈ gT := gT_t 652 (by decide +kernel) rfl
theorem g_1069 : Cond.methodLink RX1 26 yJx4a65c_size_8abf5 ∈ gT := gT_t 674 (by decide +kernel) rfl
theorem g_1070 : Cond.methodLink RX1 30 yJx4a65c_get_915e3 ∈ gT := gT_t 675 (by decide +kernel) rfl
theorem g_1071 : Cond.classLink RX1 34 "MeshBiller$Leg" ∈ gT := gT_t 676 (by decide +kernel) rfl
theorem g_1079 : Cond.methodLink RX11 247 yX11_callAt ∈ gT := gT_t 681 (by decide +kernel) rfl
theorem g_1081 : Cond.instanceMethod yX11_callAt ∈ gT := gT_t 683 (by decide +kernel) rfl
theorem g_1082 : Cond.code yX11_callAt cX11_callAt 2 (some (.object "MeshBiller$Call")) ∈ gT := gT_t 684 (by decide +kernel) rfl
theorem g_1084 : Cond.methodLink RX11 251 yX1_countParties ∈ gT := gT_t 687 (by decide +kernel) rfl
theorem g_1085 : Cond.instanceMethod yX1_countParties ∈ gT := gT_t 688 (by decide +kernel) rfl
theorem g_1086 : Cond.selects RX1 yX1_countParties yX1_countParties ∈ gT := gT_t 689 (by decide +kernel) rfl
theorem g_1087 : Cond.code yX1_countParties cX1_countParties 3 (some .int) ∈ gT := gT_t 690 (by decide +kernel) rfl
theorem g_1109 : Cond.methodLink RX2 25 Lib.Math.abs.name ∈ gT := gT_t 795 (by decide +kernel) rfl
theorem g_1110 : Cond.static Lib.Math.abs.name ∈ gT := gT_t 796 (by decide +kernel) rfl
theorem g_1111 : Cond.code Lib.Math.abs.name Lib.Math.abs.code 1 (some .int) ∈ gT := gT_t 797 (by decide +kernel) rfl
theorem g_1133 : Cond.methodLink RX11 418 yX0_isFor ∈ gT := gT_t 752 (by decide +kernel) rfl
theorem g_1138 : Cond.methodLink RX4 88 yX5_addCost ∈ gT := gT_t 757 (by decide +kernel) rfl
theorem g_1139 : Cond.instanceMethod yX5_addCost ∈ gT := gT_t 758 (by decide +kernel) rfl
theorem g_1140 : Cond.selects RX5 yX5_addCost yX5_addCost ∈ gT := gT_t 759 (by decide +kernel) rfl
theorem g_1141 : Cond.code yX5_addCost cX5_addCost 3 none ∈ gT := gT_t 760 (by decide +kernel) rfl
theorem g_1184 : Cond.methodLink RX11 289 yX11_legAt ∈ gT := gT_t 779 (by decide +kernel) rfl
theorem g_1186 : Cond.instanceMethod yX11_legAt ∈ gT := gT_t 781 (by decide +kernel) rfl
theorem g_1187 : Cond.code yX11_legAt cX11_legAt 2 (some (.object "MeshBiller$Leg")) ∈ gT := gT_t 782 (by decide +kernel) rfl
theorem g_1217 : Cond.classLink RX11 305 "MeshBiller$Event" ∈ gT := gT_t 925 (by decide +kernel) rfl
theorem g_1218 : Cond.methodLink RX11 312 yX11_costOfStay ∈ gT := gT_t 926 (by decide +kernel) rfl
theorem g_1219 : Cond.static yX11_costOfStay ∈ gT := gT_t 927 (by decide +kernel) rfl
theorem g_1220 : Cond.code yX11_costOfStay cX11_costOfStay 7 (some .int) ∈ gT := gT_t 928 (by decide +kernel) rfl
theorem g_1221 : Cond.methodLink RX11 366 Lib.Math.max.name ∈ gT := gT_t 929 (by decide +kernel) rfl
theorem g_1222 : Cond.methodLink RX11 375 yX6_costOf ∈ gT := gT_t 930 (by decide +kernel) rfl
theorem g_1223 : Cond.instanceMethod yX6_costOf ∈ gT := gT_t 931 (by decide +kernel) rfl
theorem g_1224 : Cond.selects RX6 yX6_costOf yX6_costOf ∈ gT := gT_t 932 (by decide +kernel) rfl
theorem g_1225 : Cond.code yX6_costOf cX6_costOf 8 (some .int) ∈ gT := gT_t 933 (by decide +kernel) rfl
theorem g_1226 : Cond.methodLink RX6 35 yJx4a65c_get_915e3 ∈ gT := gT_t 934 (by decide +kernel) rfl
theorem g_1227 : Cond.methodLink RX6 42 Lib.Math.max.name ∈ gT := gT_t 935 (by decide +kernel) rfl
theorem g_1228 : Cond.methodLink RX6 48 Lib.Math.min.name ∈ gT := gT_t 936 (by decide +kernel) rfl
theorem g_1243 : Cond.methodLink RX11 320 yX4_computeSeal ∈ gT := gT_t 912 (by decide +kernel) rfl
theorem g_1244 : Cond.instanceMethod yX4_computeSeal ∈ gT := gT_t 913 (by decide +kernel) rfl
theorem g_1245 : Cond.selects RX4 yX4_computeSeal yX4_computeSeal ∈ gT := gT_t 914 (by decide +kernel) rfl
theorem g_1246 : Cond.code yX4_computeSeal cX4_computeSeal 4 (some .int) ∈ gT := gT_t 915 (by decide +kernel) rfl
theorem g_1247 : Cond.methodLink RX4 92 yJx4a65c_get_915e3 ∈ gT := gT_t 916 (by decide +kernel) rfl
theorem g_13 : Cond.initialized RX9 ∈ gT := gT_t 13 (by decide +kernel) rfl
theorem g_14 : Cond.initialized RX5 ∈ gT := gT_t 14 (by decide +kernel) rfl
theorem g_172 : Cond.fieldLink RX6 12 "MeshBiller$RateHistory" "steps" "Ljava/util/ArrayList;" ∈ gT := gT_t 172 (by decide +kernel) rfl
theorem g_174 : Cond.fieldLink RX11 112 "MeshBiller$RateHistory" "latest" "I" ∈ gT := gT_t 174 (by decide +kernel) rfl
theorem g_181 : Cond.fieldLink RX0 22 "MeshBiller$Zone" "number" "I" ∈ gT := gT_t 181 (by decide +kernel) rfl
theorem g_182 : Cond.fieldLink RX11 91 "MeshBiller$Zone" "number" "I" ∈ gT := gT_t 182 (by decide +kernel) rfl
theorem g_183 : Cond.fieldLink RX10 18 "MeshBiller$Zone" "peak" "LMeshBiller$RateHistory;" ∈ gT := gT_t 183 (by decide +kernel) rfl
theorem g_184 : Cond.fieldLink RX10 22 "MeshBiller$Zone" "offPeak" "LMeshBiller$RateHistory;" ∈ gT := gT_t 184 (by decide +kernel) rfl
theorem g_19 : Cond.initialized "java/lang/IndexOutOfBoundsException" ∈ gT := gT_t 18 (by decide +kernel) rfl
theorem g_197 : Cond.fieldLink RX2 18 "MeshBiller$Cell" "number" "I" ∈ gT := gT_t 197 (by decide +kernel) rfl
theorem g_198 : Cond.fieldLink RX4 106 "MeshBiller$Cell" "number" "I" ∈ gT := gT_t 198 (by decide +kernel) rfl
theorem g_199 : Cond.fieldLink RX11 283 "MeshBiller$Cell" "number" "I" ∈ gT := gT_t 199 (by decide +kernel) rfl
theorem g_20 : Cond.initialized "java/lang/IllegalArgumentException" ∈ gT := gT_t 19 (by decide +kernel) rfl
theorem g_201 : Cond.fieldLink RX11 87 "MeshBiller$Cell" "zone" "LMeshBiller$Zone;" ∈ gT := gT_t 201 (by decide +kernel) rfl
theorem g_203 : Cond.fieldLink RX11 96 "MeshBiller$Cell" "channels" "I" ∈ gT := gT_t 203 (by decide +kernel) rfl
theorem g_205 : Cond.fieldLink RX11 99 "MeshBiller$Cell" "guarded" "I" ∈ gT := gT_t 205 (by decide +kernel) rfl
theorem g_21 : Cond.initialized "java/lang/IllegalStateException" ∈ gT := gT_t 20 (by decide +kernel) rfl
theorem g_22 : Cond.initialized RX0 ∈ gT := gT_t 27 (by decide +kernel) rfl
theorem g_223 : Cond.fieldLink RX11 147 "MeshBiller$Wallet" "number" "I" ∈ gT := gT_t 223 (by decide +kernel) rfl
theorem g_224 : Cond.fieldLink RX9 10 "MeshBiller$Wallet" "bundles" "Ljava/util/ArrayList;" ∈ gT := gT_t 224 (by decide +kernel) rfl
theorem g_226 : Cond.fieldLink RX11 150 "MeshBiller$Wallet" "money" "I" ∈ gT := gT_t 226 (by decide +kernel) rfl
theorem g_228 : Cond.fieldLink RX4 83 "MeshBiller$Wallet" "chargedSoFar" "I" ∈ gT := gT_t 228 (by decide +kernel) rfl
theorem g_229 : Cond.fieldLink RX11 196 "MeshBiller$Wallet" "chargedSoFar" "I" ∈ gT := gT_t 229 (by decide +kernel) rfl
theorem g_245 : Cond.fieldLink RX4 56 "MeshBiller$Phone" "number" "I" ∈ gT := gT_t 245 (by decide +kernel) rfl
theorem g_248 : Cond.fieldLink RX11 219 "MeshBiller$Phone" "cell" "LMeshBiller$Cell;" ∈ gT := gT_t 248 (by decide +kernel) rfl
theorem g_250 : Cond.fieldLink RX11 143 "MeshBiller$Phone" "wallet" "LMeshBiller$Wallet;" ∈ gT := gT_t 250 (by decide +kernel) rfl
theorem g_251 : Cond.fieldLink RX5 9 "MeshBiller$Phone" "cap" "I" ∈ gT := gT_t 251 (by decide +kernel) rfl
theorem g_252 : Cond.fieldLink RX11 130 "MeshBiller$Phone" "cap" "I" ∈ gT := gT_t 252 (by decide +kernel) rfl
theorem g_254 : Cond.fieldLink RX11 137 "MeshBiller$Phone" "leg" "LMeshBiller$Leg;" ∈ gT := gT_t 254 (by decide +kernel) rfl
theorem g_255 : Cond.fieldLink RX5 19 "MeshBiller$Phone" "costDay" "I" ∈ gT := gT_t 255 (by decide +kernel) rfl
theorem g_256 : Cond.fieldLink RX5 22 "MeshBiller$Phone" "costOfDay" "I" ∈ gT := gT_t 256 (by decide +kernel) rfl
theorem g_272 : Cond.fieldLink RX11 11 "MeshBiller" "zones" "[LMeshBiller$Zone;" ∈ gT := gT_t 272 (by decide +kernel) rfl
theorem g_273 : Cond.fieldLink RX11 17 "MeshBiller" "cells" "[LMeshBiller$Cell;" ∈ gT := gT_t 273 (by decide +kernel) rfl
theorem g_274 : Cond.fieldLink RX11 23 "MeshBiller" "wallets" "[LMeshBiller$Wallet;" ∈ gT := gT_t 274 (by decide +kernel) rfl
theorem g_275 : Cond.fieldLink RX11 29 "MeshBiller" "phones" "[LMeshBiller$Phone;" ∈ gT := gT_t 275 (by decide +kernel) rfl
theorem g_276 : Cond.fieldLink RX11 36 "MeshBiller" "allBundles" "Ljava/util/ArrayList;" ∈ gT := gT_t 276 (by decide +kernel) rfl
theorem g_277 : Cond.fieldLink RX11 40 "MeshBiller" "allCalls" "Ljava/util/ArrayList;" ∈ gT := gT_t 277 (by decide +kernel) rfl
theorem g_278 : Cond.fieldLink RX11 43 "MeshBiller" "allLegs" "Ljava/util/ArrayList;" ∈ gT := gT_t 278 (by decide +kernel) rfl
theorem g_279 : Cond.fieldLink RX11 46 "MeshBiller" "sliceLength" "I" ∈ gT := gT_t 279 (by decide +kernel) rfl
theorem g_280 : Cond.fieldLink RX11 50 "MeshBiller" "second" "I" ∈ gT := gT_t 280 (by decide +kernel) rfl
theorem g_308 : Cond.methodLink RX11 159 yJx4a65c_size_8abf5 ∈ gT := gT_t 440 (by decide +kernel) rfl
theorem g_309 : Cond.instanceMethod yJx4a65c_size_8abf5 ∈ gT := gT_t 441 (by decide +kernel) rfl
theorem g_310 : Cond.selects RJx4a65c yJx4a65c_size_8abf5 yJx4a65c_size_8abf5 ∈ gT := gT_t 442 (by decide +kernel) rfl
theorem g_311 : Cond.code yJx4a65c_size_8abf5 cJx4a65c_size_8abf5 1 (some .int) ∈ gT := gT_t 443 (by decide +kernel) rfl
theorem g_32 : Cond.initialized RX1 ∈ gT := gT_t 21 (by decide +kernel) rfl
theorem g_322 : Cond.methodLink RX11 63 yX11_cellAt ∈ gT := gT_t 722 (by decide +kernel) rfl
theorem g_324 : Cond.instanceMethod yX11_cellAt ∈ gT := gT_t 724 (by decide +kernel) rfl
theorem g_325 : Cond.code yX11_cellAt cX11_cellAt 2 (some (.object "MeshBiller$Cell")) ∈ gT := gT_t 725 (by decide +kernel) rfl
theorem g_326 : Cond.classLink RX11 199 "java/lang/IndexOutOfBoundsException" ∈ gT := gT_t 321 (by decide +kernel) rfl
theorem g_33 : Cond.initialized RX4 ∈ gT := gT_t 22 (by decide +kernel) rfl
theorem g_34 : Cond.initialized RX8 ∈ gT := gT_t 23 (by decide +kernel) rfl
theorem g_394 : Cond.methodLink RX11 67 yX11_isOutside ∈ gT := gT_t 708 (by decide +kernel) rfl
theorem g_395 : Cond.static yX11_isOutside ∈ gT := gT_t 709 (by decide +kernel) rfl
theorem g_396 : Cond.code yX11_isOutside cX11_isOutside 3 (some .boolean) ∈ gT := gT_t 710 (by decide +kernel) rfl
theorem g_397 : Cond.classLink RX11 71 "java/lang/IllegalArgumentException" ∈ gT := gT_t 399 (by decide +kernel) rfl
theorem g_413 : Cond.methodLink RX11 78 yJx4a65c_isEmpty_aae02 ∈ gT := gT_t 728 (by decide +kernel) rfl
theorem g_414 : Cond.instanceMethod yJx4a65c_isEmpty_aae02 ∈ gT := gT_t 729 (by decide +kernel) rfl
theorem g_415 : Cond.selects RJx4a65c yJx4a65c_isEmpty_aae02 yJx4a65c_isEmpty_aae02 ∈ gT := gT_t 730 (by decide +kernel) rfl
theorem g_416 : Cond.code yJx4a65c_isEmpty_aae02 cJx4a65c_isEmpty_aae02 1 (some .boolean) ∈ gT := gT_t 731 (by decide +kernel) rfl
theorem g_417 : Cond.classLink RX11 82 "java/lang/IllegalStateException" ∈ gT := gT_t 415 (by decide +kernel) rfl
theorem g_441 : Cond.methodLink RX11 102 yX11_legsIn ∈ gT := gT_t 435 (by decide +kernel) rfl
theorem g_443 : Cond.instanceMethod yX11_legsIn ∈ gT := gT_t 437 (by decide +kernel) rfl
theorem g_444 : Cond.code yX11_legsIn cX11_legsIn 7 (some .int) ∈ gT := gT_t 438 (by decide +kernel) rfl
theorem g_453 : Cond.methodLink RX11 108 yX10_historyFor ∈ gT := gT_t 628 (by decide +kernel) rfl
theorem g_454 : Cond.instanceMethod yX10_historyFor ∈ gT := gT_t 629 (by decide +kernel) rfl
theorem g_455 : Cond.selects RX10 yX10_historyFor yX10_historyFor ∈ gT := gT_t 630 (by decide +kernel) rfl
theorem g_456 : Cond.code yX10_historyFor cX10_historyFor 2 (some (.object "MeshBiller$RateHistory")) ∈ gT := gT_t 631 (by decide +kernel) rfl
theorem g_461 : Cond.methodLink RX6 31 yJx4a65c_size_8abf5 ∈ gT := gT_t 875 (by decide +kernel) rfl
theorem g_477 : Cond.methodLink RX11 123 yX11_phoneAt ∈ gT := gT_t 317 (by decide +kernel) rfl
theorem g_479 : Cond.instanceMethod yX11_phoneAt ∈ gT := gT_t 319 (by decide +kernel) rfl
theorem g_480 : Cond.code yX11_phoneAt cX11_phoneAt 2 (some (.object "MeshBiller$Phone")) ∈ gT := gT_t 320 (by decide +kernel) rfl
theorem g_482 : Jvm.Cond.constant RX11 127 1000000 ∈ gT := gT_t 707 (by decide +kernel) rfl
theorem g_491 : Cond.methodLink RX11 133 yX11_walletAt ∈ gT := gT_t 702 (by decide +kernel) rfl
theorem g_493 : Cond.instanceMethod yX11_walletAt ∈ gT := gT_t 704 (by decide +kernel) rfl
theorem g_494 : Cond.code yX11_walletAt cX11_walletAt 2 (some (.object "MeshBiller$Wallet")) ∈ gT := gT_t 705 (by decide +kernel) rfl
theorem g_5 : Cond.initialized RX10 ∈ gT := gT_t 5 (by decide +kernel) rfl
theorem g_523 : Cond.classLink RX11 165 "MeshBiller$Bundle" ∈ gT := gT_t 819 (by decide +kernel) rfl
theorem g_525 : Cond.methodLink RX11 167 yX11_dayOf ∈ gT := gT_t 585 (by decide +kernel) rfl
theorem g_526 : Cond.static yX11_dayOf ∈ gT := gT_t 586 (by decide +kernel) rfl
theorem g_527 : Cond.code yX11_dayOf cX11_dayOf 1 (some .int) ∈ gT := gT_t 587 (by decide +kernel) rfl
theorem g_532 : Cond.fieldLink RX0 7 "MeshBiller$Bundle" "zoneBits" "I" ∈ gT := gT_t 825 (by decide +kernel) rfl
theorem g_533 : Cond.fieldLink RX0 16 "MeshBiller$Bundle" "overDay" "I" ∈ gT := gT_t 826 (by decide +kernel) rfl
theorem g_534 : Cond.fieldLink RX0 19 "MeshBiller$Bundle" "rank" "I" ∈ gT := gT_t 827 (by decide +kernel) rfl
theorem g_536 : Cond.fieldLink RX8 20 "MeshBiller$Bundle" "seconds" "I" ∈ gT := gT_t 829 (by decide +kernel) rfl
theorem g_537 : Cond.fieldLink RX9 52 "MeshBiller$Bundle" "seconds" "I" ∈ gT := gT_t 830 (by decide +kernel) rfl
theorem g_538 : Cond.fieldLink RX11 212 "MeshBiller$Bundle" "seconds" "I" ∈ gT := gT_t 831 (by decide +kernel) rfl
theorem g_552 : Cond.methodLink RX9 26 yJx4a65c_size_8abf5 ∈ gT := gT_t 592 (by decide +kernel) rfl
theorem g_553 : Cond.methodLink RX9 30 yJx4a65c_get_915e3 ∈ gT := gT_t 593 (by decide +kernel) rfl
theorem g_554 : Cond.instanceMethod yJx4a65c_get_915e3 ∈ gT := gT_t 594 (by decide +kernel) rfl
theorem g_555 : Cond.selects RJx4a65c yJx4a65c_get_915e3 yJx4a65c_get_915e3 ∈ gT := gT_t 595 (by decide +kernel) rfl
theorem g_556 : Cond.code yJx4a65c_get_915e3 cJx4a65c_get_915e3 2 (some (.object "java/lang/Object")) ∈ gT := gT_t 596 (by decide +kernel) rfl
theorem g_567 : Cond.classLink RX9 34 "MeshBiller$Bundle" ∈ gT := gT_t 607 (by decide +kernel) rfl
theorem g_6 : Cond.initialized RX6 ∈ gT := gT_t 6 (by decide +kernel) rfl
theorem g_833 : Cond.methodLink RX11 191 yX8_moneyLeft ∈ gT := gT_t 645 (by decide +kernel) rfl
theorem g_834 : Cond.instanceMethod yX8_moneyLeft ∈ gT := gT_t 646 (by decide +kernel) rfl
theorem g_835 : Cond.selects RX8 yX8_moneyLeft yX8_moneyLeft ∈ gT := gT_t 647 (by decide +kernel) rfl
theorem g_836 : Cond.code yX8_moneyLeft cX8_moneyLeft 1 (some .int) ∈ gT := gT_t 648 (by decide +kernel) rfl
theorem g_852 : Cond.methodLink RX11 204 yJx4a65c_get_915e3 ∈ gT := gT_t 686 (by decide +kernel) rfl
theorem g_853 : Cond.methodLink RX11 208 yX0_isOver ∈ gT := gT_t 665 (by decide +kernel) rfl
theorem g_854 : Cond.instanceMethod yX0_isOver ∈ gT := gT_t 613 (by decide +kernel) rfl
theorem g_855 : Cond.selects RX0 yX0_isOver yX0_isOver ∈ gT := gT_t 614 (by decide +kernel) rfl
theorem g_856 : Cond.code yX0_isOver cX0_isOver 2 (some .boolean) ∈ gT := gT_t 615 (by decide +kernel) rfl
theorem g_872 : Cond.classLink RX11 230 "MeshBiller$Call" ∈ gT := gT_t 445 (by decide +kernel) rfl
theorem g_881 : Cond.fieldLink RX11 246 "MeshBiller$Call" "number" "I" ∈ gT := gT_t 454 (by decide +kernel) rfl
theorem g_884 : Cond.fieldLink RX1 12 "MeshBiller$Call" "members" "Ljava/util/ArrayList;" ∈ gT := gT_t 457 (by decide +kernel) rfl
theorem g_885 : Cond.fieldLink RX11 323 "MeshBiller$Call" "members" "Ljava/util/ArrayList;" ∈ gT := gT_t 458 (by decide +kernel) rfl
theorem g_897 : Cond.classLink RX11 183 "MeshBiller$Leg" ∈ gT := gT_t 471 (by decide +kernel) rfl
theorem g_909 : Cond.fieldLink RX8 7 "MeshBiller$Slice" "seconds" "I" ∈ gT := gT_t 483 (by decide +kernel) rfl
theorem g_91 : Cond.classLink RX6 22 "MeshBiller$RateStep" ∈ gT := gT_t 93 (by decide +kernel) rfl
theorem g_910 : Cond.fieldLink RX4 76 "MeshBiller$Slice" "seconds" "I" ∈ gT := gT_t 484 (by decide +kernel) rfl
theorem g_911 : Cond.fieldLink RX11 288 "MeshBiller$Slice" "seconds" "I" ∈ gT := gT_t 485 (by decide +kernel) rfl
theorem g_912 : Cond.fieldLink RX8 13 "MeshBiller$Slice" "rate" "I" ∈ gT := gT_t 486 (by decide +kernel) rfl
theorem g_913 : Cond.fieldLink RX11 415 "MeshBiller$Slice" "rate" "I" ∈ gT := gT_t 487 (by decide +kernel) rfl
theorem g_914 : Cond.fieldLink RX8 16 "MeshBiller$Slice" "bundle" "LMeshBiller$Bundle;" ∈ gT := gT_t 488 (by decide +kernel) rfl
theorem g_915 : Cond.fieldLink RX4 79 "MeshBiller$Slice" "bundle" "LMeshBiller$Bundle;" ∈ gT := gT_t 489 (by decide +kernel) rfl
theorem g_916 : Cond.fieldLink RX11 411 "MeshBiller$Slice" "bundle" "LMeshBiller$Bundle;" ∈ gT := gT_t 490 (by decide +kernel) rfl
theorem g_927 : Cond.fieldLink RX11 258 "MeshBiller$Leg" "number" "I" ∈ gT := gT_t 501 (by decide +kernel) rfl
theorem g_928 : Cond.fieldLink RX4 41 "MeshBiller$Leg" "phone" "LMeshBiller$Phone;" ∈ gT := gT_t 502 (by decide +kernel) rfl
theorem g_929 : Cond.fieldLink RX11 335 "MeshBiller$Leg" "phone" "LMeshBiller$Phone;" ∈ gT := gT_t 503 (by decide +kernel) rfl
theorem g_932 : Cond.fieldLink RX4 49 "MeshBiller$Leg" "payer" "LMeshBiller$Wallet;" ∈ gT := gT_t 506 (by decide +kernel) rfl
theorem g_933 : Cond.fieldLink RX11 182 "MeshBiller$Leg" "payer" "LMeshBiller$Wallet;" ∈ gT := gT_t 507 (by decide +kernel) rfl
theorem g_934 : Cond.fieldLink RX4 53 "MeshBiller$Leg" "start" "I" ∈ gT := gT_t 508 (by decide +kernel) rfl
theorem g_935 : Cond.fieldLink RX4 12 "MeshBiller$Leg" "slice" "LMeshBiller$Slice;" ∈ gT := gT_t 509 (by decide +kernel) rfl
theorem g_936 : Cond.fieldLink RX11 187 "MeshBiller$Leg" "slice" "LMeshBiller$Slice;" ∈ gT := gT_t 510 (by decide +kernel) rfl
theorem g_937 : Cond.fieldLink RX4 21 "MeshBiller$Leg" "events" "Ljava/util/ArrayList;" ∈ gT := gT_t 511 (by decide +kernel) rfl
theorem g_938 : Cond.fieldLink RX11 302 "MeshBiller$Leg" "events" "Ljava/util/ArrayList;" ∈ gT := gT_t 512 (by decide +kernel) rfl
theorem g_940 : Cond.fieldLink RX1 36 "MeshBiller$Leg" "state" "I" ∈ gT := gT_t 514 (by decide +kernel) rfl
theorem g_941 : Cond.fieldLink RX11 243 "MeshBiller$Leg" "state" "I" ∈ gT := gT_t 515 (by decide +kernel) rfl
theorem g_942 : Cond.fieldLink RX4 29 "MeshBiller$Leg" "ratedSeconds" "I" ∈ gT := gT_t 516 (by decide +kernel) rfl
theorem g_943 : Cond.fieldLink RX11 293 "MeshBiller$Leg" "ratedSeconds" "I" ∈ gT := gT_t 517 (by decide +kernel) rfl
theorem g_944 : Cond.fieldLink RX4 32 "MeshBiller$Leg" "chargedMoney" "I" ∈ gT := gT_t 518 (by decide +kernel) rfl
theorem g_945 : Cond.fieldLink RX11 296 "MeshBiller$Leg" "chargedMoney" "I" ∈ gT := gT_t 519 (by decide +kernel) rfl
theorem g_946 : Cond.fieldLink RX4 35 "MeshBiller$Leg" "coveredMoney" "I" ∈ gT := gT_t 520 (by decide +kernel) rfl
theorem g_947 : Cond.fieldLink RX11 299 "MeshBiller$Leg" "coveredMoney" "I" ∈ gT := gT_t 521 (by decide +kernel) rfl
theorem g_948 : Cond.fieldLink RX4 59 "MeshBiller$Leg" "tagByte" "B" ∈ gT := gT_t 522 (by decide +kernel) rfl
theorem g_949 : Cond.fieldLink RX11 316 "MeshBiller$Leg" "tagByte" "B" ∈ gT := gT_t 523 (by decide +kernel) rfl
theorem g_979 : Cond.methodLink RX4 63 yJx4a65c_size_8abf5 ∈ gT := gT_t 553 (by decide +kernel) rfl
theorem g_98 : Cond.fieldLink RX6 39 "MeshBiller$RateStep" "since" "I" ∈ gT := gT_t 100 (by decide +kernel) rfl
theorem g_980 : Cond.classLink RX4 67 "MeshBiller$Event" ∈ gT := gT_t 554 (by decide +kernel) rfl
theorem g_987 : Cond.fieldLink RX4 99 "MeshBiller$Event" "kind" "I" ∈ gT := gT_t 561 (by decide +kernel) rfl
theorem g_988 : Cond.fieldLink RX11 307 "MeshBiller$Event" "kind" "I" ∈ gT := gT_t 562 (by decide +kernel) rfl
theorem g_990 : Cond.fieldLink RX4 96 "MeshBiller$Event" "second" "I" ∈ gT := gT_t 564 (by decide +kernel) rfl
theorem g_991 : Cond.fieldLink RX11 310 "MeshBiller$Event" "second" "I" ∈ gT := gT_t 565 (by decide +kernel) rfl
theorem g_993 : Cond.fieldLink RX4 102 "MeshBiller$Event" "cell" "LMeshBiller$Cell;" ∈ gT := gT_t 567 (by decide +kernel) rfl
theorem g_994 : Cond.fieldLink RX11 311 "MeshBiller$Event" "cell" "LMeshBiller$Cell;" ∈ gT := gT_t 568 (by decide +kernel) rfl
theorem gs_14 : Cond.selects RX11 yX11_rateNow yX11_rateNow ∈ gT := gT_s 10 (by decide +kernel) rfl
theorem gs_15 : Cond.selects RX11 yX11_raiseMoney yX11_raiseMoney ∈ gT := gT_s 11 (by decide +kernel) rfl
theorem gs_16 : Cond.selects RX11 yX11_findRichestOther yX11_findRichestOther ∈ gT := gT_s 12 (by decide +kernel) rfl
theorem gs_20 : Cond.selects RX11 yX11_callAt yX11_callAt ∈ gT := gT_s 16 (by decide +kernel) rfl
theorem gs_24 : Cond.selects RX11 yX11_legAt yX11_legAt ∈ gT := gT_s 22 (by decide +kernel) rfl
theorem gs_3 : Cond.selects RX11 yX11_cellAt yX11_cellAt ∈ gT := gT_s 18 (by decide +kernel) rfl
theorem gs_5 : Cond.selects RX11 yX11_legsIn yX11_legsIn ∈ gT := gT_s 6 (by decide +kernel) rfl
theorem gs_6 : Cond.selects RX11 yX11_phoneAt yX11_phoneAt ∈ gT := gT_s 3 (by decide +kernel) rfl
theorem gs_7 : Cond.selects RX11 yX11_walletAt yX11_walletAt ∈ gT := gT_s 17 (by decide +kernel) rfl
theorem hat_1 : (vx_atS "MeshBiller" 203 (exn 1) ["java/lang/RuntimeException", "java/lang/Exception"]).all (fun w => decide (w ∈ lw_tbl) && (goodWord w || (w.onTables && w.faceAtom))) = true := by decide +kernel
theorem hat_2 : (vx_atS "MeshBiller" 75 (exn 2) ["java/lang/RuntimeException", "java/lang/Exception"]).all (fun w => decide (w ∈ lw_tbl) && (goodWord w || (w.onTables && w.faceAtom))) = true := by decide +kernel
theorem hat_3 : (vx_atS "MeshBiller" 86 (exn 3) ["java/lang/RuntimeException", "java/lang/Exception"]).all (fun w => decide (w ∈ lw_tbl) && (goodWord w || (w.onTables && w.faceAtom))) = true := by decide +kernel
theorem hd_yJx4a65c_get_915e3 : yJx4a65c_get_915e3.cls = RJx4a65c ∧ yJx4a65c_get_915e3.cls ≠ "java/lang/invoke/MethodHandle" ∧ yJx4a65c_get_915e3.cls ≠ "java/lang/invoke/VarHandle" ∧ (parseMethodDescriptor yJx4a65c_get_915e3.desc).map (fun d => d.parameters.length) = some 1 := by decide +kernel
theorem hd_yJx4a65c_isEmpty_aae02 : yJx4a65c_isEmpty_aae02.cls = RJx4a65c ∧ yJx4a65c_isEmpty_aae02.cls ≠ "java/lang/invoke/MethodHandle" ∧ yJx4a65c_isEmpty_aae02.cls ≠ "java/lang/invoke/VarHandle" ∧ (parseMethodDescriptor yJx4a65c_isEmpty_aae02.desc).map (fun d => d.parameters.length) = some 0 := by decide +kernel
theorem hd_yJx4a65c_size_8abf5 : yJx4a65c_size_8abf5.cls = RJx4a65c ∧ yJx4a65c_size_8abf5.cls ≠ "java/lang/invoke/MethodHandle" ∧ yJx4a65c_size_8abf5.cls ≠ "java/lang/invoke/VarHandle" ∧ (parseMethodDescriptor yJx4a65c_size_8abf5.desc).map (fun d => d.parameters.length) = some 0 := by decide +kernel
theorem hd_yX0_isFor : yX0_isFor.cls = RX0 ∧ yX0_isFor.cls ≠ "java/lang/invoke/MethodHandle" ∧ yX0_isFor.cls ≠ "java/lang/invoke/VarHandle" ∧ (parseMethodDescriptor yX0_isFor.desc).map (fun d => d.parameters.length) = some 1 := by decide +kernel
theorem hd_yX0_isOver : yX0_isOver.cls = RX0 ∧ yX0_isOver.cls ≠ "java/lang/invoke/MethodHandle" ∧ yX0_isOver.cls ≠ "java/lang/invoke/VarHandle" ∧ (parseMethodDescriptor yX0_isOver.desc).map (fun d => d.parameters.length) = some 1 := by decide +kernel
theorem hd_yX10_historyFor : yX10_historyFor.cls = RX10 ∧ yX10_historyFor.cls ≠ "java/lang/invoke/MethodHandle" ∧ yX10_historyFor.cls ≠ "java/lang/invoke/VarHandle" ∧ (parseMethodDescriptor yX10_historyFor.desc).map (fun d => d.parameters.length) = some 1 := by decide +kernel
theorem hd_yX11_callAt : yX11_callAt.cls = RX11 ∧ yX11_callAt.cls ≠ "java/lang/invoke/MethodHandle" ∧ yX11_callAt.cls ≠ "java/lang/invoke/VarHandle" ∧ (parseMethodDescriptor yX11_callAt.desc).map (fun d => d.parameters.length) = some 1 := by decide +kernel
theorem hd_yX11_cellAt : yX11_cellAt.cls = RX11 ∧ yX11_cellAt.cls ≠ "java/lang/invoke/MethodHandle" ∧ yX11_cellAt.cls ≠ "java/lang/invoke/VarHandle" ∧ (parseMethodDescriptor yX11_cellAt.desc).map (fun d => d.parameters.length) = some 1 := by decide +kernel
theorem hd_yX11_costOfStay : yX11_costOfStay.cls = RX11 ∧ yX11_costOfStay.cls ≠ "java/lang/invoke/MethodHandle" ∧ yX11_costOfStay.cls ≠ "java/lang/invoke/VarHandle" ∧ (parseMethodDescriptor yX11_costOfStay.desc).map (fun d => d.parameters.length) = some 3 := by decide +kernel
theorem hd_yX11_dayOf : yX11_dayOf.cls = RX11 ∧ yX11_dayOf.cls ≠ "java/lang/invoke/MethodHandle" ∧ yX11_dayOf.cls ≠ "java/lang/invoke/VarHandle" ∧ (parseMethodDescriptor yX11_dayOf.desc).map (fun d => d.parameters.length) = some 1 := by decide +kernel
theorem hd_yX11_findRichestOther : yX11_findRichestOther.cls = RX11 ∧ yX11_findRichestOther.cls ≠ "java/lang/invoke/MethodHandle" ∧ yX11_findRichestOther.cls ≠ "java/lang/invoke/VarHandle" ∧ (parseMethodDescriptor yX11_findRichestOther.desc).map (fun d => d.parameters.length) = some 1 := by decide +kernel
theorem hd_yX11_isOutside : yX11_isOutside.cls = RX11 ∧ yX11_isOutside.cls ≠ "java/lang/invoke/MethodHandle" ∧ yX11_isOutside.cls ≠ "java/lang/invoke/VarHandle" ∧ (parseMethodDescriptor yX11_isOutside.desc).map (fun d => d.parameters.length) = some 3 := by decide +kernel
theorem hd_yX11_isPeakAt : yX11_isPeakAt.cls = RX11 ∧ yX11_isPeakAt.cls ≠ "java/lang/invoke/MethodHandle" ∧ yX11_isPeakAt.cls ≠ "java/lang/invoke/VarHandle" ∧ (parseMethodDescriptor yX11_isPeakAt.desc).map (fun d => d.parameters.length) = some 1 := by decide +kernel
theorem hd_yX11_legAt : yX11_legAt.cls = RX11 ∧ yX11_legAt.cls ≠ "java/lang/invoke/MethodHandle" ∧ yX11_legAt.cls ≠ "java/lang/invoke/VarHandle" ∧ (parseMethodDescriptor yX11_legAt.desc).map (fun d => d.parameters.length) = some 1 := by decide +kernel
theorem hd_yX11_legsIn : yX11_legsIn.cls = RX11 ∧ yX11_legsIn.cls ≠ "java/lang/invoke/MethodHandle" ∧ yX11_legsIn.cls ≠ "java/lang/invoke/VarHandle" ∧ (parseMethodDescriptor yX11_legsIn.desc).map (fun d => d.parameters.length) = some 1 := by decide +kernel
theorem hd_yX11_phoneAt : yX11_phoneAt.cls = RX11 ∧ yX11_phoneAt.cls ≠ "java/lang/invoke/MethodHandle" ∧ yX11_phoneAt.cls ≠ "java/lang/invoke/VarHandle" ∧ (parseMethodDescriptor yX11_phoneAt.desc).map (fun d => d.parameters.length) = some 1 := by decide +kernel
theorem hd_yX11_raiseMoney : yX11_raiseMoney.cls = RX11 ∧ yX11_raiseMoney.cls ≠ "java/lang/invoke/MethodHandle" ∧ yX11_raiseMoney.cls ≠ "java/lang/invoke/VarHandle" ∧ (parseMethodDescriptor yX11_raiseMoney.desc).map (fun d => d.parameters.length) = some 2 := by decide +kernel
theorem hd_yX11_rateNow : yX11_rateNow.cls = RX11 ∧ yX11_rateNow.cls ≠ "java/lang/invoke/MethodHandle" ∧ yX11_rateNow.cls ≠ "java/lang/invoke/VarHandle" ∧ (parseMethodDescriptor yX11_rateNow.desc).map (fun d => d.parameters.length) = some 1 := by decide +kernel
theorem hd_yX11_walletAt : yX11_walletAt.cls = RX11 ∧ yX11_walletAt.cls ≠ "java/lang/invoke/MethodHandle" ∧ yX11_walletAt.cls ≠ "java/lang/invoke/VarHandle" ∧ (parseMethodDescriptor yX11_walletAt.desc).map (fun d => d.parameters.length) = some 1 := by decide +kernel
theorem hd_yX1_countParties : yX1_countParties.cls = RX1 ∧ yX1_countParties.cls ≠ "java/lang/invoke/MethodHandle" ∧ yX1_countParties.cls ≠ "java/lang/invoke/VarHandle" ∧ (parseMethodDescriptor yX1_countParties.desc).map (fun d => d.parameters.length) = some 0 := by decide +kernel
theorem hd_yX4_computeSeal : yX4_computeSeal.cls = RX4 ∧ yX4_computeSeal.cls ≠ "java/lang/invoke/MethodHandle" ∧ yX4_computeSeal.cls ≠ "java/lang/invoke/VarHandle" ∧ (parseMethodDescriptor yX4_computeSeal.desc).map (fun d => d.parameters.length) = some 0 := by decide +kernel
theorem hd_yX5_addCost : yX5_addCost.cls = RX5 ∧ yX5_addCost.cls ≠ "java/lang/invoke/MethodHandle" ∧ yX5_addCost.cls ≠ "java/lang/invoke/VarHandle" ∧ (parseMethodDescriptor yX5_addCost.desc).map (fun d => d.parameters.length) = some 2 := by decide +kernel
theorem hd_yX5_mostByCap : yX5_mostByCap.cls = RX5 ∧ yX5_mostByCap.cls ≠ "java/lang/invoke/MethodHandle" ∧ yX5_mostByCap.cls ≠ "java/lang/invoke/VarHandle" ∧ (parseMethodDescriptor yX5_mostByCap.desc).map (fun d => d.parameters.length) = some 1 := by decide +kernel
theorem hd_yX6_costOf : yX6_costOf.cls = RX6 ∧ yX6_costOf.cls ≠ "java/lang/invoke/MethodHandle" ∧ yX6_costOf.cls ≠ "java/lang/invoke/VarHandle" ∧ (parseMethodDescriptor yX6_costOf.desc).map (fun d => d.parameters.length) = some 2 := by decide +kernel
theorem hd_yX8_moneyLeft : yX8_moneyLeft.cls = RX8 ∧ yX8_moneyLeft.cls ≠ "java/lang/invoke/MethodHandle" ∧ yX8_moneyLeft.cls ≠ "java/lang/invoke/VarHandle" ∧ (parseMethodDescriptor yX8_moneyLeft.desc).map (fun d => d.parameters.length) = some 0 := by decide +kernel
theorem hd_yX8_takeFromBundle : yX8_takeFromBundle.cls = RX8 ∧ yX8_takeFromBundle.cls ≠ "java/lang/invoke/MethodHandle" ∧ yX8_takeFromBundle.cls ≠ "java/lang/invoke/VarHandle" ∧ (parseMethodDescriptor yX8_takeFromBundle.desc).map (fun d => d.parameters.length) = some 2 := by decide +kernel
theorem hd_yX8_takeFromMoney : yX8_takeFromMoney.cls = RX8 ∧ yX8_takeFromMoney.cls ≠ "java/lang/invoke/MethodHandle" ∧ yX8_takeFromMoney.cls ≠ "java/lang/invoke/VarHandle" ∧ (parseMethodDescriptor yX8_takeFromMoney.desc).map (fun d => d.parameters.length) = some 2 := by decide +kernel
theorem hd_yX9_findBundle : yX9_findBundle.cls = RX9 ∧ yX9_findBundle.cls ≠ "java/lang/invoke/MethodHandle" ∧ yX9_findBundle.cls ≠ "java/lang/invoke/VarHandle" ∧ (parseMethodDescriptor yX9_findBundle.desc).map (fun d => d.parameters.length) = some 2 := by decide +kernel
theorem qn_nullv (f : Nat → Nat) : va_rf (qn f (-1)) = .null := by rw [qn_null]; rfl
theorem vp_of {i : Int32} {n k : Nat} (q : ¬ (i < 0 ∨ n ≤ i.toNatClampNeg)) (e : k = n) : vp_in i k := by rw [e]; exact q
theorem vp_eq {x : Int32} {n k : Nat} (h : vp_in x n) (e : n = k) : vp_in x k := by rw [← e]; exact h
theorem vp_his0 {N : Cnt} {x : Int32} (h : vp_in x (N 10)) (e : N 11 = 1 ∧ N 10 = 3 ∧ N 2 = 8 ∧ N 9 = 4 ∧ N 5 = 10 ∧ N 6 = 6) : vp_in (x + x) (N 6) ∧ (x + x).toNatClampNeg = 2 * x.toNatClampNeg := by
  rw [e.2.1] at h
  obtain ⟨j, hj, rfl⟩ := vp_in_of h (by decide)
  rw [show nI j + nI j = nI (2 * j) by rw [nI_add]; congr 1; omega, nI_clamp (by omega), nI_clamp (by omega), e.2.2.2.2.2]
  exact ⟨vp_in_nI (by omega) (by decide), rfl⟩
theorem vp_his1 {N : Cnt} {x : Int32} (h : vp_in x (N 10)) (e : N 11 = 1 ∧ N 10 = 3 ∧ N 2 = 8 ∧ N 9 = 4 ∧ N 5 = 10 ∧ N 6 = 6) : vp_in (x + x + 1) (N 6) ∧ (x + x + 1).toNatClampNeg = 2 * x.toNatClampNeg + 1 := by
  rw [e.2.1] at h
  obtain ⟨j, hj, rfl⟩ := vp_in_of h (by decide)
  rw [show nI j + nI j + 1 = nI (2 * j + 1) by rw [nI_add, show j + j = 2 * j by omega]; exact nI_add _ 1, nI_clamp (by omega), nI_clamp (by omega), e.2.2.2.2.2]
  exact ⟨vp_in_nI (by omega) (by decide), rfl⟩
theorem ex_list {N : Cnt} {k i : Nat} (h1 : Nat.ble 12 k = true) (h2 : Nat.ble (k + 1) 19 = true) (hi : i < N (ow k)) : ex N k i := ⟨by have := Nat.le_of_ble_eq_true h2; omega, hi⟩
theorem ex_obj {N : Cnt} {k i : Nat} (hk : Nat.ble (k + 1) 12 = true) (hi : i < N k) : ex N k i := ⟨by have := Nat.le_of_ble_eq_true hk; omega, by rw [ow_self (Nat.le_of_ble_eq_true hk)]; exact hi⟩
theorem axt.rf (N : Cnt) (ad : Adr) : axt N ad ad := fun _ _ _ _ => rfl
