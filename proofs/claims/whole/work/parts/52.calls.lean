/-! THE LAW: the calls, one by one -/
theorem lg_cmp_self (x : Int64) : lg_cmp x x = 0 := by simp [lg_cmp]
section LB
variable {p : Program} {l : Launch} {e : Env} {R : Room} {s : State} {m : MethodId} {args : Array Value} {below : List Frame} {meth : Method} {c : Code} {A : Nat → Prop} {G : Heap → Prop} {cells slots : Nat} {Q : State → Prop}
variable {cc : ByteArray} {own : String} {D : va_G} {dA : Nat → ClassId} {pc : Nat} {lo : List (Nat × Value)} {ll : List (Nat × Int64)} {rest : List Value}
theorem z_bool (X : zc p l s m args meth c cc own D dA A) {x : Int32} {o1 o2 : Int} (d0 : decode cc pc = .ok (.ifCond .eq o1, 3)) (d3 : decode cc (pc + 3) = .ok (.iconst 1, 1)) (d4 : decode cc (pc + 4) = .ok (.goto o2, 3)) (d7 : decode cc (pc + 7) = .ok (.iconst 0, 1)) (h1 : (pc : Int) + o1 = ((pc + 7 : Nat) : Int)) (h2 : ((pc + 4 : Nat) : Int) + o2 = ((pc + 8 : Nat) : Int)) (k : zz p l e R s m args below meth c A G cells slots Q (pc + 8) lo ll (.int (if x = 0 then 0 else 1) :: rest)) : zz p l e R s m args below meth c A G cells slots Q pc lo ll (.int x :: rest) := by
  refine z_if_eq X d0 h1 (fun z => ?_) (fun z => ?_)
  · rw [if_pos z] at k
    exact z_iconst (v := 0) X d7 (by decide) k
  · rw [if_neg z] at k
    exact z_iconst (v := 1) X d3 (by decide) (z_goto X d4 h2 k)
end LB
theorem g_0 : Cond.initialized RL ∈ gT := gT_t 0 (by decide +kernel) rfl
theorem g_1072 : Cond.methodLink RL 176 yL_join ∈ gT := gT_t 1072 (by decide +kernel) rfl
theorem g_1073 : Cond.static yL_join ∈ gT := gT_t 1073 (by decide +kernel) rfl
theorem g_1074 : Cond.codeWith yL_join cL_join 6 (some .int) (hdT [(1, 15, 13, 12), (3, 19, 17, 12)]) ∈ gT := gT_t 1074 (by decide +kernel) rfl
theorem g_1090 : Cond.methodLink RL 179 yL_leave ∈ gT := gT_t 1090 (by decide +kernel) rfl
theorem g_1091 : Cond.static yL_leave ∈ gT := gT_t 1091 (by decide +kernel) rfl
theorem g_1092 : Cond.codeWith yL_leave cL_leave 4 (some .int) (hdT [(1, 12, 13, 9), (3, 15, 17, 9)]) ∈ gT := gT_t 1092 (by decide +kernel) rfl
theorem g_1112 : Cond.methodLink RL 185 yL_pass ∈ gT := gT_t 1112 (by decide +kernel) rfl
theorem g_1113 : Cond.static yL_pass ∈ gT := gT_t 1113 (by decide +kernel) rfl
theorem g_1114 : Cond.codeWith yL_pass cL_pass 4 (some .int) (hdT [(2, 12, 15, 9), (3, 15, 17, 9)]) ∈ gT := gT_t 1114 (by decide +kernel) rfl
theorem g_1142 : Cond.methodLink RL 192 yL_cellOf ∈ gT := gT_t 1142 (by decide +kernel) rfl
theorem g_1143 : Cond.static yL_cellOf ∈ gT := gT_t 1143 (by decide +kernel) rfl
theorem g_1144 : Cond.codeWith yL_cellOf cL_cellOf 4 (some .int) (hdT [(1, 12, 13, 9)]) ∈ gT := gT_t 1144 (by decide +kernel) rfl
theorem g_1149 : Cond.methodLink RL 195 yL_rateOf ∈ gT := gT_t 1149 (by decide +kernel) rfl
theorem g_1150 : Cond.static yL_rateOf ∈ gT := gT_t 1150 (by decide +kernel) rfl
theorem g_1151 : Cond.codeWith yL_rateOf cL_rateOf 4 (some .int) (hdT [(1, 12, 13, 9)]) ∈ gT := gT_t 1151 (by decide +kernel) rfl
theorem g_1156 : Cond.methodLink RL 198 yL_legOf ∈ gT := gT_t 1156 (by decide +kernel) rfl
theorem g_1157 : Cond.static yL_legOf ∈ gT := gT_t 1157 (by decide +kernel) rfl
theorem g_1158 : Cond.codeWith yL_legOf cL_legOf 4 (some .int) (hdT [(1, 12, 13, 9)]) ∈ gT := gT_t 1158 (by decide +kernel) rfl
theorem g_1163 : Cond.methodLink RL 201 yL_sliceOf ∈ gT := gT_t 1163 (by decide +kernel) rfl
theorem g_1164 : Cond.static yL_sliceOf ∈ gT := gT_t 1164 (by decide +kernel) rfl
theorem g_1165 : Cond.codeWith yL_sliceOf cL_sliceOf 4 (some .int) (hdT [(1, 12, 13, 9)]) ∈ gT := gT_t 1165 (by decide +kernel) rfl
theorem g_1170 : Cond.methodLink RL 204 yL_parties ∈ gT := gT_t 1170 (by decide +kernel) rfl
theorem g_1171 : Cond.static yL_parties ∈ gT := gT_t 1171 (by decide +kernel) rfl
theorem g_1172 : Cond.codeWith yL_parties cL_parties 4 (some .int) (hdT [(1, 12, 13, 9)]) ∈ gT := gT_t 1172 (by decide +kernel) rfl
theorem g_1177 : Cond.methodLink RL 211 yL_stateOf ∈ gT := gT_t 1177 (by decide +kernel) rfl
theorem g_1178 : Cond.static yL_stateOf ∈ gT := gT_t 1178 (by decide +kernel) rfl
theorem g_1179 : Cond.codeWith yL_stateOf cL_stateOf 4 (some .int) (hdT [(1, 12, 13, 9)]) ∈ gT := gT_t 1179 (by decide +kernel) rfl
theorem g_1189 : Cond.methodLink RL 214 yL_seconds ∈ gT := gT_t 1189 (by decide +kernel) rfl
theorem g_1190 : Cond.static yL_seconds ∈ gT := gT_t 1190 (by decide +kernel) rfl
theorem g_1191 : Cond.codeWith yL_seconds cL_seconds 4 (some .int) (hdT [(1, 12, 13, 9)]) ∈ gT := gT_t 1191 (by decide +kernel) rfl
theorem g_1196 : Cond.methodLink RL 217 yL_charged ∈ gT := gT_t 1196 (by decide +kernel) rfl
theorem g_1197 : Cond.static yL_charged ∈ gT := gT_t 1197 (by decide +kernel) rfl
theorem g_1198 : Cond.codeWith yL_charged cL_charged 4 (some .int) (hdT [(1, 12, 13, 9)]) ∈ gT := gT_t 1198 (by decide +kernel) rfl
theorem g_1203 : Cond.methodLink RL 220 yL_covered ∈ gT := gT_t 1203 (by decide +kernel) rfl
theorem g_1204 : Cond.static yL_covered ∈ gT := gT_t 1204 (by decide +kernel) rfl
theorem g_1205 : Cond.codeWith yL_covered cL_covered 4 (some .int) (hdT [(1, 12, 13, 9)]) ∈ gT := gT_t 1205 (by decide +kernel) rfl
theorem g_1210 : Cond.methodLink RL 223 yL_ratedByEvents ∈ gT := gT_t 1210 (by decide +kernel) rfl
theorem g_1211 : Cond.static yL_ratedByEvents ∈ gT := gT_t 1211 (by decide +kernel) rfl
theorem g_1212 : Cond.codeWith yL_ratedByEvents cL_ratedByEvents 4 (some .int) (hdT [(1, 12, 13, 9)]) ∈ gT := gT_t 1212 (by decide +kernel) rfl
theorem g_1229 : Cond.methodLink RL 226 yL_tag ∈ gT := gT_t 1229 (by decide +kernel) rfl
theorem g_1230 : Cond.static yL_tag ∈ gT := gT_t 1230 (by decide +kernel) rfl
theorem g_1231 : Cond.codeWith yL_tag cL_tag 4 (some .int) (hdT [(1, 12, 13, 9)]) ∈ gT := gT_t 1231 (by decide +kernel) rfl
theorem g_1236 : Cond.methodLink RL 229 yL_seal ∈ gT := gT_t 1236 (by decide +kernel) rfl
theorem g_1237 : Cond.static yL_seal ∈ gT := gT_t 1237 (by decide +kernel) rfl
theorem g_1238 : Cond.codeWith yL_seal cL_seal 4 (some .int) (hdT [(1, 12, 13, 9)]) ∈ gT := gT_t 1238 (by decide +kernel) rfl
theorem g_1248 : Cond.methodLink RL 232 yL_stamp ∈ gT := gT_t 1248 (by decide +kernel) rfl
theorem g_1249 : Cond.static yL_stamp ∈ gT := gT_t 1249 (by decide +kernel) rfl
theorem g_1250 : Cond.codeWith yL_stamp cL_stamp 4 (some .int) (hdT [(1, 12, 13, 9)]) ∈ gT := gT_t 1250 (by decide +kernel) rfl
theorem g_1428 : Cond.methodLink RL 128 yX12_thrown ∈ gT := gT_t 1428 (by decide +kernel) rfl
theorem g_1429 : Cond.instanceMethod yX12_thrown ∈ gT := gT_t 1429 (by decide +kernel) rfl
theorem g_1430 : Cond.selects RX12 yX12_thrown yX12_thrown ∈ gT := gT_t 1430 (by decide +kernel) rfl
theorem g_1431 : Cond.code yX12_thrown cX12_thrown 1 (some .int) ∈ gT := gT_t 1431 (by decide +kernel) rfl
theorem g_1432 : Cond.methodLink RL 127 yX12_setZone ∈ gT := gT_t 1432 (by decide +kernel) rfl
theorem g_1433 : Cond.instanceMethod yX12_setZone ∈ gT := gT_t 1433 (by decide +kernel) rfl
theorem g_1434 : Cond.selects RX12 yX12_setZone yX12_setZone ∈ gT := gT_t 1434 (by decide +kernel) rfl
theorem g_1435 : Cond.code yX12_setZone cX12_setZone 4 (some .int) ∈ gT := gT_t 1435 (by decide +kernel) rfl
theorem g_1449 : Cond.methodLink RL 135 yX12_setChannels ∈ gT := gT_t 1449 (by decide +kernel) rfl
theorem g_1450 : Cond.instanceMethod yX12_setChannels ∈ gT := gT_t 1450 (by decide +kernel) rfl
theorem g_1451 : Cond.selects RX12 yX12_setChannels yX12_setChannels ∈ gT := gT_t 1451 (by decide +kernel) rfl
theorem g_1452 : Cond.code yX12_setChannels cX12_setChannels 5 (some .int) ∈ gT := gT_t 1452 (by decide +kernel) rfl
theorem g_1457 : Cond.methodLink RL 139 yX12_setRate ∈ gT := gT_t 1457 (by decide +kernel) rfl
theorem g_1458 : Cond.instanceMethod yX12_setRate ∈ gT := gT_t 1458 (by decide +kernel) rfl
theorem g_1459 : Cond.selects RX12 yX12_setRate yX12_setRate ∈ gT := gT_t 1459 (by decide +kernel) rfl
theorem g_1460 : Cond.code yX12_setRate cX12_setRate 6 (some .int) ∈ gT := gT_t 1460 (by decide +kernel) rfl
theorem g_1461 : Cond.methodLink RL 143 yX12_setSlice ∈ gT := gT_t 1461 (by decide +kernel) rfl
theorem g_1462 : Cond.instanceMethod yX12_setSlice ∈ gT := gT_t 1462 (by decide +kernel) rfl
theorem g_1463 : Cond.selects RX12 yX12_setSlice yX12_setSlice ∈ gT := gT_t 1463 (by decide +kernel) rfl
theorem g_1464 : Cond.code yX12_setSlice cX12_setSlice 3 (some .int) ∈ gT := gT_t 1464 (by decide +kernel) rfl
theorem g_1465 : Cond.methodLink RL 146 yX12_setCap ∈ gT := gT_t 1465 (by decide +kernel) rfl
theorem g_1466 : Cond.instanceMethod yX12_setCap ∈ gT := gT_t 1466 (by decide +kernel) rfl
theorem g_1467 : Cond.selects RX12 yX12_setCap yX12_setCap ∈ gT := gT_t 1467 (by decide +kernel) rfl
theorem g_1468 : Cond.code yX12_setCap cX12_setCap 4 (some .int) ∈ gT := gT_t 1468 (by decide +kernel) rfl
theorem g_1473 : Cond.methodLink RL 149 yX12_setWallet ∈ gT := gT_t 1473 (by decide +kernel) rfl
theorem g_1474 : Cond.instanceMethod yX12_setWallet ∈ gT := gT_t 1474 (by decide +kernel) rfl
theorem g_1475 : Cond.selects RX12 yX12_setWallet yX12_setWallet ∈ gT := gT_t 1475 (by decide +kernel) rfl
theorem g_1476 : Cond.code yX12_setWallet cX12_setWallet 5 (some .int) ∈ gT := gT_t 1476 (by decide +kernel) rfl
theorem g_1480 : Cond.methodLink RL 152 yX12_top ∈ gT := gT_t 1480 (by decide +kernel) rfl
theorem g_1481 : Cond.instanceMethod yX12_top ∈ gT := gT_t 1481 (by decide +kernel) rfl
theorem g_1482 : Cond.selects RX12 yX12_top yX12_top ∈ gT := gT_t 1482 (by decide +kernel) rfl
theorem g_1483 : Cond.code yX12_top cX12_top 3 (some .int) ∈ gT := gT_t 1483 (by decide +kernel) rfl
theorem g_1484 : Cond.methodLink RL 155 yX12_give ∈ gT := gT_t 1484 (by decide +kernel) rfl
theorem g_1485 : Cond.instanceMethod yX12_give ∈ gT := gT_t 1485 (by decide +kernel) rfl
theorem g_1486 : Cond.selects RX12 yX12_give yX12_give ∈ gT := gT_t 1486 (by decide +kernel) rfl
theorem g_1487 : Cond.code yX12_give cX12_give 6 (some .int) ∈ gT := gT_t 1487 (by decide +kernel) rfl
theorem g_1488 : Cond.methodLink RL 159 yX12_buy ∈ gT := gT_t 1488 (by decide +kernel) rfl
theorem g_1489 : Cond.instanceMethod yX12_buy ∈ gT := gT_t 1489 (by decide +kernel) rfl
theorem g_1490 : Cond.selects RX12 yX12_buy yX12_buy ∈ gT := gT_t 1490 (by decide +kernel) rfl
theorem g_1491 : Cond.code yX12_buy cX12_buy 8 (some .int) ∈ gT := gT_t 1491 (by decide +kernel) rfl
theorem g_1496 : Cond.methodLink RL 162 yX12_free ∈ gT := gT_t 1496 (by decide +kernel) rfl
theorem g_1497 : Cond.instanceMethod yX12_free ∈ gT := gT_t 1497 (by decide +kernel) rfl
theorem g_1498 : Cond.selects RX12 yX12_free yX12_free ∈ gT := gT_t 1498 (by decide +kernel) rfl
theorem g_1499 : Cond.code yX12_free cX12_free 2 (some .int) ∈ gT := gT_t 1499 (by decide +kernel) rfl
theorem g_1500 : Cond.methodLink RL 165 yX12_aside ∈ gT := gT_t 1500 (by decide +kernel) rfl
theorem g_1501 : Cond.instanceMethod yX12_aside ∈ gT := gT_t 1501 (by decide +kernel) rfl
theorem g_1502 : Cond.selects RX12 yX12_aside yX12_aside ∈ gT := gT_t 1502 (by decide +kernel) rfl
theorem g_1503 : Cond.code yX12_aside cX12_aside 4 (some .int) ∈ gT := gT_t 1503 (by decide +kernel) rfl
theorem g_1508 : Cond.methodLink RL 168 yX12_spent ∈ gT := gT_t 1508 (by decide +kernel) rfl
theorem g_1509 : Cond.instanceMethod yX12_spent ∈ gT := gT_t 1509 (by decide +kernel) rfl
theorem g_1510 : Cond.selects RX12 yX12_spent yX12_spent ∈ gT := gT_t 1510 (by decide +kernel) rfl
theorem g_1511 : Cond.code yX12_spent cX12_spent 2 (some .int) ∈ gT := gT_t 1511 (by decide +kernel) rfl
theorem g_1512 : Cond.methodLink RL 171 yX12_left ∈ gT := gT_t 1512 (by decide +kernel) rfl
theorem g_1513 : Cond.instanceMethod yX12_left ∈ gT := gT_t 1513 (by decide +kernel) rfl
theorem g_1514 : Cond.selects RX12 yX12_left yX12_left ∈ gT := gT_t 1514 (by decide +kernel) rfl
theorem g_1515 : Cond.code yX12_left cX12_left 2 (some .int) ∈ gT := gT_t 1515 (by decide +kernel) rfl
theorem g_1520 : Cond.methodLink RL 175 yX12_begin ∈ gT := gT_t 1520 (by decide +kernel) rfl
theorem g_1521 : Cond.instanceMethod yX12_begin ∈ gT := gT_t 1521 (by decide +kernel) rfl
theorem g_1522 : Cond.selects RX12 yX12_begin yX12_begin ∈ gT := gT_t 1522 (by decide +kernel) rfl
theorem g_1523 : Cond.code yX12_begin cX12_begin 10 (some .int) ∈ gT := gT_t 1523 (by decide +kernel) rfl
theorem g_1591 : Cond.methodLink RL 178 yX12_join ∈ gT := gT_t 1591 (by decide +kernel) rfl
theorem g_1592 : Cond.instanceMethod yX12_join ∈ gT := gT_t 1592 (by decide +kernel) rfl
theorem g_1593 : Cond.selects RX12 yX12_join yX12_join ∈ gT := gT_t 1593 (by decide +kernel) rfl
theorem g_1594 : Cond.code yX12_join cX12_join 7 (some .int) ∈ gT := gT_t 1594 (by decide +kernel) rfl
theorem g_1599 : Cond.methodLink RL 181 yX12_leave ∈ gT := gT_t 1599 (by decide +kernel) rfl
theorem g_1600 : Cond.instanceMethod yX12_leave ∈ gT := gT_t 1600 (by decide +kernel) rfl
theorem g_1601 : Cond.selects RX12 yX12_leave yX12_leave ∈ gT := gT_t 1601 (by decide +kernel) rfl
theorem g_1602 : Cond.code yX12_leave cX12_leave 4 (some .int) ∈ gT := gT_t 1602 (by decide +kernel) rfl
theorem g_1610 : Cond.methodLink RL 187 yX12_pass ∈ gT := gT_t 1610 (by decide +kernel) rfl
theorem g_1611 : Cond.instanceMethod yX12_pass ∈ gT := gT_t 1611 (by decide +kernel) rfl
theorem g_1612 : Cond.selects RX12 yX12_pass yX12_pass ∈ gT := gT_t 1612 (by decide +kernel) rfl
theorem g_1613 : Cond.code yX12_pass cX12_pass 4 (some .int) ∈ gT := gT_t 1613 (by decide +kernel) rfl
theorem g_1627 : Cond.methodLink RL 194 yX12_cellOf ∈ gT := gT_t 1627 (by decide +kernel) rfl
theorem g_1628 : Cond.instanceMethod yX12_cellOf ∈ gT := gT_t 1628 (by decide +kernel) rfl
theorem g_1629 : Cond.selects RX12 yX12_cellOf yX12_cellOf ∈ gT := gT_t 1629 (by decide +kernel) rfl
theorem g_1630 : Cond.code yX12_cellOf cX12_cellOf 2 (some .int) ∈ gT := gT_t 1630 (by decide +kernel) rfl
theorem g_1635 : Cond.methodLink RL 197 yX12_rateOf ∈ gT := gT_t 1635 (by decide +kernel) rfl
theorem g_1636 : Cond.instanceMethod yX12_rateOf ∈ gT := gT_t 1636 (by decide +kernel) rfl
theorem g_1637 : Cond.selects RX12 yX12_rateOf yX12_rateOf ∈ gT := gT_t 1637 (by decide +kernel) rfl
theorem g_1638 : Cond.code yX12_rateOf cX12_rateOf 2 (some .int) ∈ gT := gT_t 1638 (by decide +kernel) rfl
theorem g_1639 : Cond.methodLink RL 200 yX12_legOf ∈ gT := gT_t 1639 (by decide +kernel) rfl
theorem g_1640 : Cond.instanceMethod yX12_legOf ∈ gT := gT_t 1640 (by decide +kernel) rfl
theorem g_1641 : Cond.selects RX12 yX12_legOf yX12_legOf ∈ gT := gT_t 1641 (by decide +kernel) rfl
theorem g_1642 : Cond.code yX12_legOf cX12_legOf 2 (some .int) ∈ gT := gT_t 1642 (by decide +kernel) rfl
theorem g_1643 : Cond.methodLink RL 203 yX12_sliceOf ∈ gT := gT_t 1643 (by decide +kernel) rfl
theorem g_1644 : Cond.instanceMethod yX12_sliceOf ∈ gT := gT_t 1644 (by decide +kernel) rfl
theorem g_1645 : Cond.selects RX12 yX12_sliceOf yX12_sliceOf ∈ gT := gT_t 1645 (by decide +kernel) rfl
theorem g_1646 : Cond.code yX12_sliceOf cX12_sliceOf 2 (some .int) ∈ gT := gT_t 1646 (by decide +kernel) rfl
theorem g_1647 : Cond.methodLink RL 206 yX12_parties ∈ gT := gT_t 1647 (by decide +kernel) rfl
theorem g_1648 : Cond.instanceMethod yX12_parties ∈ gT := gT_t 1648 (by decide +kernel) rfl
theorem g_1649 : Cond.selects RX12 yX12_parties yX12_parties ∈ gT := gT_t 1649 (by decide +kernel) rfl
theorem g_1650 : Cond.code yX12_parties cX12_parties 2 (some .int) ∈ gT := gT_t 1650 (by decide +kernel) rfl
theorem g_1655 : Cond.methodLink RL 213 yX12_stateOf ∈ gT := gT_t 1655 (by decide +kernel) rfl
theorem g_1656 : Cond.instanceMethod yX12_stateOf ∈ gT := gT_t 1656 (by decide +kernel) rfl
theorem g_1657 : Cond.selects RX12 yX12_stateOf yX12_stateOf ∈ gT := gT_t 1657 (by decide +kernel) rfl
theorem g_1658 : Cond.code yX12_stateOf cX12_stateOf 2 (some .int) ∈ gT := gT_t 1658 (by decide +kernel) rfl
theorem g_1667 : Cond.methodLink RL 216 yX12_seconds ∈ gT := gT_t 1667 (by decide +kernel) rfl
theorem g_1668 : Cond.instanceMethod yX12_seconds ∈ gT := gT_t 1668 (by decide +kernel) rfl
theorem g_1669 : Cond.selects RX12 yX12_seconds yX12_seconds ∈ gT := gT_t 1669 (by decide +kernel) rfl
theorem g_1670 : Cond.code yX12_seconds cX12_seconds 2 (some .int) ∈ gT := gT_t 1670 (by decide +kernel) rfl
theorem g_1671 : Cond.methodLink RL 219 yX12_charged ∈ gT := gT_t 1671 (by decide +kernel) rfl
theorem g_1672 : Cond.instanceMethod yX12_charged ∈ gT := gT_t 1672 (by decide +kernel) rfl
theorem g_1673 : Cond.selects RX12 yX12_charged yX12_charged ∈ gT := gT_t 1673 (by decide +kernel) rfl
theorem g_1674 : Cond.code yX12_charged cX12_charged 2 (some .int) ∈ gT := gT_t 1674 (by decide +kernel) rfl
theorem g_1675 : Cond.methodLink RL 222 yX12_covered ∈ gT := gT_t 1675 (by decide +kernel) rfl
theorem g_1676 : Cond.instanceMethod yX12_covered ∈ gT := gT_t 1676 (by decide +kernel) rfl
theorem g_1677 : Cond.selects RX12 yX12_covered yX12_covered ∈ gT := gT_t 1677 (by decide +kernel) rfl
theorem g_1678 : Cond.code yX12_covered cX12_covered 2 (some .int) ∈ gT := gT_t 1678 (by decide +kernel) rfl
theorem g_1679 : Cond.methodLink RL 225 yX12_ratedByEvents ∈ gT := gT_t 1679 (by decide +kernel) rfl
theorem g_1680 : Cond.instanceMethod yX12_ratedByEvents ∈ gT := gT_t 1680 (by decide +kernel) rfl
theorem g_1681 : Cond.selects RX12 yX12_ratedByEvents yX12_ratedByEvents ∈ gT := gT_t 1681 (by decide +kernel) rfl
theorem g_1682 : Cond.code yX12_ratedByEvents cX12_ratedByEvents 2 (some .int) ∈ gT := gT_t 1682 (by decide +kernel) rfl
theorem g_1683 : Cond.methodLink RL 228 yX12_tag ∈ gT := gT_t 1683 (by decide +kernel) rfl
theorem g_1684 : Cond.instanceMethod yX12_tag ∈ gT := gT_t 1684 (by decide +kernel) rfl
theorem g_1685 : Cond.selects RX12 yX12_tag yX12_tag ∈ gT := gT_t 1685 (by decide +kernel) rfl
theorem g_1686 : Cond.code yX12_tag cX12_tag 2 (some .int) ∈ gT := gT_t 1686 (by decide +kernel) rfl
theorem g_1687 : Cond.methodLink RL 231 yX12_seal ∈ gT := gT_t 1687 (by decide +kernel) rfl
theorem g_1688 : Cond.instanceMethod yX12_seal ∈ gT := gT_t 1688 (by decide +kernel) rfl
theorem g_1689 : Cond.selects RX12 yX12_seal yX12_seal ∈ gT := gT_t 1689 (by decide +kernel) rfl
theorem g_1690 : Cond.code yX12_seal cX12_seal 2 (some .int) ∈ gT := gT_t 1690 (by decide +kernel) rfl
theorem g_1695 : Cond.methodLink RL 234 yX12_stamp ∈ gT := gT_t 1695 (by decide +kernel) rfl
theorem g_1696 : Cond.instanceMethod yX12_stamp ∈ gT := gT_t 1696 (by decide +kernel) rfl
theorem g_1697 : Cond.selects RX12 yX12_stamp yX12_stamp ∈ gT := gT_t 1697 (by decide +kernel) rfl
theorem g_1698 : Cond.code yX12_stamp cX12_stamp 5 (some .int) ∈ gT := gT_t 1698 (by decide +kernel) rfl
theorem g_312 : Cond.methodLink RL 122 yL_setZone ∈ gT := gT_t 312 (by decide +kernel) rfl
theorem g_313 : Cond.static yL_setZone ∈ gT := gT_t 313 (by decide +kernel) rfl
theorem g_314 : Cond.codeWith yL_setZone cL_setZone 5 (some .int) (hdT [(1, 13, 13, 10), (2, 17, 15, 10), (3, 21, 17, 10)]) ∈ gT := gT_t 314 (by decide +kernel) rfl
theorem g_433 : Cond.methodLink RL 132 yL_setChannels ∈ gT := gT_t 433 (by decide +kernel) rfl
theorem g_434 : Cond.static yL_setChannels ∈ gT := gT_t 434 (by decide +kernel) rfl
theorem g_435 : Cond.codeWith yL_setChannels cL_setChannels 6 (some .int) (hdT [(1, 15, 13, 12), (2, 19, 15, 12)]) ∈ gT := gT_t 435 (by decide +kernel) rfl
theorem g_445 : Cond.methodLink RL 136 yL_setRate ∈ gT := gT_t 445 (by decide +kernel) rfl
theorem g_446 : Cond.static yL_setRate ∈ gT := gT_t 446 (by decide +kernel) rfl
theorem g_447 : Cond.codeWith yL_setRate cL_setRate 6 (some .int) (hdT [(2, 15, 15, 12)]) ∈ gT := gT_t 447 (by decide +kernel) rfl
theorem g_462 : Cond.methodLink RL 140 yL_setSlice ∈ gT := gT_t 462 (by decide +kernel) rfl
theorem g_463 : Cond.static yL_setSlice ∈ gT := gT_t 463 (by decide +kernel) rfl
theorem g_464 : Cond.codeWith yL_setSlice cL_setSlice 4 (some .int) (hdT [(2, 12, 15, 9)]) ∈ gT := gT_t 464 (by decide +kernel) rfl
theorem g_470 : Cond.methodLink RL 144 yL_setCap ∈ gT := gT_t 470 (by decide +kernel) rfl
theorem g_471 : Cond.static yL_setCap ∈ gT := gT_t 471 (by decide +kernel) rfl
theorem g_472 : Cond.codeWith yL_setCap cL_setCap 5 (some .int) (hdT [(1, 13, 13, 10), (2, 17, 15, 10)]) ∈ gT := gT_t 472 (by decide +kernel) rfl
theorem g_484 : Cond.methodLink RL 147 yL_setWallet ∈ gT := gT_t 484 (by decide +kernel) rfl
theorem g_485 : Cond.static yL_setWallet ∈ gT := gT_t 485 (by decide +kernel) rfl
theorem g_486 : Cond.codeWith yL_setWallet cL_setWallet 5 (some .int) (hdT [(1, 13, 13, 10), (3, 17, 17, 10)]) ∈ gT := gT_t 486 (by decide +kernel) rfl
theorem g_497 : Cond.methodLink RL 150 yL_top ∈ gT := gT_t 497 (by decide +kernel) rfl
theorem g_498 : Cond.static yL_top ∈ gT := gT_t 498 (by decide +kernel) rfl
theorem g_499 : Cond.codeWith yL_top cL_top 5 (some .int) (hdT [(1, 13, 13, 10), (2, 17, 15, 10)]) ∈ gT := gT_t 499 (by decide +kernel) rfl
theorem g_505 : Cond.methodLink RL 153 yL_give ∈ gT := gT_t 505 (by decide +kernel) rfl
theorem g_506 : Cond.static yL_give ∈ gT := gT_t 506 (by decide +kernel) rfl
theorem g_507 : Cond.codeWith yL_give cL_give 6 (some .int) (hdT [(1, 15, 13, 12), (2, 19, 15, 12), (3, 23, 17, 12)]) ∈ gT := gT_t 507 (by decide +kernel) rfl
theorem g_514 : Cond.methodLink RL 156 yL_buy ∈ gT := gT_t 514 (by decide +kernel) rfl
theorem g_515 : Cond.static yL_buy ∈ gT := gT_t 515 (by decide +kernel) rfl
theorem g_516 : Cond.codeWith yL_buy cL_buy 9 (some .int) (hdT [(1, 21, 13, 18), (2, 25, 15, 18), (3, 29, 17, 18)]) ∈ gT := gT_t 516 (by decide +kernel) rfl
theorem g_819 : Cond.methodLink RL 160 yL_free ∈ gT := gT_t 819 (by decide +kernel) rfl
theorem g_820 : Cond.static yL_free ∈ gT := gT_t 820 (by decide +kernel) rfl
theorem g_821 : Cond.codeWith yL_free cL_free 4 (some .int) (hdT [(1, 12, 13, 9)]) ∈ gT := gT_t 821 (by decide +kernel) rfl
theorem g_826 : Cond.methodLink RL 163 yL_aside ∈ gT := gT_t 826 (by decide +kernel) rfl
theorem g_827 : Cond.static yL_aside ∈ gT := gT_t 827 (by decide +kernel) rfl
theorem g_828 : Cond.codeWith yL_aside cL_aside 4 (some .int) (hdT [(1, 12, 13, 9)]) ∈ gT := gT_t 828 (by decide +kernel) rfl
theorem g_837 : Cond.methodLink RL 166 yL_spent ∈ gT := gT_t 837 (by decide +kernel) rfl
theorem g_838 : Cond.static yL_spent ∈ gT := gT_t 838 (by decide +kernel) rfl
theorem g_839 : Cond.codeWith yL_spent cL_spent 4 (some .int) (hdT [(1, 12, 13, 9)]) ∈ gT := gT_t 839 (by decide +kernel) rfl
theorem g_844 : Cond.methodLink RL 169 yL_left ∈ gT := gT_t 844 (by decide +kernel) rfl
theorem g_845 : Cond.static yL_left ∈ gT := gT_t 845 (by decide +kernel) rfl
theorem g_846 : Cond.codeWith yL_left cL_left 4 (some .int) (hdT [(1, 12, 13, 9)]) ∈ gT := gT_t 846 (by decide +kernel) rfl
theorem g_857 : Cond.methodLink RL 172 yL_begin ∈ gT := gT_t 857 (by decide +kernel) rfl
theorem g_858 : Cond.static yL_begin ∈ gT := gT_t 858 (by decide +kernel) rfl
theorem g_859 : Cond.codeWith yL_begin cL_begin 6 (some .int) (hdT [(1, 15, 13, 12), (2, 19, 15, 12), (3, 23, 17, 12)]) ∈ gT := gT_t 859 (by decide +kernel) rfl
theorem hd_yL_setZone : yL_setZone.cls = RL ∧ yL_setZone.cls ≠ "java/lang/invoke/MethodHandle" ∧ yL_setZone.cls ≠ "java/lang/invoke/VarHandle" ∧ (parseMethodDescriptor yL_setZone.desc).map (fun d => d.parameters.length) = some 4 := by decide +kernel
theorem hd_yX12_setZone : yX12_setZone.cls = RX12 ∧ yX12_setZone.cls ≠ "java/lang/invoke/MethodHandle" ∧ yX12_setZone.cls ≠ "java/lang/invoke/VarHandle" ∧ (parseMethodDescriptor yX12_setZone.desc).map (fun d => d.parameters.length) = some 2 := by decide +kernel
theorem hd_yX12_thrown : yX12_thrown.cls = RX12 ∧ yX12_thrown.cls ≠ "java/lang/invoke/MethodHandle" ∧ yX12_thrown.cls ≠ "java/lang/invoke/VarHandle" ∧ (parseMethodDescriptor yX12_thrown.desc).map (fun d => d.parameters.length) = some 0 := by decide +kernel
theorem hd_yL_setChannels : yL_setChannels.cls = RL ∧ yL_setChannels.cls ≠ "java/lang/invoke/MethodHandle" ∧ yL_setChannels.cls ≠ "java/lang/invoke/VarHandle" ∧ (parseMethodDescriptor yL_setChannels.desc).map (fun d => d.parameters.length) = some 5 := by decide +kernel
theorem hd_yX12_setChannels : yX12_setChannels.cls = RX12 ∧ yX12_setChannels.cls ≠ "java/lang/invoke/MethodHandle" ∧ yX12_setChannels.cls ≠ "java/lang/invoke/VarHandle" ∧ (parseMethodDescriptor yX12_setChannels.desc).map (fun d => d.parameters.length) = some 3 := by decide +kernel
theorem hd_yL_setRate : yL_setRate.cls = RL ∧ yL_setRate.cls ≠ "java/lang/invoke/MethodHandle" ∧ yL_setRate.cls ≠ "java/lang/invoke/VarHandle" ∧ (parseMethodDescriptor yL_setRate.desc).map (fun d => d.parameters.length) = some 5 := by decide +kernel
theorem hd_yX12_setRate : yX12_setRate.cls = RX12 ∧ yX12_setRate.cls ≠ "java/lang/invoke/MethodHandle" ∧ yX12_setRate.cls ≠ "java/lang/invoke/VarHandle" ∧ (parseMethodDescriptor yX12_setRate.desc).map (fun d => d.parameters.length) = some 3 := by decide +kernel
theorem hd_yL_setSlice : yL_setSlice.cls = RL ∧ yL_setSlice.cls ≠ "java/lang/invoke/MethodHandle" ∧ yL_setSlice.cls ≠ "java/lang/invoke/VarHandle" ∧ (parseMethodDescriptor yL_setSlice.desc).map (fun d => d.parameters.length) = some 3 := by decide +kernel
theorem hd_yX12_setSlice : yX12_setSlice.cls = RX12 ∧ yX12_setSlice.cls ≠ "java/lang/invoke/MethodHandle" ∧ yX12_setSlice.cls ≠ "java/lang/invoke/VarHandle" ∧ (parseMethodDescriptor yX12_setSlice.desc).map (fun d => d.parameters.length) = some 1 := by decide +kernel
theorem hd_yL_setCap : yL_setCap.cls = RL ∧ yL_setCap.cls ≠ "java/lang/invoke/MethodHandle" ∧ yL_setCap.cls ≠ "java/lang/invoke/VarHandle" ∧ (parseMethodDescriptor yL_setCap.desc).map (fun d => d.parameters.length) = some 4 := by decide +kernel
theorem hd_yX12_setCap : yX12_setCap.cls = RX12 ∧ yX12_setCap.cls ≠ "java/lang/invoke/MethodHandle" ∧ yX12_setCap.cls ≠ "java/lang/invoke/VarHandle" ∧ (parseMethodDescriptor yX12_setCap.desc).map (fun d => d.parameters.length) = some 2 := by decide +kernel
theorem hd_yL_setWallet : yL_setWallet.cls = RL ∧ yL_setWallet.cls ≠ "java/lang/invoke/MethodHandle" ∧ yL_setWallet.cls ≠ "java/lang/invoke/VarHandle" ∧ (parseMethodDescriptor yL_setWallet.desc).map (fun d => d.parameters.length) = some 4 := by decide +kernel
theorem hd_yX12_setWallet : yX12_setWallet.cls = RX12 ∧ yX12_setWallet.cls ≠ "java/lang/invoke/MethodHandle" ∧ yX12_setWallet.cls ≠ "java/lang/invoke/VarHandle" ∧ (parseMethodDescriptor yX12_setWallet.desc).map (fun d => d.parameters.length) = some 2 := by decide +kernel
theorem hd_yL_top : yL_top.cls = RL ∧ yL_top.cls ≠ "java/lang/invoke/MethodHandle" ∧ yL_top.cls ≠ "java/lang/invoke/VarHandle" ∧ (parseMethodDescriptor yL_top.desc).map (fun d => d.parameters.length) = some 4 := by decide +kernel
theorem hd_yX12_top : yX12_top.cls = RX12 ∧ yX12_top.cls ≠ "java/lang/invoke/MethodHandle" ∧ yX12_top.cls ≠ "java/lang/invoke/VarHandle" ∧ (parseMethodDescriptor yX12_top.desc).map (fun d => d.parameters.length) = some 2 := by decide +kernel
theorem hd_yL_give : yL_give.cls = RL ∧ yL_give.cls ≠ "java/lang/invoke/MethodHandle" ∧ yL_give.cls ≠ "java/lang/invoke/VarHandle" ∧ (parseMethodDescriptor yL_give.desc).map (fun d => d.parameters.length) = some 5 := by decide +kernel
theorem hd_yX12_give : yX12_give.cls = RX12 ∧ yX12_give.cls ≠ "java/lang/invoke/MethodHandle" ∧ yX12_give.cls ≠ "java/lang/invoke/VarHandle" ∧ (parseMethodDescriptor yX12_give.desc).map (fun d => d.parameters.length) = some 3 := by decide +kernel
theorem hd_yL_buy : yL_buy.cls = RL ∧ yL_buy.cls ≠ "java/lang/invoke/MethodHandle" ∧ yL_buy.cls ≠ "java/lang/invoke/VarHandle" ∧ (parseMethodDescriptor yL_buy.desc).map (fun d => d.parameters.length) = some 8 := by decide +kernel
theorem hd_yX12_buy : yX12_buy.cls = RX12 ∧ yX12_buy.cls ≠ "java/lang/invoke/MethodHandle" ∧ yX12_buy.cls ≠ "java/lang/invoke/VarHandle" ∧ (parseMethodDescriptor yX12_buy.desc).map (fun d => d.parameters.length) = some 6 := by decide +kernel
theorem hd_yL_free : yL_free.cls = RL ∧ yL_free.cls ≠ "java/lang/invoke/MethodHandle" ∧ yL_free.cls ≠ "java/lang/invoke/VarHandle" ∧ (parseMethodDescriptor yL_free.desc).map (fun d => d.parameters.length) = some 3 := by decide +kernel
theorem hd_yX12_free : yX12_free.cls = RX12 ∧ yX12_free.cls ≠ "java/lang/invoke/MethodHandle" ∧ yX12_free.cls ≠ "java/lang/invoke/VarHandle" ∧ (parseMethodDescriptor yX12_free.desc).map (fun d => d.parameters.length) = some 1 := by decide +kernel
theorem hd_yL_aside : yL_aside.cls = RL ∧ yL_aside.cls ≠ "java/lang/invoke/MethodHandle" ∧ yL_aside.cls ≠ "java/lang/invoke/VarHandle" ∧ (parseMethodDescriptor yL_aside.desc).map (fun d => d.parameters.length) = some 3 := by decide +kernel
theorem hd_yX12_aside : yX12_aside.cls = RX12 ∧ yX12_aside.cls ≠ "java/lang/invoke/MethodHandle" ∧ yX12_aside.cls ≠ "java/lang/invoke/VarHandle" ∧ (parseMethodDescriptor yX12_aside.desc).map (fun d => d.parameters.length) = some 1 := by decide +kernel
theorem hd_yL_spent : yL_spent.cls = RL ∧ yL_spent.cls ≠ "java/lang/invoke/MethodHandle" ∧ yL_spent.cls ≠ "java/lang/invoke/VarHandle" ∧ (parseMethodDescriptor yL_spent.desc).map (fun d => d.parameters.length) = some 3 := by decide +kernel
theorem hd_yX12_spent : yX12_spent.cls = RX12 ∧ yX12_spent.cls ≠ "java/lang/invoke/MethodHandle" ∧ yX12_spent.cls ≠ "java/lang/invoke/VarHandle" ∧ (parseMethodDescriptor yX12_spent.desc).map (fun d => d.parameters.length) = some 1 := by decide +kernel
theorem hd_yL_left : yL_left.cls = RL ∧ yL_left.cls ≠ "java/lang/invoke/MethodHandle" ∧ yL_left.cls ≠ "java/lang/invoke/VarHandle" ∧ (parseMethodDescriptor yL_left.desc).map (fun d => d.parameters.length) = some 3 := by decide +kernel
theorem hd_yX12_left : yX12_left.cls = RX12 ∧ yX12_left.cls ≠ "java/lang/invoke/MethodHandle" ∧ yX12_left.cls ≠ "java/lang/invoke/VarHandle" ∧ (parseMethodDescriptor yX12_left.desc).map (fun d => d.parameters.length) = some 1 := by decide +kernel
theorem hd_yL_begin : yL_begin.cls = RL ∧ yL_begin.cls ≠ "java/lang/invoke/MethodHandle" ∧ yL_begin.cls ≠ "java/lang/invoke/VarHandle" ∧ (parseMethodDescriptor yL_begin.desc).map (fun d => d.parameters.length) = some 5 := by decide +kernel
theorem hd_yX12_begin : yX12_begin.cls = RX12 ∧ yX12_begin.cls ≠ "java/lang/invoke/MethodHandle" ∧ yX12_begin.cls ≠ "java/lang/invoke/VarHandle" ∧ (parseMethodDescriptor yX12_begin.desc).map (fun d => d.parameters.length) = some 3 := by decide +kernel
theorem hd_yL_join : yL_join.cls = RL ∧ yL_join.cls ≠ "java/lang/invoke/MethodHandle" ∧ yL_join.cls ≠ "java/lang/invoke/VarHandle" ∧ (parseMethodDescriptor yL_join.desc).map (fun d => d.parameters.length) = some 5 := by decide +kernel
theorem hd_yX12_join : yX12_join.cls = RX12 ∧ yX12_join.cls ≠ "java/lang/invoke/MethodHandle" ∧ yX12_join.cls ≠ "java/lang/invoke/VarHandle" ∧ (parseMethodDescriptor yX12_join.desc).map (fun d => d.parameters.length) = some 3 := by decide +kernel
theorem hd_yL_leave : yL_leave.cls = RL ∧ yL_leave.cls ≠ "java/lang/invoke/MethodHandle" ∧ yL_leave.cls ≠ "java/lang/invoke/VarHandle" ∧ (parseMethodDescriptor yL_leave.desc).map (fun d => d.parameters.length) = some 3 := by decide +kernel
theorem hd_yX12_leave : yX12_leave.cls = RX12 ∧ yX12_leave.cls ≠ "java/lang/invoke/MethodHandle" ∧ yX12_leave.cls ≠ "java/lang/invoke/VarHandle" ∧ (parseMethodDescriptor yX12_leave.desc).map (fun d => d.parameters.length) = some 1 := by decide +kernel
theorem hd_yL_pass : yL_pass.cls = RL ∧ yL_pass.cls ≠ "java/lang/invoke/MethodHandle" ∧ yL_pass.cls ≠ "java/lang/invoke/VarHandle" ∧ (parseMethodDescriptor yL_pass.desc).map (fun d => d.parameters.length) = some 3 := by decide +kernel
theorem hd_yX12_pass : yX12_pass.cls = RX12 ∧ yX12_pass.cls ≠ "java/lang/invoke/MethodHandle" ∧ yX12_pass.cls ≠ "java/lang/invoke/VarHandle" ∧ (parseMethodDescriptor yX12_pass.desc).map (fun d => d.parameters.length) = some 1 := by decide +kernel
theorem hd_yL_cellOf : yL_cellOf.cls = RL ∧ yL_cellOf.cls ≠ "java/lang/invoke/MethodHandle" ∧ yL_cellOf.cls ≠ "java/lang/invoke/VarHandle" ∧ (parseMethodDescriptor yL_cellOf.desc).map (fun d => d.parameters.length) = some 3 := by decide +kernel
theorem hd_yX12_cellOf : yX12_cellOf.cls = RX12 ∧ yX12_cellOf.cls ≠ "java/lang/invoke/MethodHandle" ∧ yX12_cellOf.cls ≠ "java/lang/invoke/VarHandle" ∧ (parseMethodDescriptor yX12_cellOf.desc).map (fun d => d.parameters.length) = some 1 := by decide +kernel
theorem hd_yL_rateOf : yL_rateOf.cls = RL ∧ yL_rateOf.cls ≠ "java/lang/invoke/MethodHandle" ∧ yL_rateOf.cls ≠ "java/lang/invoke/VarHandle" ∧ (parseMethodDescriptor yL_rateOf.desc).map (fun d => d.parameters.length) = some 3 := by decide +kernel
theorem hd_yX12_rateOf : yX12_rateOf.cls = RX12 ∧ yX12_rateOf.cls ≠ "java/lang/invoke/MethodHandle" ∧ yX12_rateOf.cls ≠ "java/lang/invoke/VarHandle" ∧ (parseMethodDescriptor yX12_rateOf.desc).map (fun d => d.parameters.length) = some 1 := by decide +kernel
theorem hd_yL_legOf : yL_legOf.cls = RL ∧ yL_legOf.cls ≠ "java/lang/invoke/MethodHandle" ∧ yL_legOf.cls ≠ "java/lang/invoke/VarHandle" ∧ (parseMethodDescriptor yL_legOf.desc).map (fun d => d.parameters.length) = some 3 := by decide +kernel
theorem hd_yX12_legOf : yX12_legOf.cls = RX12 ∧ yX12_legOf.cls ≠ "java/lang/invoke/MethodHandle" ∧ yX12_legOf.cls ≠ "java/lang/invoke/VarHandle" ∧ (parseMethodDescriptor yX12_legOf.desc).map (fun d => d.parameters.length) = some 1 := by decide +kernel
theorem hd_yL_sliceOf : yL_sliceOf.cls = RL ∧ yL_sliceOf.cls ≠ "java/lang/invoke/MethodHandle" ∧ yL_sliceOf.cls ≠ "java/lang/invoke/VarHandle" ∧ (parseMethodDescriptor yL_sliceOf.desc).map (fun d => d.parameters.length) = some 3 := by decide +kernel
theorem hd_yX12_sliceOf : yX12_sliceOf.cls = RX12 ∧ yX12_sliceOf.cls ≠ "java/lang/invoke/MethodHandle" ∧ yX12_sliceOf.cls ≠ "java/lang/invoke/VarHandle" ∧ (parseMethodDescriptor yX12_sliceOf.desc).map (fun d => d.parameters.length) = some 1 := by decide +kernel
theorem hd_yL_parties : yL_parties.cls = RL ∧ yL_parties.cls ≠ "java/lang/invoke/MethodHandle" ∧ yL_parties.cls ≠ "java/lang/invoke/VarHandle" ∧ (parseMethodDescriptor yL_parties.desc).map (fun d => d.parameters.length) = some 3 := by decide +kernel
theorem hd_yX12_parties : yX12_parties.cls = RX12 ∧ yX12_parties.cls ≠ "java/lang/invoke/MethodHandle" ∧ yX12_parties.cls ≠ "java/lang/invoke/VarHandle" ∧ (parseMethodDescriptor yX12_parties.desc).map (fun d => d.parameters.length) = some 1 := by decide +kernel
theorem hd_yL_stateOf : yL_stateOf.cls = RL ∧ yL_stateOf.cls ≠ "java/lang/invoke/MethodHandle" ∧ yL_stateOf.cls ≠ "java/lang/invoke/VarHandle" ∧ (parseMethodDescriptor yL_stateOf.desc).map (fun d => d.parameters.length) = some 3 := by decide +kernel
theorem hd_yX12_stateOf : yX12_stateOf.cls = RX12 ∧ yX12_stateOf.cls ≠ "java/lang/invoke/MethodHandle" ∧ yX12_stateOf.cls ≠ "java/lang/invoke/VarHandle" ∧ (parseMethodDescriptor yX12_stateOf.desc).map (fun d => d.parameters.length) = some 1 := by decide +kernel
theorem hd_yL_seconds : yL_seconds.cls = RL ∧ yL_seconds.cls ≠ "java/lang/invoke/MethodHandle" ∧ yL_seconds.cls ≠ "java/lang/invoke/VarHandle" ∧ (parseMethodDescriptor yL_seconds.desc).map (fun d => d.parameters.length) = some 3 := by decide +kernel
theorem hd_yX12_seconds : yX12_seconds.cls = RX12 ∧ yX12_seconds.cls ≠ "java/lang/invoke/MethodHandle" ∧ yX12_seconds.cls ≠ "java/lang/invoke/VarHandle" ∧ (parseMethodDescriptor yX12_seconds.desc).map (fun d => d.parameters.length) = some 1 := by decide +kernel
theorem hd_yL_charged : yL_charged.cls = RL ∧ yL_charged.cls ≠ "java/lang/invoke/MethodHandle" ∧ yL_charged.cls ≠ "java/lang/invoke/VarHandle" ∧ (parseMethodDescriptor yL_charged.desc).map (fun d => d.parameters.length) = some 3 := by decide +kernel
theorem hd_yX12_charged : yX12_charged.cls = RX12 ∧ yX12_charged.cls ≠ "java/lang/invoke/MethodHandle" ∧ yX12_charged.cls ≠ "java/lang/invoke/VarHandle" ∧ (parseMethodDescriptor yX12_charged.desc).map (fun d => d.parameters.length) = some 1 := by decide +kernel
theorem hd_yL_covered : yL_covered.cls = RL ∧ yL_covered.cls ≠ "java/lang/invoke/MethodHandle" ∧ yL_covered.cls ≠ "java/lang/invoke/VarHandle" ∧ (parseMethodDescriptor yL_covered.desc).map (fun d => d.parameters.length) = some 3 := by decide +kernel
theorem hd_yX12_covered : yX12_covered.cls = RX12 ∧ yX12_covered.cls ≠ "java/lang/invoke/MethodHandle" ∧ yX12_covered.cls ≠ "java/lang/invoke/VarHandle" ∧ (parseMethodDescriptor yX12_covered.desc).map (fun d => d.parameters.length) = some 1 := by decide +kernel
theorem hd_yL_ratedByEvents : yL_ratedByEvents.cls = RL ∧ yL_ratedByEvents.cls ≠ "java/lang/invoke/MethodHandle" ∧ yL_ratedByEvents.cls ≠ "java/lang/invoke/VarHandle" ∧ (parseMethodDescriptor yL_ratedByEvents.desc).map (fun d => d.parameters.length) = some 3 := by decide +kernel
theorem hd_yX12_ratedByEvents : yX12_ratedByEvents.cls = RX12 ∧ yX12_ratedByEvents.cls ≠ "java/lang/invoke/MethodHandle" ∧ yX12_ratedByEvents.cls ≠ "java/lang/invoke/VarHandle" ∧ (parseMethodDescriptor yX12_ratedByEvents.desc).map (fun d => d.parameters.length) = some 1 := by decide +kernel
theorem hd_yL_tag : yL_tag.cls = RL ∧ yL_tag.cls ≠ "java/lang/invoke/MethodHandle" ∧ yL_tag.cls ≠ "java/lang/invoke/VarHandle" ∧ (parseMethodDescriptor yL_tag.desc).map (fun d => d.parameters.length) = some 3 := by decide +kernel
theorem hd_yX12_tag : yX12_tag.cls = RX12 ∧ yX12_tag.cls ≠ "java/lang/invoke/MethodHandle" ∧ yX12_tag.cls ≠ "java/lang/invoke/VarHandle" ∧ (parseMethodDescriptor yX12_tag.desc).map (fun d => d.parameters.length) = some 1 := by decide +kernel
theorem hd_yL_seal : yL_seal.cls = RL ∧ yL_seal.cls ≠ "java/lang/invoke/MethodHandle" ∧ yL_seal.cls ≠ "java/lang/invoke/VarHandle" ∧ (parseMethodDescriptor yL_seal.desc).map (fun d => d.parameters.length) = some 3 := by decide +kernel
theorem hd_yX12_seal : yX12_seal.cls = RX12 ∧ yX12_seal.cls ≠ "java/lang/invoke/MethodHandle" ∧ yX12_seal.cls ≠ "java/lang/invoke/VarHandle" ∧ (parseMethodDescriptor yX12_seal.desc).map (fun d => d.parameters.length) = some 1 := by decide +kernel
theorem hd_yL_stamp : yL_stamp.cls = RL ∧ yL_stamp.cls ≠ "java/lang/invoke/MethodHandle" ∧ yL_stamp.cls ≠ "java/lang/invoke/VarHandle" ∧ (parseMethodDescriptor yL_stamp.desc).map (fun d => d.parameters.length) = some 3 := by decide +kernel
theorem hd_yX12_stamp : yX12_stamp.cls = RX12 ∧ yX12_stamp.cls ≠ "java/lang/invoke/MethodHandle" ∧ yX12_stamp.cls ≠ "java/lang/invoke/VarHandle" ∧ (parseMethodDescriptor yX12_stamp.desc).map (fun d => d.parameters.length) = some 1 := by decide +kernel
-- setZone
set_option maxRecDepth 100000 in
set_option maxHeartbeats 8000000 in
theorem lw_setZone {p : Program} {l : Launch} {e : Env} {s : State} {m : MethodId} {args : Array Value} {below : List Frame} {meth : Method} {c : Code} {A : Nat → Prop} {Q : State → Prop} {D : va_G} {dA : Nat → ClassId} (X : zc p l s m args meth c cL_law RL D dA A) (hNc : zNc s) (hml : c.maxLocals = 7) {b Ls : Nat} {sc : Nat → Int32} (hX : va_X b Ls sc s s.heap) (hbl : b < s.heap.size) (hbA : ¬ A b) {q : Nat} {W : CW} {ad : Adr} {f : Nat → Int64} {ρ : Rho} {ar : Nat → Nat} {t cells slots : Nat} (hR : RelX W ρ t) (hL : 7 * t + 7 ≤ Ls) (hL2 : Ls ≤ 3584) (hI : lwI t (E26 ρ) cells slots)
    (k : ∀ (W' : CW) (ad' : Adr) (f' : Nat → Int64) (ρ' : Rho) (c' s' : Nat), RelX W' ρ' (t + 1) → lwI (t + 1) (E26 ρ') c' s' → zz p l e lwR s m args below meth c A (cx D dA A W'.1 W'.2.1 W'.2.2 ad' ((q, .inl (dA 7, 1, .inr (.inl f'))) :: xR dA ρ' ar)) c' s' Q 2319 [(4, .int (nI (7 * t))), (3, .ref q), (2, .ref (ar 40)), (1, .ref (ad' 11 0)), (0, .ref b)] [] []) : zz p l e lwR s m args below meth c A (cx D dA A W.1 W.2.1 W.2.2 ad ((q, .inl (dA 7, 1, .inr (.inl f))) :: xR dA ρ ar)) cells slots Q 192 [(4, .int (nI (7 * t))), (3, .ref q), (2, .ref (ar 40)), (1, .ref (ad 11 0)), (0, .ref b)] [] [] := by
  obtain ⟨hI1, hI2⟩ := hI
  have h80 := @E26_le ρ
  obtain ⟨nw, hRel⟩ := hR
  have h11 : 0 < W.2.2 11 := by rw [hRel.r3.1.1]; decide
  obtain ⟨o, ρ', a, W', f', r5, hfc, hcd, hw, hfr, h39, hans, hRX, hE⟩ := OKR.use (f := f) (f_setZone hRel (sc (7 * t + 1)) (sc (7 * t + 2)))
  have h81 := @E26_le ρ'
  refine z_aload_n X dL_law_192 rfl rfl ?_
  refine z_aload_n X dL_law_193 rfl rfl ?_
  refine z_iload X dL_law_194 rfl ?_
  refine z_iconst (v := nI 1) X dL_law_196 (by decide) ?_
  refine z_iadd X dL_law_197 ?_
  rw [(nI_arg (j := 1) hL hL2 (by decide)).1]
  refine z_sld X hX hbl hbA (nI_arg hL hL2 (by decide)).2 dL_law_198 ?_
  rw [nI_clamp (by omega)]
  refine z_aload_n X dL_law_199 rfl rfl ?_
  refine z_iload X dL_law_200 rfl ?_
  refine z_iconst (v := nI 2) X dL_law_202 (by decide) ?_
  refine z_iadd X dL_law_203 ?_
  rw [(nI_arg (j := 2) hL hL2 (by decide)).1]
  refine z_sld X hX hbl hbA (nI_arg hL hL2 (by decide)).2 dL_law_204 ?_
  rw [nI_clamp (by omega)]
  refine z_aload_n X dL_law_205 rfl rfl ?_
  refine z_callWi (As := [.ref (ad 11 0), .int (sc (7 * t + 1)), .int (sc (7 * t + 2)), .ref q]) (rest := []) (nA := 4) (mc := 2) (ms := 12) (rm := ({ frames := 200, cells := 2, slots := 12, locals := 2000 } : Room)) (S := CW × (Nat → Int64) × Adr) (post := fun r u => wR W.1 W.2.1 W.2.2 f cd3 o = (u.1, u.2.1, r) ∧ axt W.2.2 ad u.2.2 ∧ ∀ k, W.2.2 k ≤ u.1.2.2 k) (G1 := fun u => cx D dA A u.1.1 u.1.2.1 u.1.2.2 u.2.2 ((q, .inl (dA 7, 1, .inr (.inl u.2.1))) :: xR dA ρ ar)) X hNc (cw_setZone l X.2.2.2.2.2.2.2.2 X.2.2.2.2.2.2.1 h11 hcd hfc) g_312 g_313 g_0 g_314 hd_yL_setZone.2 ⟨rfl, rfl, Nat.le_of_ble_eq_true rfl, Nat.le_of_ble_eq_true rfl⟩ rfl rfl (Nat.le_of_ble_eq_true rfl) dL_law_206 ⟨by show _ ≤ 601024; omega, by show _ ≤ 7293034; omega⟩ (fun r u hu => ?_)
  obtain ⟨W2, f2, ad'⟩ := u
  obtain ⟨hu1, hax, hN⟩ := hu
  have e1 := hw.symm.trans hu1
  simp only [Prod.mk.injEq] at e1
  obtain ⟨rfl, rfl, rfl⟩ := e1
  have ha1 : ad' 11 0 = ad 11 0 := hax 11 0 (ex_k (by decide) h11) (by decide)
  rw [← ha1]
  have h11' : 0 < W'.2.2 11 := Nat.lt_of_lt_of_le h11 (hN 11)
  refine z_istore X dL_law_209 (by rw [hml]; decide) rfl rfl ?_
  refine z_aload_n X dL_law_211 rfl rfl ?_
  refine z_aload_n X dL_law_212 rfl rfl ?_
  refine z_iload X dL_law_213 rfl ?_
  refine z_iconst (v := nI 1) X dL_law_215 (by decide) ?_
  refine z_iadd X dL_law_216 ?_
  rw [(nI_arg (j := 1) hL hL2 (by decide)).1]
  refine z_sld X hX hbl hbA (nI_arg hL hL2 (by decide)).2 dL_law_217 ?_
  rw [nI_clamp (by omega)]
  refine z_aload_n X dL_law_218 rfl rfl ?_
  refine z_iload X dL_law_219 rfl ?_
  refine z_iconst (v := nI 2) X dL_law_221 (by decide) ?_
  refine z_iadd X dL_law_222 ?_
  rw [(nI_arg (j := 2) hL hL2 (by decide)).1]
  refine z_sld X hX hbl hbA (nI_arg hL hL2 (by decide)).2 dL_law_223 ?_
  rw [nI_clamp (by omega)]
  refine z_callVi (As := [.int (sc (7 * t + 1)), .int (sc (7 * t + 2))]) (rest := []) (nA := 2) (mc := 0) (ms := 0) (rm := ({ frames := 60, cells := 0, slots := 0, locals := 600 } : Room)) (r0 := a) (pu := fun (_ : Unit) => True) (G1 := fun _ => cx D dA A W'.1 W'.2.1 W'.2.2 ad' ((q, .inl (dA 7, 1, .inr (.inl f'))) :: xR dA ρ' ar)) X (met_ref (xs := [(q, .inl (dA 7, 1, .inr (.inl f')))]) X.2.2.2.2.2.2.1 (fun A' n' hA' => cr_setZone l X.2.2.2.2.2.2.2.2 hA' hfr)) g_1432 g_1433 g_1434 g_15 g_1435 hd_yX12_setZone ⟨rfl, rfl, Nat.le_of_ble_eq_true rfl, Nat.le_of_ble_eq_true rfl⟩ rfl (fun _ hG => cx_recvX X (j := 1) (ci := 15) rfl rfl hG) rfl (Nat.le_of_ble_eq_true rfl) dL_law_224 ⟨by show _ ≤ 601024; omega, by show _ ≤ 7293034; omega⟩ (fun _ _ => ?_)
  refine z_istore X dL_law_227 (by rw [hml]; decide) rfl rfl ?_
  refine z_aload_n X dL_law_229 rfl rfl ?_
  refine z_callVi (As := []) (rest := []) (nA := 0) (mc := 0) (ms := 0) (rm := ({ frames := 20, cells := 0, slots := 0, locals := 200 } : Room)) (r0 := ρ' 39 0) (pu := fun (_ : Unit) => True) (G1 := fun _ => cx D dA A W'.1 W'.2.1 W'.2.2 ad' ((q, .inl (dA 7, 1, .inr (.inl f'))) :: xR dA ρ' ar)) X (met_ref (xs := [(q, .inl (dA 7, 1, .inr (.inl f')))]) X.2.2.2.2.2.2.1 (fun A' n' hA' => cr_thrown l X.2.2.2.2.2.2.2.2 hA' (show fr_thrown ρ' = some (ρ' 39 0) from rfl))) g_1428 g_1429 g_1430 g_15 g_1431 hd_yX12_thrown ⟨rfl, rfl, Nat.le_of_ble_eq_true rfl, Nat.le_of_ble_eq_true rfl⟩ rfl (fun _ hG => cx_recvX X (j := 1) (ci := 15) rfl rfl hG) rfl (Nat.le_of_ble_eq_true rfl) dL_law_230 ⟨by show _ ≤ 601024; omega, by show _ ≤ 7293034; omega⟩ (fun _ _ => ?_)
  refine z_iload X dL_law_233 rfl ?_
  refine z_icmp_eq (tgt := 240) X dL_law_235 (by decide) (fun _ => ?_) (fun z => absurd h39 z)
  refine z_iload X dL_law_240 rfl ?_
  have fin : zz p l e lwR s m args below meth c A (cx D dA A W'.1 W'.2.1 W'.2.2 ad' ((q, .inl (dA 7, 1, .inr (.inl f'))) :: xR dA ρ' ar)) (cells + 2 + 0 + 0) (slots + 12 + 0 + 0) Q 257 [(6, .int a), (5, .int r5), (4, .int (nI (7 * t))), (3, .ref q), (2, .ref (ar 40)), (1, .ref (ad' 11 0)), (0, .ref b)] [] [] := by
    refine z_goto (tgt := 2319) X dL_law_257 (by decide) ?_
    exact zz.forget (fun x hx => List.mem_cons_of_mem _ (List.mem_cons_of_mem _ hx)) (k W' ad' f' ρ' _ _ hRX.later ⟨by omega, by omega⟩)
  refine z_if_ne (tgt := 257) X dL_law_242 (by decide) (fun z => ?_) (fun _ => fin)
  refine z_aload_n X dL_law_245 rfl rfl ?_
  refine z_iconst (v := 0) X dL_law_246 (by decide) ?_
  refine c_laldX X 0 (o := a.toInt64) rfl (fun y => y.elim (fun y => absurd y (by decide)) (fun y => absurd y (by decide))) (hans z) dL_law_247 ?_
  refine z_iload X dL_law_248 rfl ?_
  refine z_i2l X dL_law_250 ?_
  refine z_lcmp X dL_law_251 ?_
  refine z_if_eq (tgt := 257) X dL_law_252 (by decide) (fun _ => fin) (fun y => absurd (lg_cmp_self _) y)
-- setChannels
set_option maxRecDepth 100000 in
set_option maxHeartbeats 8000000 in
theorem lw_setChannels {p : Program} {l : Launch} {e : Env} {s : State} {m : MethodId} {args : Array Value} {below : List Frame} {meth : Method} {c : Code} {A : Nat → Prop} {Q : State → Prop} {D : va_G} {dA : Nat → ClassId} (X : zc p l s m args meth c cL_law RL D dA A) (hNc : zNc s) (hml : c.maxLocals = 7) {b Ls : Nat} {sc : Nat → Int32} (hX : va_X b Ls sc s s.heap) (hbl : b < s.heap.size) (hbA : ¬ A b) {q : Nat} {W : CW} {ad : Adr} {f : Nat → Int64} {ρ : Rho} {ar : Nat → Nat} {t cells slots : Nat} (hR : RelX W ρ t) (hL : 7 * t + 7 ≤ Ls) (hL2 : Ls ≤ 3584) (hI : lwI t (E26 ρ) cells slots)
    (k : ∀ (W' : CW) (ad' : Adr) (f' : Nat → Int64) (ρ' : Rho) (c' s' : Nat), RelX W' ρ' (t + 1) → lwI (t + 1) (E26 ρ') c' s' → zz p l e lwR s m args below meth c A (cx D dA A W'.1 W'.2.1 W'.2.2 ad' ((q, .inl (dA 7, 1, .inr (.inl f'))) :: xR dA ρ' ar)) c' s' Q 2319 [(4, .int (nI (7 * t))), (3, .ref q), (2, .ref (ar 40)), (1, .ref (ad' 11 0)), (0, .ref b)] [] []) : zz p l e lwR s m args below meth c A (cx D dA A W.1 W.2.1 W.2.2 ad ((q, .inl (dA 7, 1, .inr (.inl f))) :: xR dA ρ ar)) cells slots Q 260 [(4, .int (nI (7 * t))), (3, .ref q), (2, .ref (ar 40)), (1, .ref (ad 11 0)), (0, .ref b)] [] [] := by
  obtain ⟨hI1, hI2⟩ := hI
  have h80 := @E26_le ρ
  obtain ⟨nw, hRel⟩ := hR
  have h11 : 0 < W.2.2 11 := by rw [hRel.r3.1.1]; decide
  obtain ⟨o, ρ', a, W', f', r5, hfc, hcd, hw, hfr, h39, hans, hRX, hE⟩ := OKR.use (f := f) (f_setChannels hRel (sc (7 * t + 1)) (sc (7 * t + 2)) (sc (7 * t + 3)))
  have h81 := @E26_le ρ'
  refine z_aload_n X dL_law_260 rfl rfl ?_
  refine z_aload_n X dL_law_261 rfl rfl ?_
  refine z_iload X dL_law_262 rfl ?_
  refine z_iconst (v := nI 1) X dL_law_264 (by decide) ?_
  refine z_iadd X dL_law_265 ?_
  rw [(nI_arg (j := 1) hL hL2 (by decide)).1]
  refine z_sld X hX hbl hbA (nI_arg hL hL2 (by decide)).2 dL_law_266 ?_
  rw [nI_clamp (by omega)]
  refine z_aload_n X dL_law_267 rfl rfl ?_
  refine z_iload X dL_law_268 rfl ?_
  refine z_iconst (v := nI 2) X dL_law_270 (by decide) ?_
  refine z_iadd X dL_law_271 ?_
  rw [(nI_arg (j := 2) hL hL2 (by decide)).1]
  refine z_sld X hX hbl hbA (nI_arg hL hL2 (by decide)).2 dL_law_272 ?_
  rw [nI_clamp (by omega)]
  refine z_aload_n X dL_law_273 rfl rfl ?_
  refine z_iload X dL_law_274 rfl ?_
  refine z_iconst (v := nI 3) X dL_law_276 (by decide) ?_
  refine z_iadd X dL_law_277 ?_
  rw [(nI_arg (j := 3) hL hL2 (by decide)).1]
  refine z_sld X hX hbl hbA (nI_arg hL hL2 (by decide)).2 dL_law_278 ?_
  rw [nI_clamp (by omega)]
  refine z_aload_n X dL_law_279 rfl rfl ?_
  refine z_callWi (As := [.ref (ad 11 0), .int (sc (7 * t + 1)), .int (sc (7 * t + 2)), .int (sc (7 * t + 3)), .ref q]) (rest := []) (nA := 5) (mc := 2) (ms := 12) (rm := ({ frames := 60, cells := 2, slots := 12, locals := 600 } : Room)) (S := CW × (Nat → Int64) × Adr) (post := fun r u => wR W.1 W.2.1 W.2.2 f cd12 o = (u.1, u.2.1, r) ∧ axt W.2.2 ad u.2.2 ∧ ∀ k, W.2.2 k ≤ u.1.2.2 k) (G1 := fun u => cx D dA A u.1.1 u.1.2.1 u.1.2.2 u.2.2 ((q, .inl (dA 7, 1, .inr (.inl u.2.1))) :: xR dA ρ ar)) X hNc (cw_setChannels l X.2.2.2.2.2.2.2.2 X.2.2.2.2.2.2.1 h11 hcd hfc) g_433 g_434 g_0 g_435 hd_yL_setChannels.2 ⟨rfl, rfl, Nat.le_of_ble_eq_true rfl, Nat.le_of_ble_eq_true rfl⟩ rfl rfl (Nat.le_of_ble_eq_true rfl) dL_law_280 ⟨by show _ ≤ 601024; omega, by show _ ≤ 7293034; omega⟩ (fun r u hu => ?_)
  obtain ⟨W2, f2, ad'⟩ := u
  obtain ⟨hu1, hax, hN⟩ := hu
  have e1 := hw.symm.trans hu1
  simp only [Prod.mk.injEq] at e1
  obtain ⟨rfl, rfl, rfl⟩ := e1
  have ha1 : ad' 11 0 = ad 11 0 := hax 11 0 (ex_k (by decide) h11) (by decide)
  rw [← ha1]
  have h11' : 0 < W'.2.2 11 := Nat.lt_of_lt_of_le h11 (hN 11)
  refine z_istore X dL_law_283 (by rw [hml]; decide) rfl rfl ?_
  refine z_aload_n X dL_law_285 rfl rfl ?_
  refine z_aload_n X dL_law_286 rfl rfl ?_
  refine z_iload X dL_law_287 rfl ?_
  refine z_iconst (v := nI 1) X dL_law_289 (by decide) ?_
  refine z_iadd X dL_law_290 ?_
  rw [(nI_arg (j := 1) hL hL2 (by decide)).1]
  refine z_sld X hX hbl hbA (nI_arg hL hL2 (by decide)).2 dL_law_291 ?_
  rw [nI_clamp (by omega)]
  refine z_aload_n X dL_law_292 rfl rfl ?_
  refine z_iload X dL_law_293 rfl ?_
  refine z_iconst (v := nI 2) X dL_law_295 (by decide) ?_
  refine z_iadd X dL_law_296 ?_
  rw [(nI_arg (j := 2) hL hL2 (by decide)).1]
  refine z_sld X hX hbl hbA (nI_arg hL hL2 (by decide)).2 dL_law_297 ?_
  rw [nI_clamp (by omega)]
  refine z_aload_n X dL_law_298 rfl rfl ?_
  refine z_iload X dL_law_299 rfl ?_
  refine z_iconst (v := nI 3) X dL_law_301 (by decide) ?_
  refine z_iadd X dL_law_302 ?_
  rw [(nI_arg (j := 3) hL hL2 (by decide)).1]
  refine z_sld X hX hbl hbA (nI_arg hL hL2 (by decide)).2 dL_law_303 ?_
  rw [nI_clamp (by omega)]
  refine z_callVi (As := [.int (sc (7 * t + 1)), .int (sc (7 * t + 2)), .int (sc (7 * t + 3))]) (rest := []) (nA := 3) (mc := 0) (ms := 0) (rm := ({ frames := 60, cells := 0, slots := 0, locals := 600 } : Room)) (r0 := a) (pu := fun (_ : Unit) => True) (G1 := fun _ => cx D dA A W'.1 W'.2.1 W'.2.2 ad' ((q, .inl (dA 7, 1, .inr (.inl f'))) :: xR dA ρ' ar)) X (met_ref (xs := [(q, .inl (dA 7, 1, .inr (.inl f')))]) X.2.2.2.2.2.2.1 (fun A' n' hA' => cr_setChannels l X.2.2.2.2.2.2.2.2 hA' hfr)) g_1449 g_1450 g_1451 g_15 g_1452 hd_yX12_setChannels ⟨rfl, rfl, Nat.le_of_ble_eq_true rfl, Nat.le_of_ble_eq_true rfl⟩ rfl (fun _ hG => cx_recvX X (j := 1) (ci := 15) rfl rfl hG) rfl (Nat.le_of_ble_eq_true rfl) dL_law_304 ⟨by show _ ≤ 601024; omega, by show _ ≤ 7293034; omega⟩ (fun _ _ => ?_)
  refine z_istore X dL_law_307 (by rw [hml]; decide) rfl rfl ?_
  refine z_aload_n X dL_law_309 rfl rfl ?_
  refine z_callVi (As := []) (rest := []) (nA := 0) (mc := 0) (ms := 0) (rm := ({ frames := 20, cells := 0, slots := 0, locals := 200 } : Room)) (r0 := ρ' 39 0) (pu := fun (_ : Unit) => True) (G1 := fun _ => cx D dA A W'.1 W'.2.1 W'.2.2 ad' ((q, .inl (dA 7, 1, .inr (.inl f'))) :: xR dA ρ' ar)) X (met_ref (xs := [(q, .inl (dA 7, 1, .inr (.inl f')))]) X.2.2.2.2.2.2.1 (fun A' n' hA' => cr_thrown l X.2.2.2.2.2.2.2.2 hA' (show fr_thrown ρ' = some (ρ' 39 0) from rfl))) g_1428 g_1429 g_1430 g_15 g_1431 hd_yX12_thrown ⟨rfl, rfl, Nat.le_of_ble_eq_true rfl, Nat.le_of_ble_eq_true rfl⟩ rfl (fun _ hG => cx_recvX X (j := 1) (ci := 15) rfl rfl hG) rfl (Nat.le_of_ble_eq_true rfl) dL_law_310 ⟨by show _ ≤ 601024; omega, by show _ ≤ 7293034; omega⟩ (fun _ _ => ?_)
  refine z_iload X dL_law_313 rfl ?_
  refine z_icmp_eq (tgt := 320) X dL_law_315 (by decide) (fun _ => ?_) (fun z => absurd h39 z)
  refine z_iload X dL_law_320 rfl ?_
  have fin : zz p l e lwR s m args below meth c A (cx D dA A W'.1 W'.2.1 W'.2.2 ad' ((q, .inl (dA 7, 1, .inr (.inl f'))) :: xR dA ρ' ar)) (cells + 2 + 0 + 0) (slots + 12 + 0 + 0) Q 337 [(6, .int a), (5, .int r5), (4, .int (nI (7 * t))), (3, .ref q), (2, .ref (ar 40)), (1, .ref (ad' 11 0)), (0, .ref b)] [] [] := by
    refine z_goto (tgt := 2319) X dL_law_337 (by decide) ?_
    exact zz.forget (fun x hx => List.mem_cons_of_mem _ (List.mem_cons_of_mem _ hx)) (k W' ad' f' ρ' _ _ hRX.later ⟨by omega, by omega⟩)
  refine z_if_ne (tgt := 337) X dL_law_322 (by decide) (fun z => ?_) (fun _ => fin)
  refine z_aload_n X dL_law_325 rfl rfl ?_
  refine z_iconst (v := 0) X dL_law_326 (by decide) ?_
  refine c_laldX X 0 (o := a.toInt64) rfl (fun y => y.elim (fun y => absurd y (by decide)) (fun y => absurd y (by decide))) (hans z) dL_law_327 ?_
  refine z_iload X dL_law_328 rfl ?_
  refine z_i2l X dL_law_330 ?_
  refine z_lcmp X dL_law_331 ?_
  refine z_if_eq (tgt := 337) X dL_law_332 (by decide) (fun _ => fin) (fun y => absurd (lg_cmp_self _) y)
-- setRate
set_option maxRecDepth 100000 in
set_option maxHeartbeats 8000000 in
theorem lw_setRate {p : Program} {l : Launch} {e : Env} {s : State} {m : MethodId} {args : Array Value} {below : List Frame} {meth : Method} {c : Code} {A : Nat → Prop} {Q : State → Prop} {D : va_G} {dA : Nat → ClassId} (X : zc p l s m args meth c cL_law RL D dA A) (hNc : zNc s) (hml : c.maxLocals = 7) {b Ls : Nat} {sc : Nat → Int32} (hX : va_X b Ls sc s s.heap) (hbl : b < s.heap.size) (hbA : ¬ A b) {q : Nat} {W : CW} {ad : Adr} {f : Nat → Int64} {ρ : Rho} {ar : Nat → Nat} {t cells slots : Nat} (hR : RelX W ρ t) (hL : 7 * t + 7 ≤ Ls) (hL2 : Ls ≤ 3584) (hI : lwI t (E26 ρ) cells slots)
    (k : ∀ (W' : CW) (ad' : Adr) (f' : Nat → Int64) (ρ' : Rho) (c' s' : Nat), RelX W' ρ' (t + 1) → lwI (t + 1) (E26 ρ') c' s' → zz p l e lwR s m args below meth c A (cx D dA A W'.1 W'.2.1 W'.2.2 ad' ((q, .inl (dA 7, 1, .inr (.inl f'))) :: xR dA ρ' ar)) c' s' Q 2319 [(4, .int (nI (7 * t))), (3, .ref q), (2, .ref (ar 40)), (1, .ref (ad' 11 0)), (0, .ref b)] [] []) : zz p l e lwR s m args below meth c A (cx D dA A W.1 W.2.1 W.2.2 ad ((q, .inl (dA 7, 1, .inr (.inl f))) :: xR dA ρ ar)) cells slots Q 340 [(4, .int (nI (7 * t))), (3, .ref q), (2, .ref (ar 40)), (1, .ref (ad 11 0)), (0, .ref b)] [] [] := by
  obtain ⟨hI1, hI2⟩ := hI
  have h80 := @E26_le ρ
  obtain ⟨nw, hRel⟩ := hR
  have h11 : 0 < W.2.2 11 := by rw [hRel.r3.1.1]; decide
  obtain ⟨o, ρ', a, W', f', r5, hfc, hcd, hw, hfr, h39, hans, hRX, hE⟩ := OKW.use (f := f) (f_setRate hRel (by omega) (sc (7 * t + 1)) ((if sc (7 * t + 2) = 0 then 0 else 1)) (sc (7 * t + 3)))
  have h81 := @E26_le ρ'
  refine z_aload_n X dL_law_340 rfl rfl ?_
  refine z_aload_n X dL_law_341 rfl rfl ?_
  refine z_iload X dL_law_342 rfl ?_
  refine z_iconst (v := nI 1) X dL_law_344 (by decide) ?_
  refine z_iadd X dL_law_345 ?_
  rw [(nI_arg (j := 1) hL hL2 (by decide)).1]
  refine z_sld X hX hbl hbA (nI_arg hL hL2 (by decide)).2 dL_law_346 ?_
  rw [nI_clamp (by omega)]
  refine z_aload_n X dL_law_347 rfl rfl ?_
  refine z_iload X dL_law_348 rfl ?_
  refine z_iconst (v := nI 2) X dL_law_350 (by decide) ?_
  refine z_iadd X dL_law_351 ?_
  rw [(nI_arg (j := 2) hL hL2 (by decide)).1]
  refine z_sld X hX hbl hbA (nI_arg hL hL2 (by decide)).2 dL_law_352 ?_
  rw [nI_clamp (by omega)]
  refine z_bool X dL_law_353 dL_law_356 dL_law_357 dL_law_360 (by decide) (by decide) ?_
  refine z_aload_n X dL_law_361 rfl rfl ?_
  refine z_iload X dL_law_362 rfl ?_
  refine z_iconst (v := nI 3) X dL_law_364 (by decide) ?_
  refine z_iadd X dL_law_365 ?_
  rw [(nI_arg (j := 3) hL hL2 (by decide)).1]
  refine z_sld X hX hbl hbA (nI_arg hL hL2 (by decide)).2 dL_law_366 ?_
  rw [nI_clamp (by omega)]
  refine z_aload_n X dL_law_367 rfl rfl ?_
  refine z_callWi (As := [.ref (ad 11 0), .int (sc (7 * t + 1)), .int ((if sc (7 * t + 2) = 0 then 0 else 1)), .int (sc (7 * t + 3)), .ref q]) (rest := []) (nA := 5) (mc := 2) (ms := 912) (rm := ({ frames := 220, cells := 2, slots := 912, locals := 2200 } : Room)) (S := CW × (Nat → Int64) × Adr) (post := fun r u => wW W.1 W.2.1 W.2.2 f cd2 o = (u.1, u.2.1, r) ∧ axt W.2.2 ad u.2.2 ∧ ∀ k, W.2.2 k ≤ u.1.2.2 k) (G1 := fun u => cx D dA A u.1.1 u.1.2.1 u.1.2.2 u.2.2 ((q, .inl (dA 7, 1, .inr (.inl u.2.1))) :: xR dA ρ ar)) X hNc (cw_setRate l X.2.2.2.2.2.2.2.2 X.2.2.2.2.2.2.1 h11 hcd hfc) g_445 g_446 g_0 g_447 hd_yL_setRate.2 ⟨rfl, rfl, Nat.le_of_ble_eq_true rfl, Nat.le_of_ble_eq_true rfl⟩ rfl rfl (Nat.le_of_ble_eq_true rfl) dL_law_368 ⟨by show _ ≤ 601024; omega, by show _ ≤ 7293034; omega⟩ (fun r u hu => ?_)
  obtain ⟨W2, f2, ad'⟩ := u
  obtain ⟨hu1, hax, hN⟩ := hu
  have e1 := hw.symm.trans hu1
  simp only [Prod.mk.injEq] at e1
  obtain ⟨rfl, rfl, rfl⟩ := e1
  have ha1 : ad' 11 0 = ad 11 0 := hax 11 0 (ex_k (by decide) h11) (by decide)
  rw [← ha1]
  have h11' : 0 < W'.2.2 11 := Nat.lt_of_lt_of_le h11 (hN 11)
  refine z_istore X dL_law_371 (by rw [hml]; decide) rfl rfl ?_
  refine z_aload_n X dL_law_373 rfl rfl ?_
  refine z_aload_n X dL_law_374 rfl rfl ?_
  refine z_iload X dL_law_375 rfl ?_
  refine z_iconst (v := nI 1) X dL_law_377 (by decide) ?_
  refine z_iadd X dL_law_378 ?_
  rw [(nI_arg (j := 1) hL hL2 (by decide)).1]
  refine z_sld X hX hbl hbA (nI_arg hL hL2 (by decide)).2 dL_law_379 ?_
  rw [nI_clamp (by omega)]
  refine z_aload_n X dL_law_380 rfl rfl ?_
  refine z_iload X dL_law_381 rfl ?_
  refine z_iconst (v := nI 2) X dL_law_383 (by decide) ?_
  refine z_iadd X dL_law_384 ?_
  rw [(nI_arg (j := 2) hL hL2 (by decide)).1]
  refine z_sld X hX hbl hbA (nI_arg hL hL2 (by decide)).2 dL_law_385 ?_
  rw [nI_clamp (by omega)]
  refine z_bool X dL_law_386 dL_law_389 dL_law_390 dL_law_393 (by decide) (by decide) ?_
  refine z_aload_n X dL_law_394 rfl rfl ?_
  refine z_iload X dL_law_395 rfl ?_
  refine z_iconst (v := nI 3) X dL_law_397 (by decide) ?_
  refine z_iadd X dL_law_398 ?_
  rw [(nI_arg (j := 3) hL hL2 (by decide)).1]
  refine z_sld X hX hbl hbA (nI_arg hL hL2 (by decide)).2 dL_law_399 ?_
  rw [nI_clamp (by omega)]
  refine z_callVi (As := [.int (sc (7 * t + 1)), .int ((if sc (7 * t + 2) = 0 then 0 else 1)), .int (sc (7 * t + 3))]) (rest := []) (nA := 3) (mc := 0) (ms := 0) (rm := ({ frames := 60, cells := 0, slots := 0, locals := 600 } : Room)) (r0 := a) (pu := fun (_ : Unit) => True) (G1 := fun _ => cx D dA A W'.1 W'.2.1 W'.2.2 ad' ((q, .inl (dA 7, 1, .inr (.inl f'))) :: xR dA ρ' ar)) X (met_ref (xs := [(q, .inl (dA 7, 1, .inr (.inl f')))]) X.2.2.2.2.2.2.1 (fun A' n' hA' => cr_setRate l X.2.2.2.2.2.2.2.2 hA' hfr)) g_1457 g_1458 g_1459 g_15 g_1460 hd_yX12_setRate ⟨rfl, rfl, Nat.le_of_ble_eq_true rfl, Nat.le_of_ble_eq_true rfl⟩ rfl (fun _ hG => cx_recvX X (j := 1) (ci := 15) rfl rfl hG) rfl (Nat.le_of_ble_eq_true rfl) dL_law_400 ⟨by show _ ≤ 601024; omega, by show _ ≤ 7293034; omega⟩ (fun _ _ => ?_)
  refine z_istore X dL_law_403 (by rw [hml]; decide) rfl rfl ?_
  refine z_aload_n X dL_law_405 rfl rfl ?_
  refine z_callVi (As := []) (rest := []) (nA := 0) (mc := 0) (ms := 0) (rm := ({ frames := 20, cells := 0, slots := 0, locals := 200 } : Room)) (r0 := ρ' 39 0) (pu := fun (_ : Unit) => True) (G1 := fun _ => cx D dA A W'.1 W'.2.1 W'.2.2 ad' ((q, .inl (dA 7, 1, .inr (.inl f'))) :: xR dA ρ' ar)) X (met_ref (xs := [(q, .inl (dA 7, 1, .inr (.inl f')))]) X.2.2.2.2.2.2.1 (fun A' n' hA' => cr_thrown l X.2.2.2.2.2.2.2.2 hA' (show fr_thrown ρ' = some (ρ' 39 0) from rfl))) g_1428 g_1429 g_1430 g_15 g_1431 hd_yX12_thrown ⟨rfl, rfl, Nat.le_of_ble_eq_true rfl, Nat.le_of_ble_eq_true rfl⟩ rfl (fun _ hG => cx_recvX X (j := 1) (ci := 15) rfl rfl hG) rfl (Nat.le_of_ble_eq_true rfl) dL_law_406 ⟨by show _ ≤ 601024; omega, by show _ ≤ 7293034; omega⟩ (fun _ _ => ?_)
  refine z_iload X dL_law_409 rfl ?_
  refine z_icmp_eq (tgt := 416) X dL_law_411 (by decide) (fun _ => ?_) (fun z => absurd h39 z)
  refine z_iload X dL_law_416 rfl ?_
  have fin : zz p l e lwR s m args below meth c A (cx D dA A W'.1 W'.2.1 W'.2.2 ad' ((q, .inl (dA 7, 1, .inr (.inl f'))) :: xR dA ρ' ar)) (cells + 2 + 0 + 0) (slots + 912 + 0 + 0) Q 433 [(6, .int a), (5, .int r5), (4, .int (nI (7 * t))), (3, .ref q), (2, .ref (ar 40)), (1, .ref (ad' 11 0)), (0, .ref b)] [] [] := by
    refine z_goto (tgt := 2319) X dL_law_433 (by decide) ?_
    exact zz.forget (fun x hx => List.mem_cons_of_mem _ (List.mem_cons_of_mem _ hx)) (k W' ad' f' ρ' _ _ hRX ⟨by omega, by omega⟩)
  refine z_if_ne (tgt := 433) X dL_law_418 (by decide) (fun z => ?_) (fun _ => fin)
  refine z_aload_n X dL_law_421 rfl rfl ?_
  refine z_iconst (v := 0) X dL_law_422 (by decide) ?_
  refine c_laldX X 0 (o := a.toInt64) rfl (fun y => y.elim (fun y => absurd y (by decide)) (fun y => absurd y (by decide))) (hans z) dL_law_423 ?_
  refine z_iload X dL_law_424 rfl ?_
  refine z_i2l X dL_law_426 ?_
  refine z_lcmp X dL_law_427 ?_
  refine z_if_eq (tgt := 433) X dL_law_428 (by decide) (fun _ => fin) (fun y => absurd (lg_cmp_self _) y)
-- setSlice
set_option maxRecDepth 100000 in
set_option maxHeartbeats 8000000 in
theorem lw_setSlice {p : Program} {l : Launch} {e : Env} {s : State} {m : MethodId} {args : Array Value} {below : List Frame} {meth : Method} {c : Code} {A : Nat → Prop} {Q : State → Prop} {D : va_G} {dA : Nat → ClassId} (X : zc p l s m args meth c cL_law RL D dA A) (hNc : zNc s) (hml : c.maxLocals = 7) {b Ls : Nat} {sc : Nat → Int32} (hX : va_X b Ls sc s s.heap) (hbl : b < s.heap.size) (hbA : ¬ A b) {q : Nat} {W : CW} {ad : Adr} {f : Nat → Int64} {ρ : Rho} {ar : Nat → Nat} {t cells slots : Nat} (hR : RelX W ρ t) (hL : 7 * t + 7 ≤ Ls) (hL2 : Ls ≤ 3584) (hI : lwI t (E26 ρ) cells slots)
    (k : ∀ (W' : CW) (ad' : Adr) (f' : Nat → Int64) (ρ' : Rho) (c' s' : Nat), RelX W' ρ' (t + 1) → lwI (t + 1) (E26 ρ') c' s' → zz p l e lwR s m args below meth c A (cx D dA A W'.1 W'.2.1 W'.2.2 ad' ((q, .inl (dA 7, 1, .inr (.inl f'))) :: xR dA ρ' ar)) c' s' Q 2319 [(4, .int (nI (7 * t))), (3, .ref q), (2, .ref (ar 40)), (1, .ref (ad' 11 0)), (0, .ref b)] [] []) : zz p l e lwR s m args below meth c A (cx D dA A W.1 W.2.1 W.2.2 ad ((q, .inl (dA 7, 1, .inr (.inl f))) :: xR dA ρ ar)) cells slots Q 436 [(4, .int (nI (7 * t))), (3, .ref q), (2, .ref (ar 40)), (1, .ref (ad 11 0)), (0, .ref b)] [] [] := by
  obtain ⟨hI1, hI2⟩ := hI
  have h80 := @E26_le ρ
  obtain ⟨nw, hRel⟩ := hR
  have h11 : 0 < W.2.2 11 := by rw [hRel.r3.1.1]; decide
  obtain ⟨o, ρ', a, W', f', r5, hfc, hcd, hw, hfr, h39, hans, hRX, hE⟩ := OKR.use (f := f) (f_setSlice hRel (sc (7 * t + 1)))
  have h81 := @E26_le ρ'
  refine z_aload_n X dL_law_436 rfl rfl ?_
  refine z_aload_n X dL_law_437 rfl rfl ?_
  refine z_iload X dL_law_438 rfl ?_
  refine z_iconst (v := nI 1) X dL_law_440 (by decide) ?_
  refine z_iadd X dL_law_441 ?_
  rw [(nI_arg (j := 1) hL hL2 (by decide)).1]
  refine z_sld X hX hbl hbA (nI_arg hL hL2 (by decide)).2 dL_law_442 ?_
  rw [nI_clamp (by omega)]
  refine z_aload_n X dL_law_443 rfl rfl ?_
  refine z_callWi (As := [.ref (ad 11 0), .int (sc (7 * t + 1)), .ref q]) (rest := []) (nA := 3) (mc := 1) (ms := 6) (rm := ({ frames := 60, cells := 1, slots := 6, locals := 600 } : Room)) (S := CW × (Nat → Int64) × Adr) (post := fun r u => wR W.1 W.2.1 W.2.2 f cd2 o = (u.1, u.2.1, r) ∧ axt W.2.2 ad u.2.2 ∧ ∀ k, W.2.2 k ≤ u.1.2.2 k) (G1 := fun u => cx D dA A u.1.1 u.1.2.1 u.1.2.2 u.2.2 ((q, .inl (dA 7, 1, .inr (.inl u.2.1))) :: xR dA ρ ar)) X hNc (cw_setSlice l X.2.2.2.2.2.2.2.2 X.2.2.2.2.2.2.1 h11 hcd hfc) g_462 g_463 g_0 g_464 hd_yL_setSlice.2 ⟨rfl, rfl, Nat.le_of_ble_eq_true rfl, Nat.le_of_ble_eq_true rfl⟩ rfl rfl (Nat.le_of_ble_eq_true rfl) dL_law_444 ⟨by show _ ≤ 601024; omega, by show _ ≤ 7293034; omega⟩ (fun r u hu => ?_)
  obtain ⟨W2, f2, ad'⟩ := u
  obtain ⟨hu1, hax, hN⟩ := hu
  have e1 := hw.symm.trans hu1
  simp only [Prod.mk.injEq] at e1
  obtain ⟨rfl, rfl, rfl⟩ := e1
  have ha1 : ad' 11 0 = ad 11 0 := hax 11 0 (ex_k (by decide) h11) (by decide)
  rw [← ha1]
  have h11' : 0 < W'.2.2 11 := Nat.lt_of_lt_of_le h11 (hN 11)
  refine z_istore X dL_law_447 (by rw [hml]; decide) rfl rfl ?_
  refine z_aload_n X dL_law_449 rfl rfl ?_
  refine z_aload_n X dL_law_450 rfl rfl ?_
  refine z_iload X dL_law_451 rfl ?_
  refine z_iconst (v := nI 1) X dL_law_453 (by decide) ?_
  refine z_iadd X dL_law_454 ?_
  rw [(nI_arg (j := 1) hL hL2 (by decide)).1]
  refine z_sld X hX hbl hbA (nI_arg hL hL2 (by decide)).2 dL_law_455 ?_
  rw [nI_clamp (by omega)]
  refine z_callVi (As := [.int (sc (7 * t + 1))]) (rest := []) (nA := 1) (mc := 0) (ms := 0) (rm := ({ frames := 40, cells := 0, slots := 0, locals := 400 } : Room)) (r0 := a) (pu := fun (_ : Unit) => True) (G1 := fun _ => cx D dA A W'.1 W'.2.1 W'.2.2 ad' ((q, .inl (dA 7, 1, .inr (.inl f'))) :: xR dA ρ' ar)) X (met_ref (xs := [(q, .inl (dA 7, 1, .inr (.inl f')))]) X.2.2.2.2.2.2.1 (fun A' n' hA' => cr_setSlice l X.2.2.2.2.2.2.2.2 hA' hfr)) g_1461 g_1462 g_1463 g_15 g_1464 hd_yX12_setSlice ⟨rfl, rfl, Nat.le_of_ble_eq_true rfl, Nat.le_of_ble_eq_true rfl⟩ rfl (fun _ hG => cx_recvX X (j := 1) (ci := 15) rfl rfl hG) rfl (Nat.le_of_ble_eq_true rfl) dL_law_456 ⟨by show _ ≤ 601024; omega, by show _ ≤ 7293034; omega⟩ (fun _ _ => ?_)
  refine z_istore X dL_law_459 (by rw [hml]; decide) rfl rfl ?_
  refine z_aload_n X dL_law_461 rfl rfl ?_
  refine z_callVi (As := []) (rest := []) (nA := 0) (mc := 0) (ms := 0) (rm := ({ frames := 20, cells := 0, slots := 0, locals := 200 } : Room)) (r0 := ρ' 39 0) (pu := fun (_ : Unit) => True) (G1 := fun _ => cx D dA A W'.1 W'.2.1 W'.2.2 ad' ((q, .inl (dA 7, 1, .inr (.inl f'))) :: xR dA ρ' ar)) X (met_ref (xs := [(q, .inl (dA 7, 1, .inr (.inl f')))]) X.2.2.2.2.2.2.1 (fun A' n' hA' => cr_thrown l X.2.2.2.2.2.2.2.2 hA' (show fr_thrown ρ' = some (ρ' 39 0) from rfl))) g_1428 g_1429 g_1430 g_15 g_1431 hd_yX12_thrown ⟨rfl, rfl, Nat.le_of_ble_eq_true rfl, Nat.le_of_ble_eq_true rfl⟩ rfl (fun _ hG => cx_recvX X (j := 1) (ci := 15) rfl rfl hG) rfl (Nat.le_of_ble_eq_true rfl) dL_law_462 ⟨by show _ ≤ 601024; omega, by show _ ≤ 7293034; omega⟩ (fun _ _ => ?_)
  refine z_iload X dL_law_465 rfl ?_
  refine z_icmp_eq (tgt := 472) X dL_law_467 (by decide) (fun _ => ?_) (fun z => absurd h39 z)
  refine z_iload X dL_law_472 rfl ?_
  have fin : zz p l e lwR s m args below meth c A (cx D dA A W'.1 W'.2.1 W'.2.2 ad' ((q, .inl (dA 7, 1, .inr (.inl f'))) :: xR dA ρ' ar)) (cells + 1 + 0 + 0) (slots + 6 + 0 + 0) Q 489 [(6, .int a), (5, .int r5), (4, .int (nI (7 * t))), (3, .ref q), (2, .ref (ar 40)), (1, .ref (ad' 11 0)), (0, .ref b)] [] [] := by
    refine z_goto (tgt := 2319) X dL_law_489 (by decide) ?_
    exact zz.forget (fun x hx => List.mem_cons_of_mem _ (List.mem_cons_of_mem _ hx)) (k W' ad' f' ρ' _ _ hRX.later ⟨by omega, by omega⟩)
  refine z_if_ne (tgt := 489) X dL_law_474 (by decide) (fun z => ?_) (fun _ => fin)
  refine z_aload_n X dL_law_477 rfl rfl ?_
  refine z_iconst (v := 0) X dL_law_478 (by decide) ?_
  refine c_laldX X 0 (o := a.toInt64) rfl (fun y => y.elim (fun y => absurd y (by decide)) (fun y => absurd y (by decide))) (hans z) dL_law_479 ?_
  refine z_iload X dL_law_480 rfl ?_
  refine z_i2l X dL_law_482 ?_
  refine z_lcmp X dL_law_483 ?_
  refine z_if_eq (tgt := 489) X dL_law_484 (by decide) (fun _ => fin) (fun y => absurd (lg_cmp_self _) y)
-- setCap
set_option maxRecDepth 100000 in
set_option maxHeartbeats 8000000 in
theorem lw_setCap {p : Program} {l : Launch} {e : Env} {s : State} {m : MethodId} {args : Array Value} {below : List Frame} {meth : Method} {c : Code} {A : Nat → Prop} {Q : State → Prop} {D : va_G} {dA : Nat → ClassId} (X : zc p l s m args meth c cL_law RL D dA A) (hNc : zNc s) (hml : c.maxLocals = 7) {b Ls : Nat} {sc : Nat → Int32} (hX : va_X b Ls sc s s.heap) (hbl : b < s.heap.size) (hbA : ¬ A b) {q : Nat} {W : CW} {ad : Adr} {f : Nat → Int64} {ρ : Rho} {ar : Nat → Nat} {t cells slots : Nat} (hR : RelX W ρ t) (hL : 7 * t + 7 ≤ Ls) (hL2 : Ls ≤ 3584) (hI : lwI t (E26 ρ) cells slots)
    (k : ∀ (W' : CW) (ad' : Adr) (f' : Nat → Int64) (ρ' : Rho) (c' s' : Nat), RelX W' ρ' (t + 1) → lwI (t + 1) (E26 ρ') c' s' → zz p l e lwR s m args below meth c A (cx D dA A W'.1 W'.2.1 W'.2.2 ad' ((q, .inl (dA 7, 1, .inr (.inl f'))) :: xR dA ρ' ar)) c' s' Q 2319 [(4, .int (nI (7 * t))), (3, .ref q), (2, .ref (ar 40)), (1, .ref (ad' 11 0)), (0, .ref b)] [] []) : zz p l e lwR s m args below meth c A (cx D dA A W.1 W.2.1 W.2.2 ad ((q, .inl (dA 7, 1, .inr (.inl f))) :: xR dA ρ ar)) cells slots Q 492 [(4, .int (nI (7 * t))), (3, .ref q), (2, .ref (ar 40)), (1, .ref (ad 11 0)), (0, .ref b)] [] [] := by
  obtain ⟨hI1, hI2⟩ := hI
  have h80 := @E26_le ρ
  obtain ⟨nw, hRel⟩ := hR
  have h11 : 0 < W.2.2 11 := by rw [hRel.r3.1.1]; decide
  obtain ⟨o, ρ', a, W', f', r5, hfc, hcd, hw, hfr, h39, hans, hRX, hE⟩ := OKR.use (f := f) (f_setCap hRel (sc (7 * t + 1)) (sc (7 * t + 2)))
  have h81 := @E26_le ρ'
  refine z_aload_n X dL_law_492 rfl rfl ?_
  refine z_aload_n X dL_law_493 rfl rfl ?_
  refine z_iload X dL_law_494 rfl ?_
  refine z_iconst (v := nI 1) X dL_law_496 (by decide) ?_
  refine z_iadd X dL_law_497 ?_
  rw [(nI_arg (j := 1) hL hL2 (by decide)).1]
  refine z_sld X hX hbl hbA (nI_arg hL hL2 (by decide)).2 dL_law_498 ?_
  rw [nI_clamp (by omega)]
  refine z_aload_n X dL_law_499 rfl rfl ?_
  refine z_iload X dL_law_500 rfl ?_
  refine z_iconst (v := nI 2) X dL_law_502 (by decide) ?_
  refine z_iadd X dL_law_503 ?_
  rw [(nI_arg (j := 2) hL hL2 (by decide)).1]
  refine z_sld X hX hbl hbA (nI_arg hL hL2 (by decide)).2 dL_law_504 ?_
  rw [nI_clamp (by omega)]
  refine z_aload_n X dL_law_505 rfl rfl ?_
  refine z_callWi (As := [.ref (ad 11 0), .int (sc (7 * t + 1)), .int (sc (7 * t + 2)), .ref q]) (rest := []) (nA := 4) (mc := 2) (ms := 12) (rm := ({ frames := 60, cells := 2, slots := 12, locals := 600 } : Room)) (S := CW × (Nat → Int64) × Adr) (post := fun r u => wR W.1 W.2.1 W.2.2 f cd12 o = (u.1, u.2.1, r) ∧ axt W.2.2 ad u.2.2 ∧ ∀ k, W.2.2 k ≤ u.1.2.2 k) (G1 := fun u => cx D dA A u.1.1 u.1.2.1 u.1.2.2 u.2.2 ((q, .inl (dA 7, 1, .inr (.inl u.2.1))) :: xR dA ρ ar)) X hNc (cw_setCap l X.2.2.2.2.2.2.2.2 X.2.2.2.2.2.2.1 h11 hcd hfc) g_470 g_471 g_0 g_472 hd_yL_setCap.2 ⟨rfl, rfl, Nat.le_of_ble_eq_true rfl, Nat.le_of_ble_eq_true rfl⟩ rfl rfl (Nat.le_of_ble_eq_true rfl) dL_law_506 ⟨by show _ ≤ 601024; omega, by show _ ≤ 7293034; omega⟩ (fun r u hu => ?_)
  obtain ⟨W2, f2, ad'⟩ := u
  obtain ⟨hu1, hax, hN⟩ := hu
  have e1 := hw.symm.trans hu1
  simp only [Prod.mk.injEq] at e1
  obtain ⟨rfl, rfl, rfl⟩ := e1
  have ha1 : ad' 11 0 = ad 11 0 := hax 11 0 (ex_k (by decide) h11) (by decide)
  rw [← ha1]
  have h11' : 0 < W'.2.2 11 := Nat.lt_of_lt_of_le h11 (hN 11)
  refine z_istore X dL_law_509 (by rw [hml]; decide) rfl rfl ?_
  refine z_aload_n X dL_law_511 rfl rfl ?_
  refine z_aload_n X dL_law_512 rfl rfl ?_
  refine z_iload X dL_law_513 rfl ?_
  refine z_iconst (v := nI 1) X dL_law_515 (by decide) ?_
  refine z_iadd X dL_law_516 ?_
  rw [(nI_arg (j := 1) hL hL2 (by decide)).1]
  refine z_sld X hX hbl hbA (nI_arg hL hL2 (by decide)).2 dL_law_517 ?_
  rw [nI_clamp (by omega)]
  refine z_aload_n X dL_law_518 rfl rfl ?_
  refine z_iload X dL_law_519 rfl ?_
  refine z_iconst (v := nI 2) X dL_law_521 (by decide) ?_
  refine z_iadd X dL_law_522 ?_
  rw [(nI_arg (j := 2) hL hL2 (by decide)).1]
  refine z_sld X hX hbl hbA (nI_arg hL hL2 (by decide)).2 dL_law_523 ?_
  rw [nI_clamp (by omega)]
  refine z_callVi (As := [.int (sc (7 * t + 1)), .int (sc (7 * t + 2))]) (rest := []) (nA := 2) (mc := 0) (ms := 0) (rm := ({ frames := 60, cells := 0, slots := 0, locals := 600 } : Room)) (r0 := a) (pu := fun (_ : Unit) => True) (G1 := fun _ => cx D dA A W'.1 W'.2.1 W'.2.2 ad' ((q, .inl (dA 7, 1, .inr (.inl f'))) :: xR dA ρ' ar)) X (met_ref (xs := [(q, .inl (dA 7, 1, .inr (.inl f')))]) X.2.2.2.2.2.2.1 (fun A' n' hA' => cr_setCap l X.2.2.2.2.2.2.2.2 hA' hfr)) g_1465 g_1466 g_1467 g_15 g_1468 hd_yX12_setCap ⟨rfl, rfl, Nat.le_of_ble_eq_true rfl, Nat.le_of_ble_eq_true rfl⟩ rfl (fun _ hG => cx_recvX X (j := 1) (ci := 15) rfl rfl hG) rfl (Nat.le_of_ble_eq_true rfl) dL_law_524 ⟨by show _ ≤ 601024; omega, by show _ ≤ 7293034; omega⟩ (fun _ _ => ?_)
  refine z_istore X dL_law_527 (by rw [hml]; decide) rfl rfl ?_
  refine z_aload_n X dL_law_529 rfl rfl ?_
  refine z_callVi (As := []) (rest := []) (nA := 0) (mc := 0) (ms := 0) (rm := ({ frames := 20, cells := 0, slots := 0, locals := 200 } : Room)) (r0 := ρ' 39 0) (pu := fun (_ : Unit) => True) (G1 := fun _ => cx D dA A W'.1 W'.2.1 W'.2.2 ad' ((q, .inl (dA 7, 1, .inr (.inl f'))) :: xR dA ρ' ar)) X (met_ref (xs := [(q, .inl (dA 7, 1, .inr (.inl f')))]) X.2.2.2.2.2.2.1 (fun A' n' hA' => cr_thrown l X.2.2.2.2.2.2.2.2 hA' (show fr_thrown ρ' = some (ρ' 39 0) from rfl))) g_1428 g_1429 g_1430 g_15 g_1431 hd_yX12_thrown ⟨rfl, rfl, Nat.le_of_ble_eq_true rfl, Nat.le_of_ble_eq_true rfl⟩ rfl (fun _ hG => cx_recvX X (j := 1) (ci := 15) rfl rfl hG) rfl (Nat.le_of_ble_eq_true rfl) dL_law_530 ⟨by show _ ≤ 601024; omega, by show _ ≤ 7293034; omega⟩ (fun _ _ => ?_)
  refine z_iload X dL_law_533 rfl ?_
  refine z_icmp_eq (tgt := 540) X dL_law_535 (by decide) (fun _ => ?_) (fun z => absurd h39 z)
  refine z_iload X dL_law_540 rfl ?_
  have fin : zz p l e lwR s m args below meth c A (cx D dA A W'.1 W'.2.1 W'.2.2 ad' ((q, .inl (dA 7, 1, .inr (.inl f'))) :: xR dA ρ' ar)) (cells + 2 + 0 + 0) (slots + 12 + 0 + 0) Q 557 [(6, .int a), (5, .int r5), (4, .int (nI (7 * t))), (3, .ref q), (2, .ref (ar 40)), (1, .ref (ad' 11 0)), (0, .ref b)] [] [] := by
    refine z_goto (tgt := 2319) X dL_law_557 (by decide) ?_
    exact zz.forget (fun x hx => List.mem_cons_of_mem _ (List.mem_cons_of_mem _ hx)) (k W' ad' f' ρ' _ _ hRX.later ⟨by omega, by omega⟩)
  refine z_if_ne (tgt := 557) X dL_law_542 (by decide) (fun z => ?_) (fun _ => fin)
  refine z_aload_n X dL_law_545 rfl rfl ?_
  refine z_iconst (v := 0) X dL_law_546 (by decide) ?_
  refine c_laldX X 0 (o := a.toInt64) rfl (fun y => y.elim (fun y => absurd y (by decide)) (fun y => absurd y (by decide))) (hans z) dL_law_547 ?_
  refine z_iload X dL_law_548 rfl ?_
  refine z_i2l X dL_law_550 ?_
  refine z_lcmp X dL_law_551 ?_
  refine z_if_eq (tgt := 557) X dL_law_552 (by decide) (fun _ => fin) (fun y => absurd (lg_cmp_self _) y)
-- setWallet
set_option maxRecDepth 100000 in
set_option maxHeartbeats 8000000 in
theorem lw_setWallet {p : Program} {l : Launch} {e : Env} {s : State} {m : MethodId} {args : Array Value} {below : List Frame} {meth : Method} {c : Code} {A : Nat → Prop} {Q : State → Prop} {D : va_G} {dA : Nat → ClassId} (X : zc p l s m args meth c cL_law RL D dA A) (hNc : zNc s) (hml : c.maxLocals = 7) {b Ls : Nat} {sc : Nat → Int32} (hX : va_X b Ls sc s s.heap) (hbl : b < s.heap.size) (hbA : ¬ A b) {q : Nat} {W : CW} {ad : Adr} {f : Nat → Int64} {ρ : Rho} {ar : Nat → Nat} {t cells slots : Nat} (hR : RelX W ρ t) (hL : 7 * t + 7 ≤ Ls) (hL2 : Ls ≤ 3584) (hI : lwI t (E26 ρ) cells slots)
    (k : ∀ (W' : CW) (ad' : Adr) (f' : Nat → Int64) (ρ' : Rho) (c' s' : Nat), RelX W' ρ' (t + 1) → lwI (t + 1) (E26 ρ') c' s' → zz p l e lwR s m args below meth c A (cx D dA A W'.1 W'.2.1 W'.2.2 ad' ((q, .inl (dA 7, 1, .inr (.inl f'))) :: xR dA ρ' ar)) c' s' Q 2319 [(4, .int (nI (7 * t))), (3, .ref q), (2, .ref (ar 40)), (1, .ref (ad' 11 0)), (0, .ref b)] [] []) : zz p l e lwR s m args below meth c A (cx D dA A W.1 W.2.1 W.2.2 ad ((q, .inl (dA 7, 1, .inr (.inl f))) :: xR dA ρ ar)) cells slots Q 560 [(4, .int (nI (7 * t))), (3, .ref q), (2, .ref (ar 40)), (1, .ref (ad 11 0)), (0, .ref b)] [] [] := by
  obtain ⟨hI1, hI2⟩ := hI
  have h80 := @E26_le ρ
  obtain ⟨nw, hRel⟩ := hR
  have h11 : 0 < W.2.2 11 := by rw [hRel.r3.1.1]; decide
  obtain ⟨o, ρ', a, W', f', r5, hfc, hcd, hw, hfr, h39, hans, hRX, hE⟩ := OKR.use (f := f) (f_setWallet hRel (sc (7 * t + 1)) (sc (7 * t + 2)))
  have h81 := @E26_le ρ'
  refine z_aload_n X dL_law_560 rfl rfl ?_
  refine z_aload_n X dL_law_561 rfl rfl ?_
  refine z_iload X dL_law_562 rfl ?_
  refine z_iconst (v := nI 1) X dL_law_564 (by decide) ?_
  refine z_iadd X dL_law_565 ?_
  rw [(nI_arg (j := 1) hL hL2 (by decide)).1]
  refine z_sld X hX hbl hbA (nI_arg hL hL2 (by decide)).2 dL_law_566 ?_
  rw [nI_clamp (by omega)]
  refine z_aload_n X dL_law_567 rfl rfl ?_
  refine z_iload X dL_law_568 rfl ?_
  refine z_iconst (v := nI 2) X dL_law_570 (by decide) ?_
  refine z_iadd X dL_law_571 ?_
  rw [(nI_arg (j := 2) hL hL2 (by decide)).1]
  refine z_sld X hX hbl hbA (nI_arg hL hL2 (by decide)).2 dL_law_572 ?_
  rw [nI_clamp (by omega)]
  refine z_aload_n X dL_law_573 rfl rfl ?_
  refine z_callWi (As := [.ref (ad 11 0), .int (sc (7 * t + 1)), .int (sc (7 * t + 2)), .ref q]) (rest := []) (nA := 4) (mc := 3) (ms := 18) (rm := ({ frames := 60, cells := 3, slots := 18, locals := 600 } : Room)) (S := CW × (Nat → Int64) × Adr) (post := fun r u => wR W.1 W.2.1 W.2.2 f cd13 o = (u.1, u.2.1, r) ∧ axt W.2.2 ad u.2.2 ∧ ∀ k, W.2.2 k ≤ u.1.2.2 k) (G1 := fun u => cx D dA A u.1.1 u.1.2.1 u.1.2.2 u.2.2 ((q, .inl (dA 7, 1, .inr (.inl u.2.1))) :: xR dA ρ ar)) X hNc (cw_setWallet l X.2.2.2.2.2.2.2.2 X.2.2.2.2.2.2.1 h11 hcd hfc) g_484 g_485 g_0 g_486 hd_yL_setWallet.2 ⟨rfl, rfl, Nat.le_of_ble_eq_true rfl, Nat.le_of_ble_eq_true rfl⟩ rfl rfl (Nat.le_of_ble_eq_true rfl) dL_law_574 ⟨by show _ ≤ 601024; omega, by show _ ≤ 7293034; omega⟩ (fun r u hu => ?_)
  obtain ⟨W2, f2, ad'⟩ := u
  obtain ⟨hu1, hax, hN⟩ := hu
  have e1 := hw.symm.trans hu1
  simp only [Prod.mk.injEq] at e1
  obtain ⟨rfl, rfl, rfl⟩ := e1
  have ha1 : ad' 11 0 = ad 11 0 := hax 11 0 (ex_k (by decide) h11) (by decide)
  rw [← ha1]
  have h11' : 0 < W'.2.2 11 := Nat.lt_of_lt_of_le h11 (hN 11)
  refine z_istore X dL_law_577 (by rw [hml]; decide) rfl rfl ?_
  refine z_aload_n X dL_law_579 rfl rfl ?_
  refine z_aload_n X dL_law_580 rfl rfl ?_
  refine z_iload X dL_law_581 rfl ?_
  refine z_iconst (v := nI 1) X dL_law_583 (by decide) ?_
  refine z_iadd X dL_law_584 ?_
  rw [(nI_arg (j := 1) hL hL2 (by decide)).1]
  refine z_sld X hX hbl hbA (nI_arg hL hL2 (by decide)).2 dL_law_585 ?_
  rw [nI_clamp (by omega)]
  refine z_aload_n X dL_law_586 rfl rfl ?_
  refine z_iload X dL_law_587 rfl ?_
  refine z_iconst (v := nI 2) X dL_law_589 (by decide) ?_
  refine z_iadd X dL_law_590 ?_
  rw [(nI_arg (j := 2) hL hL2 (by decide)).1]
  refine z_sld X hX hbl hbA (nI_arg hL hL2 (by decide)).2 dL_law_591 ?_
  rw [nI_clamp (by omega)]
  refine z_callVi (As := [.int (sc (7 * t + 1)), .int (sc (7 * t + 2))]) (rest := []) (nA := 2) (mc := 0) (ms := 0) (rm := ({ frames := 60, cells := 0, slots := 0, locals := 600 } : Room)) (r0 := a) (pu := fun (_ : Unit) => True) (G1 := fun _ => cx D dA A W'.1 W'.2.1 W'.2.2 ad' ((q, .inl (dA 7, 1, .inr (.inl f'))) :: xR dA ρ' ar)) X (met_ref (xs := [(q, .inl (dA 7, 1, .inr (.inl f')))]) X.2.2.2.2.2.2.1 (fun A' n' hA' => cr_setWallet l X.2.2.2.2.2.2.2.2 hA' hfr)) g_1473 g_1474 g_1475 g_15 g_1476 hd_yX12_setWallet ⟨rfl, rfl, Nat.le_of_ble_eq_true rfl, Nat.le_of_ble_eq_true rfl⟩ rfl (fun _ hG => cx_recvX X (j := 1) (ci := 15) rfl rfl hG) rfl (Nat.le_of_ble_eq_true rfl) dL_law_592 ⟨by show _ ≤ 601024; omega, by show _ ≤ 7293034; omega⟩ (fun _ _ => ?_)
  refine z_istore X dL_law_595 (by rw [hml]; decide) rfl rfl ?_
  refine z_aload_n X dL_law_597 rfl rfl ?_
  refine z_callVi (As := []) (rest := []) (nA := 0) (mc := 0) (ms := 0) (rm := ({ frames := 20, cells := 0, slots := 0, locals := 200 } : Room)) (r0 := ρ' 39 0) (pu := fun (_ : Unit) => True) (G1 := fun _ => cx D dA A W'.1 W'.2.1 W'.2.2 ad' ((q, .inl (dA 7, 1, .inr (.inl f'))) :: xR dA ρ' ar)) X (met_ref (xs := [(q, .inl (dA 7, 1, .inr (.inl f')))]) X.2.2.2.2.2.2.1 (fun A' n' hA' => cr_thrown l X.2.2.2.2.2.2.2.2 hA' (show fr_thrown ρ' = some (ρ' 39 0) from rfl))) g_1428 g_1429 g_1430 g_15 g_1431 hd_yX12_thrown ⟨rfl, rfl, Nat.le_of_ble_eq_true rfl, Nat.le_of_ble_eq_true rfl⟩ rfl (fun _ hG => cx_recvX X (j := 1) (ci := 15) rfl rfl hG) rfl (Nat.le_of_ble_eq_true rfl) dL_law_598 ⟨by show _ ≤ 601024; omega, by show _ ≤ 7293034; omega⟩ (fun _ _ => ?_)
  refine z_iload X dL_law_601 rfl ?_
  refine z_icmp_eq (tgt := 608) X dL_law_603 (by decide) (fun _ => ?_) (fun z => absurd h39 z)
  refine z_iload X dL_law_608 rfl ?_
  have fin : zz p l e lwR s m args below meth c A (cx D dA A W'.1 W'.2.1 W'.2.2 ad' ((q, .inl (dA 7, 1, .inr (.inl f'))) :: xR dA ρ' ar)) (cells + 3 + 0 + 0) (slots + 18 + 0 + 0) Q 625 [(6, .int a), (5, .int r5), (4, .int (nI (7 * t))), (3, .ref q), (2, .ref (ar 40)), (1, .ref (ad' 11 0)), (0, .ref b)] [] [] := by
    refine z_goto (tgt := 2319) X dL_law_625 (by decide) ?_
    exact zz.forget (fun x hx => List.mem_cons_of_mem _ (List.mem_cons_of_mem _ hx)) (k W' ad' f' ρ' _ _ hRX.later ⟨by omega, by omega⟩)
  refine z_if_ne (tgt := 625) X dL_law_610 (by decide) (fun z => ?_) (fun _ => fin)
  refine z_aload_n X dL_law_613 rfl rfl ?_
  refine z_iconst (v := 0) X dL_law_614 (by decide) ?_
  refine c_laldX X 0 (o := a.toInt64) rfl (fun y => y.elim (fun y => absurd y (by decide)) (fun y => absurd y (by decide))) (hans z) dL_law_615 ?_
  refine z_iload X dL_law_616 rfl ?_
  refine z_i2l X dL_law_618 ?_
  refine z_lcmp X dL_law_619 ?_
  refine z_if_eq (tgt := 625) X dL_law_620 (by decide) (fun _ => fin) (fun y => absurd (lg_cmp_self _) y)
-- top
set_option maxRecDepth 100000 in
set_option maxHeartbeats 8000000 in
theorem lw_top {p : Program} {l : Launch} {e : Env} {s : State} {m : MethodId} {args : Array Value} {below : List Frame} {meth : Method} {c : Code} {A : Nat → Prop} {Q : State → Prop} {D : va_G} {dA : Nat → ClassId} (X : zc p l s m args meth c cL_law RL D dA A) (hNc : zNc s) (hml : c.maxLocals = 7) {b Ls : Nat} {sc : Nat → Int32} (hX : va_X b Ls sc s s.heap) (hbl : b < s.heap.size) (hbA : ¬ A b) {q : Nat} {W : CW} {ad : Adr} {f : Nat → Int64} {ρ : Rho} {ar : Nat → Nat} {t cells slots : Nat} (hR : RelX W ρ t) (hL : 7 * t + 7 ≤ Ls) (hL2 : Ls ≤ 3584) (hI : lwI t (E26 ρ) cells slots)
    (k : ∀ (W' : CW) (ad' : Adr) (f' : Nat → Int64) (ρ' : Rho) (c' s' : Nat), RelX W' ρ' (t + 1) → lwI (t + 1) (E26 ρ') c' s' → zz p l e lwR s m args below meth c A (cx D dA A W'.1 W'.2.1 W'.2.2 ad' ((q, .inl (dA 7, 1, .inr (.inl f'))) :: xR dA ρ' ar)) c' s' Q 2319 [(4, .int (nI (7 * t))), (3, .ref q), (2, .ref (ar 40)), (1, .ref (ad' 11 0)), (0, .ref b)] [] []) : zz p l e lwR s m args below meth c A (cx D dA A W.1 W.2.1 W.2.2 ad ((q, .inl (dA 7, 1, .inr (.inl f))) :: xR dA ρ ar)) cells slots Q 628 [(4, .int (nI (7 * t))), (3, .ref q), (2, .ref (ar 40)), (1, .ref (ad 11 0)), (0, .ref b)] [] [] := by
  obtain ⟨hI1, hI2⟩ := hI
  have h80 := @E26_le ρ
  obtain ⟨nw, hRel⟩ := hR
  have h11 : 0 < W.2.2 11 := by rw [hRel.r3.1.1]; decide
  obtain ⟨o, ρ', a, W', f', r5, hfc, hcd, hw, hfr, h39, hans, hRX, hE⟩ := OKR.use (f := f) (f_top hRel (by omega) (sc (7 * t + 1)) (sc (7 * t + 2)))
  have h81 := @E26_le ρ'
  refine z_aload_n X dL_law_628 rfl rfl ?_
  refine z_aload_n X dL_law_629 rfl rfl ?_
  refine z_iload X dL_law_630 rfl ?_
  refine z_iconst (v := nI 1) X dL_law_632 (by decide) ?_
  refine z_iadd X dL_law_633 ?_
  rw [(nI_arg (j := 1) hL hL2 (by decide)).1]
  refine z_sld X hX hbl hbA (nI_arg hL hL2 (by decide)).2 dL_law_634 ?_
  rw [nI_clamp (by omega)]
  refine z_aload_n X dL_law_635 rfl rfl ?_
  refine z_iload X dL_law_636 rfl ?_
  refine z_iconst (v := nI 2) X dL_law_638 (by decide) ?_
  refine z_iadd X dL_law_639 ?_
  rw [(nI_arg (j := 2) hL hL2 (by decide)).1]
  refine z_sld X hX hbl hbA (nI_arg hL hL2 (by decide)).2 dL_law_640 ?_
  rw [nI_clamp (by omega)]
  refine z_aload_n X dL_law_641 rfl rfl ?_
  refine z_callWi (As := [.ref (ad 11 0), .int (sc (7 * t + 1)), .int (sc (7 * t + 2)), .ref q]) (rest := []) (nA := 4) (mc := 2) (ms := 12) (rm := ({ frames := 60, cells := 2, slots := 12, locals := 600 } : Room)) (S := CW × (Nat → Int64) × Adr) (post := fun r u => wR W.1 W.2.1 W.2.2 f cd12 o = (u.1, u.2.1, r) ∧ axt W.2.2 ad u.2.2 ∧ ∀ k, W.2.2 k ≤ u.1.2.2 k) (G1 := fun u => cx D dA A u.1.1 u.1.2.1 u.1.2.2 u.2.2 ((q, .inl (dA 7, 1, .inr (.inl u.2.1))) :: xR dA ρ ar)) X hNc (cw_top l X.2.2.2.2.2.2.2.2 X.2.2.2.2.2.2.1 h11 hcd hfc) g_497 g_498 g_0 g_499 hd_yL_top.2 ⟨rfl, rfl, Nat.le_of_ble_eq_true rfl, Nat.le_of_ble_eq_true rfl⟩ rfl rfl (Nat.le_of_ble_eq_true rfl) dL_law_642 ⟨by show _ ≤ 601024; omega, by show _ ≤ 7293034; omega⟩ (fun r u hu => ?_)
  obtain ⟨W2, f2, ad'⟩ := u
  obtain ⟨hu1, hax, hN⟩ := hu
  have e1 := hw.symm.trans hu1
  simp only [Prod.mk.injEq] at e1
  obtain ⟨rfl, rfl, rfl⟩ := e1
  have ha1 : ad' 11 0 = ad 11 0 := hax 11 0 (ex_k (by decide) h11) (by decide)
  rw [← ha1]
  have h11' : 0 < W'.2.2 11 := Nat.lt_of_lt_of_le h11 (hN 11)
  refine z_istore X dL_law_645 (by rw [hml]; decide) rfl rfl ?_
  refine z_aload_n X dL_law_647 rfl rfl ?_
  refine z_aload_n X dL_law_648 rfl rfl ?_
  refine z_iload X dL_law_649 rfl ?_
  refine z_iconst (v := nI 1) X dL_law_651 (by decide) ?_
  refine z_iadd X dL_law_652 ?_
  rw [(nI_arg (j := 1) hL hL2 (by decide)).1]
  refine z_sld X hX hbl hbA (nI_arg hL hL2 (by decide)).2 dL_law_653 ?_
  rw [nI_clamp (by omega)]
  refine z_aload_n X dL_law_654 rfl rfl ?_
  refine z_iload X dL_law_655 rfl ?_
  refine z_iconst (v := nI 2) X dL_law_657 (by decide) ?_
  refine z_iadd X dL_law_658 ?_
  rw [(nI_arg (j := 2) hL hL2 (by decide)).1]
  refine z_sld X hX hbl hbA (nI_arg hL hL2 (by decide)).2 dL_law_659 ?_
  rw [nI_clamp (by omega)]
  refine z_callVi (As := [.int (sc (7 * t + 1)), .int (sc (7 * t + 2))]) (rest := []) (nA := 2) (mc := 0) (ms := 0) (rm := ({ frames := 60, cells := 0, slots := 0, locals := 600 } : Room)) (r0 := a) (pu := fun (_ : Unit) => True) (G1 := fun _ => cx D dA A W'.1 W'.2.1 W'.2.2 ad' ((q, .inl (dA 7, 1, .inr (.inl f'))) :: xR dA ρ' ar)) X (met_ref (xs := [(q, .inl (dA 7, 1, .inr (.inl f')))]) X.2.2.2.2.2.2.1 (fun A' n' hA' => cr_top l X.2.2.2.2.2.2.2.2 hA' hfr)) g_1480 g_1481 g_1482 g_15 g_1483 hd_yX12_top ⟨rfl, rfl, Nat.le_of_ble_eq_true rfl, Nat.le_of_ble_eq_true rfl⟩ rfl (fun _ hG => cx_recvX X (j := 1) (ci := 15) rfl rfl hG) rfl (Nat.le_of_ble_eq_true rfl) dL_law_660 ⟨by show _ ≤ 601024; omega, by show _ ≤ 7293034; omega⟩ (fun _ _ => ?_)
  refine z_istore X dL_law_663 (by rw [hml]; decide) rfl rfl ?_
  refine z_aload_n X dL_law_665 rfl rfl ?_
  refine z_callVi (As := []) (rest := []) (nA := 0) (mc := 0) (ms := 0) (rm := ({ frames := 20, cells := 0, slots := 0, locals := 200 } : Room)) (r0 := ρ' 39 0) (pu := fun (_ : Unit) => True) (G1 := fun _ => cx D dA A W'.1 W'.2.1 W'.2.2 ad' ((q, .inl (dA 7, 1, .inr (.inl f'))) :: xR dA ρ' ar)) X (met_ref (xs := [(q, .inl (dA 7, 1, .inr (.inl f')))]) X.2.2.2.2.2.2.1 (fun A' n' hA' => cr_thrown l X.2.2.2.2.2.2.2.2 hA' (show fr_thrown ρ' = some (ρ' 39 0) from rfl))) g_1428 g_1429 g_1430 g_15 g_1431 hd_yX12_thrown ⟨rfl, rfl, Nat.le_of_ble_eq_true rfl, Nat.le_of_ble_eq_true rfl⟩ rfl (fun _ hG => cx_recvX X (j := 1) (ci := 15) rfl rfl hG) rfl (Nat.le_of_ble_eq_true rfl) dL_law_666 ⟨by show _ ≤ 601024; omega, by show _ ≤ 7293034; omega⟩ (fun _ _ => ?_)
  refine z_iload X dL_law_669 rfl ?_
  refine z_icmp_eq (tgt := 676) X dL_law_671 (by decide) (fun _ => ?_) (fun z => absurd h39 z)
  refine z_iload X dL_law_676 rfl ?_
  have fin : zz p l e lwR s m args below meth c A (cx D dA A W'.1 W'.2.1 W'.2.2 ad' ((q, .inl (dA 7, 1, .inr (.inl f'))) :: xR dA ρ' ar)) (cells + 2 + 0 + 0) (slots + 12 + 0 + 0) Q 693 [(6, .int a), (5, .int r5), (4, .int (nI (7 * t))), (3, .ref q), (2, .ref (ar 40)), (1, .ref (ad' 11 0)), (0, .ref b)] [] [] := by
    refine z_goto (tgt := 2319) X dL_law_693 (by decide) ?_
    exact zz.forget (fun x hx => List.mem_cons_of_mem _ (List.mem_cons_of_mem _ hx)) (k W' ad' f' ρ' _ _ hRX ⟨by omega, by omega⟩)
  refine z_if_ne (tgt := 693) X dL_law_678 (by decide) (fun z => ?_) (fun _ => fin)
  refine z_aload_n X dL_law_681 rfl rfl ?_
  refine z_iconst (v := 0) X dL_law_682 (by decide) ?_
  refine c_laldX X 0 (o := a.toInt64) rfl (fun y => y.elim (fun y => absurd y (by decide)) (fun y => absurd y (by decide))) (hans z) dL_law_683 ?_
  refine z_iload X dL_law_684 rfl ?_
  refine z_i2l X dL_law_686 ?_
  refine z_lcmp X dL_law_687 ?_
  refine z_if_eq (tgt := 693) X dL_law_688 (by decide) (fun _ => fin) (fun y => absurd (lg_cmp_self _) y)
-- give
set_option maxRecDepth 100000 in
set_option maxHeartbeats 8000000 in
theorem lw_give {p : Program} {l : Launch} {e : Env} {s : State} {m : MethodId} {args : Array Value} {below : List Frame} {meth : Method} {c : Code} {A : Nat → Prop} {Q : State → Prop} {D : va_G} {dA : Nat → ClassId} (X : zc p l s m args meth c cL_law RL D dA A) (hNc : zNc s) (hml : c.maxLocals = 7) {b Ls : Nat} {sc : Nat → Int32} (hX : va_X b Ls sc s s.heap) (hbl : b < s.heap.size) (hbA : ¬ A b) {q : Nat} {W : CW} {ad : Adr} {f : Nat → Int64} {ρ : Rho} {ar : Nat → Nat} {t cells slots : Nat} (hR : RelX W ρ t) (hL : 7 * t + 7 ≤ Ls) (hL2 : Ls ≤ 3584) (hI : lwI t (E26 ρ) cells slots)
    (k : ∀ (W' : CW) (ad' : Adr) (f' : Nat → Int64) (ρ' : Rho) (c' s' : Nat), RelX W' ρ' (t + 1) → lwI (t + 1) (E26 ρ') c' s' → zz p l e lwR s m args below meth c A (cx D dA A W'.1 W'.2.1 W'.2.2 ad' ((q, .inl (dA 7, 1, .inr (.inl f'))) :: xR dA ρ' ar)) c' s' Q 2319 [(4, .int (nI (7 * t))), (3, .ref q), (2, .ref (ar 40)), (1, .ref (ad' 11 0)), (0, .ref b)] [] []) : zz p l e lwR s m args below meth c A (cx D dA A W.1 W.2.1 W.2.2 ad ((q, .inl (dA 7, 1, .inr (.inl f))) :: xR dA ρ ar)) cells slots Q 696 [(4, .int (nI (7 * t))), (3, .ref q), (2, .ref (ar 40)), (1, .ref (ad 11 0)), (0, .ref b)] [] [] := by
  obtain ⟨hI1, hI2⟩ := hI
  have h80 := @E26_le ρ
  obtain ⟨nw, hRel⟩ := hR
  have h11 : 0 < W.2.2 11 := by rw [hRel.r3.1.1]; decide
  obtain ⟨o, ρ', a, W', f', r5, hfc, hcd, hw, hfr, h39, hans, hRX, hE⟩ := OKR.use (f := f) (f_give hRel (by omega) (sc (7 * t + 1)) (sc (7 * t + 2)) (sc (7 * t + 3)))
  have h81 := @E26_le ρ'
  refine z_aload_n X dL_law_696 rfl rfl ?_
  refine z_aload_n X dL_law_697 rfl rfl ?_
  refine z_iload X dL_law_698 rfl ?_
  refine z_iconst (v := nI 1) X dL_law_700 (by decide) ?_
  refine z_iadd X dL_law_701 ?_
  rw [(nI_arg (j := 1) hL hL2 (by decide)).1]
  refine z_sld X hX hbl hbA (nI_arg hL hL2 (by decide)).2 dL_law_702 ?_
  rw [nI_clamp (by omega)]
  refine z_aload_n X dL_law_703 rfl rfl ?_
  refine z_iload X dL_law_704 rfl ?_
  refine z_iconst (v := nI 2) X dL_law_706 (by decide) ?_
  refine z_iadd X dL_law_707 ?_
  rw [(nI_arg (j := 2) hL hL2 (by decide)).1]
  refine z_sld X hX hbl hbA (nI_arg hL hL2 (by decide)).2 dL_law_708 ?_
  rw [nI_clamp (by omega)]
  refine z_aload_n X dL_law_709 rfl rfl ?_
  refine z_iload X dL_law_710 rfl ?_
  refine z_iconst (v := nI 3) X dL_law_712 (by decide) ?_
  refine z_iadd X dL_law_713 ?_
  rw [(nI_arg (j := 3) hL hL2 (by decide)).1]
  refine z_sld X hX hbl hbA (nI_arg hL hL2 (by decide)).2 dL_law_714 ?_
  rw [nI_clamp (by omega)]
  refine z_aload_n X dL_law_715 rfl rfl ?_
  refine z_callWi (As := [.ref (ad 11 0), .int (sc (7 * t + 1)), .int (sc (7 * t + 2)), .int (sc (7 * t + 3)), .ref q]) (rest := []) (nA := 5) (mc := 3) (ms := 18) (rm := ({ frames := 60, cells := 3, slots := 18, locals := 600 } : Room)) (S := CW × (Nat → Int64) × Adr) (post := fun r u => wR W.1 W.2.1 W.2.2 f cd3 o = (u.1, u.2.1, r) ∧ axt W.2.2 ad u.2.2 ∧ ∀ k, W.2.2 k ≤ u.1.2.2 k) (G1 := fun u => cx D dA A u.1.1 u.1.2.1 u.1.2.2 u.2.2 ((q, .inl (dA 7, 1, .inr (.inl u.2.1))) :: xR dA ρ ar)) X hNc (cw_give l X.2.2.2.2.2.2.2.2 X.2.2.2.2.2.2.1 h11 hcd hfc) g_505 g_506 g_0 g_507 hd_yL_give.2 ⟨rfl, rfl, Nat.le_of_ble_eq_true rfl, Nat.le_of_ble_eq_true rfl⟩ rfl rfl (Nat.le_of_ble_eq_true rfl) dL_law_716 ⟨by show _ ≤ 601024; omega, by show _ ≤ 7293034; omega⟩ (fun r u hu => ?_)
  obtain ⟨W2, f2, ad'⟩ := u
  obtain ⟨hu1, hax, hN⟩ := hu
  have e1 := hw.symm.trans hu1
  simp only [Prod.mk.injEq] at e1
  obtain ⟨rfl, rfl, rfl⟩ := e1
  have ha1 : ad' 11 0 = ad 11 0 := hax 11 0 (ex_k (by decide) h11) (by decide)
  rw [← ha1]
  have h11' : 0 < W'.2.2 11 := Nat.lt_of_lt_of_le h11 (hN 11)
  refine z_istore X dL_law_719 (by rw [hml]; decide) rfl rfl ?_
  refine z_aload_n X dL_law_721 rfl rfl ?_
  refine z_aload_n X dL_law_722 rfl rfl ?_
  refine z_iload X dL_law_723 rfl ?_
  refine z_iconst (v := nI 1) X dL_law_725 (by decide) ?_
  refine z_iadd X dL_law_726 ?_
  rw [(nI_arg (j := 1) hL hL2 (by decide)).1]
  refine z_sld X hX hbl hbA (nI_arg hL hL2 (by decide)).2 dL_law_727 ?_
  rw [nI_clamp (by omega)]
  refine z_aload_n X dL_law_728 rfl rfl ?_
  refine z_iload X dL_law_729 rfl ?_
  refine z_iconst (v := nI 2) X dL_law_731 (by decide) ?_
  refine z_iadd X dL_law_732 ?_
  rw [(nI_arg (j := 2) hL hL2 (by decide)).1]
  refine z_sld X hX hbl hbA (nI_arg hL hL2 (by decide)).2 dL_law_733 ?_
  rw [nI_clamp (by omega)]
  refine z_aload_n X dL_law_734 rfl rfl ?_
  refine z_iload X dL_law_735 rfl ?_
  refine z_iconst (v := nI 3) X dL_law_737 (by decide) ?_
  refine z_iadd X dL_law_738 ?_
  rw [(nI_arg (j := 3) hL hL2 (by decide)).1]
  refine z_sld X hX hbl hbA (nI_arg hL hL2 (by decide)).2 dL_law_739 ?_
  rw [nI_clamp (by omega)]
  refine z_callVi (As := [.int (sc (7 * t + 1)), .int (sc (7 * t + 2)), .int (sc (7 * t + 3))]) (rest := []) (nA := 3) (mc := 0) (ms := 0) (rm := ({ frames := 60, cells := 0, slots := 0, locals := 600 } : Room)) (r0 := a) (pu := fun (_ : Unit) => True) (G1 := fun _ => cx D dA A W'.1 W'.2.1 W'.2.2 ad' ((q, .inl (dA 7, 1, .inr (.inl f'))) :: xR dA ρ' ar)) X (met_ref (xs := [(q, .inl (dA 7, 1, .inr (.inl f')))]) X.2.2.2.2.2.2.1 (fun A' n' hA' => cr_give l X.2.2.2.2.2.2.2.2 hA' hfr)) g_1484 g_1485 g_1486 g_15 g_1487 hd_yX12_give ⟨rfl, rfl, Nat.le_of_ble_eq_true rfl, Nat.le_of_ble_eq_true rfl⟩ rfl (fun _ hG => cx_recvX X (j := 1) (ci := 15) rfl rfl hG) rfl (Nat.le_of_ble_eq_true rfl) dL_law_740 ⟨by show _ ≤ 601024; omega, by show _ ≤ 7293034; omega⟩ (fun _ _ => ?_)
  refine z_istore X dL_law_743 (by rw [hml]; decide) rfl rfl ?_
  refine z_aload_n X dL_law_745 rfl rfl ?_
  refine z_callVi (As := []) (rest := []) (nA := 0) (mc := 0) (ms := 0) (rm := ({ frames := 20, cells := 0, slots := 0, locals := 200 } : Room)) (r0 := ρ' 39 0) (pu := fun (_ : Unit) => True) (G1 := fun _ => cx D dA A W'.1 W'.2.1 W'.2.2 ad' ((q, .inl (dA 7, 1, .inr (.inl f'))) :: xR dA ρ' ar)) X (met_ref (xs := [(q, .inl (dA 7, 1, .inr (.inl f')))]) X.2.2.2.2.2.2.1 (fun A' n' hA' => cr_thrown l X.2.2.2.2.2.2.2.2 hA' (show fr_thrown ρ' = some (ρ' 39 0) from rfl))) g_1428 g_1429 g_1430 g_15 g_1431 hd_yX12_thrown ⟨rfl, rfl, Nat.le_of_ble_eq_true rfl, Nat.le_of_ble_eq_true rfl⟩ rfl (fun _ hG => cx_recvX X (j := 1) (ci := 15) rfl rfl hG) rfl (Nat.le_of_ble_eq_true rfl) dL_law_746 ⟨by show _ ≤ 601024; omega, by show _ ≤ 7293034; omega⟩ (fun _ _ => ?_)
  refine z_iload X dL_law_749 rfl ?_
  refine z_icmp_eq (tgt := 756) X dL_law_751 (by decide) (fun _ => ?_) (fun z => absurd h39 z)
  refine z_iload X dL_law_756 rfl ?_
  have fin : zz p l e lwR s m args below meth c A (cx D dA A W'.1 W'.2.1 W'.2.2 ad' ((q, .inl (dA 7, 1, .inr (.inl f'))) :: xR dA ρ' ar)) (cells + 3 + 0 + 0) (slots + 18 + 0 + 0) Q 773 [(6, .int a), (5, .int r5), (4, .int (nI (7 * t))), (3, .ref q), (2, .ref (ar 40)), (1, .ref (ad' 11 0)), (0, .ref b)] [] [] := by
    refine z_goto (tgt := 2319) X dL_law_773 (by decide) ?_
    exact zz.forget (fun x hx => List.mem_cons_of_mem _ (List.mem_cons_of_mem _ hx)) (k W' ad' f' ρ' _ _ hRX.later ⟨by omega, by omega⟩)
  refine z_if_ne (tgt := 773) X dL_law_758 (by decide) (fun z => ?_) (fun _ => fin)
  refine z_aload_n X dL_law_761 rfl rfl ?_
  refine z_iconst (v := 0) X dL_law_762 (by decide) ?_
  refine c_laldX X 0 (o := a.toInt64) rfl (fun y => y.elim (fun y => absurd y (by decide)) (fun y => absurd y (by decide))) (hans z) dL_law_763 ?_
  refine z_iload X dL_law_764 rfl ?_
  refine z_i2l X dL_law_766 ?_
  refine z_lcmp X dL_law_767 ?_
  refine z_if_eq (tgt := 773) X dL_law_768 (by decide) (fun _ => fin) (fun y => absurd (lg_cmp_self _) y)
-- buy
set_option maxRecDepth 100000 in
set_option maxHeartbeats 8000000 in
theorem lw_buy {p : Program} {l : Launch} {e : Env} {s : State} {m : MethodId} {args : Array Value} {below : List Frame} {meth : Method} {c : Code} {A : Nat → Prop} {Q : State → Prop} {D : va_G} {dA : Nat → ClassId} (X : zc p l s m args meth c cL_law RL D dA A) (hNc : zNc s) (hml : c.maxLocals = 7) {b Ls : Nat} {sc : Nat → Int32} (hX : va_X b Ls sc s s.heap) (hbl : b < s.heap.size) (hbA : ¬ A b) {q : Nat} {W : CW} {ad : Adr} {f : Nat → Int64} {ρ : Rho} {ar : Nat → Nat} {t cells slots : Nat} (hR : RelX W ρ t) (hL : 7 * t + 7 ≤ Ls) (hL2 : Ls ≤ 3584) (hI : lwI t (E26 ρ) cells slots)
    (k : ∀ (W' : CW) (ad' : Adr) (f' : Nat → Int64) (ρ' : Rho) (c' s' : Nat), RelX W' ρ' (t + 1) → lwI (t + 1) (E26 ρ') c' s' → zz p l e lwR s m args below meth c A (cx D dA A W'.1 W'.2.1 W'.2.2 ad' ((q, .inl (dA 7, 1, .inr (.inl f'))) :: xR dA ρ' ar)) c' s' Q 2319 [(4, .int (nI (7 * t))), (3, .ref q), (2, .ref (ar 40)), (1, .ref (ad' 11 0)), (0, .ref b)] [] []) : zz p l e lwR s m args below meth c A (cx D dA A W.1 W.2.1 W.2.2 ad ((q, .inl (dA 7, 1, .inr (.inl f))) :: xR dA ρ ar)) cells slots Q 776 [(4, .int (nI (7 * t))), (3, .ref q), (2, .ref (ar 40)), (1, .ref (ad 11 0)), (0, .ref b)] [] [] := by
  obtain ⟨hI1, hI2⟩ := hI
  have h80 := @E26_le ρ
  obtain ⟨nw, hRel⟩ := hR
  have h11 : 0 < W.2.2 11 := by rw [hRel.r3.1.1]; decide
  obtain ⟨o, ρ', a, W', f', r5, hfc, hcd, hw, hfr, h39, hans, hRX, hE⟩ := OKW.use (f := f) (f_buy hRel (by omega) (sc (7 * t + 1)) (sc (7 * t + 2)) (sc (7 * t + 3)) (sc (7 * t + 4)) (sc (7 * t + 5)) (sc (7 * t + 6)))
  have h81 := @E26_le ρ'
  refine z_aload_n X dL_law_776 rfl rfl ?_
  refine z_aload_n X dL_law_777 rfl rfl ?_
  refine z_iload X dL_law_778 rfl ?_
  refine z_iconst (v := nI 1) X dL_law_780 (by decide) ?_
  refine z_iadd X dL_law_781 ?_
  rw [(nI_arg (j := 1) hL hL2 (by decide)).1]
  refine z_sld X hX hbl hbA (nI_arg hL hL2 (by decide)).2 dL_law_782 ?_
  rw [nI_clamp (by omega)]
  refine z_aload_n X dL_law_783 rfl rfl ?_
  refine z_iload X dL_law_784 rfl ?_
  refine z_iconst (v := nI 2) X dL_law_786 (by decide) ?_
  refine z_iadd X dL_law_787 ?_
  rw [(nI_arg (j := 2) hL hL2 (by decide)).1]
  refine z_sld X hX hbl hbA (nI_arg hL hL2 (by decide)).2 dL_law_788 ?_
  rw [nI_clamp (by omega)]
  refine z_aload_n X dL_law_789 rfl rfl ?_
  refine z_iload X dL_law_790 rfl ?_
  refine z_iconst (v := nI 3) X dL_law_792 (by decide) ?_
  refine z_iadd X dL_law_793 ?_
  rw [(nI_arg (j := 3) hL hL2 (by decide)).1]
  refine z_sld X hX hbl hbA (nI_arg hL hL2 (by decide)).2 dL_law_794 ?_
  rw [nI_clamp (by omega)]
  refine z_aload_n X dL_law_795 rfl rfl ?_
  refine z_iload X dL_law_796 rfl ?_
  refine z_iconst (v := nI 4) X dL_law_798 (by decide) ?_
  refine z_iadd X dL_law_799 ?_
  rw [(nI_arg (j := 4) hL hL2 (by decide)).1]
  refine z_sld X hX hbl hbA (nI_arg hL hL2 (by decide)).2 dL_law_800 ?_
  rw [nI_clamp (by omega)]
  refine z_aload_n X dL_law_801 rfl rfl ?_
  refine z_iload X dL_law_802 rfl ?_
  refine z_iconst (v := nI 5) X dL_law_804 (by decide) ?_
  refine z_iadd X dL_law_805 ?_
  rw [(nI_arg (j := 5) hL hL2 (by decide)).1]
  refine z_sld X hX hbl hbA (nI_arg hL hL2 (by decide)).2 dL_law_806 ?_
  rw [nI_clamp (by omega)]
  refine z_aload_n X dL_law_807 rfl rfl ?_
  refine z_iload X dL_law_808 rfl ?_
  refine z_bipush (v := nI 6) X dL_law_810 (by decide) ?_
  refine z_iadd X dL_law_812 ?_
  rw [(nI_arg (j := 6) hL hL2 (by decide)).1]
  refine z_sld X hX hbl hbA (nI_arg hL hL2 (by decide)).2 dL_law_813 ?_
  rw [nI_clamp (by omega)]
  refine z_aload_n X dL_law_814 rfl rfl ?_
  refine z_callWi (As := [.ref (ad 11 0), .int (sc (7 * t + 1)), .int (sc (7 * t + 2)), .int (sc (7 * t + 3)), .int (sc (7 * t + 4)), .int (sc (7 * t + 5)), .int (sc (7 * t + 6)), .ref q]) (rest := []) (nA := 8) (mc := 4) (ms := 3030) (rm := ({ frames := 220, cells := 4, slots := 3030, locals := 2200 } : Room)) (S := CW × (Nat → Int64) × Adr) (post := fun r u => wW W.1 W.2.1 W.2.2 f cd3 o = (u.1, u.2.1, r) ∧ axt W.2.2 ad u.2.2 ∧ ∀ k, W.2.2 k ≤ u.1.2.2 k) (G1 := fun u => cx D dA A u.1.1 u.1.2.1 u.1.2.2 u.2.2 ((q, .inl (dA 7, 1, .inr (.inl u.2.1))) :: xR dA ρ ar)) X hNc (cw_buy l X.2.2.2.2.2.2.2.2 X.2.2.2.2.2.2.1 h11 hcd hfc) g_514 g_515 g_0 g_516 hd_yL_buy.2 ⟨rfl, rfl, Nat.le_of_ble_eq_true rfl, Nat.le_of_ble_eq_true rfl⟩ rfl rfl (Nat.le_of_ble_eq_true rfl) dL_law_815 ⟨by show _ ≤ 601024; omega, by show _ ≤ 7293034; omega⟩ (fun r u hu => ?_)
  obtain ⟨W2, f2, ad'⟩ := u
  obtain ⟨hu1, hax, hN⟩ := hu
  have e1 := hw.symm.trans hu1
  simp only [Prod.mk.injEq] at e1
  obtain ⟨rfl, rfl, rfl⟩ := e1
  have ha1 : ad' 11 0 = ad 11 0 := hax 11 0 (ex_k (by decide) h11) (by decide)
  rw [← ha1]
  have h11' : 0 < W'.2.2 11 := Nat.lt_of_lt_of_le h11 (hN 11)
  refine z_istore X dL_law_818 (by rw [hml]; decide) rfl rfl ?_
  refine z_aload_n X dL_law_820 rfl rfl ?_
  refine z_aload_n X dL_law_821 rfl rfl ?_
  refine z_iload X dL_law_822 rfl ?_
  refine z_iconst (v := nI 1) X dL_law_824 (by decide) ?_
  refine z_iadd X dL_law_825 ?_
  rw [(nI_arg (j := 1) hL hL2 (by decide)).1]
  refine z_sld X hX hbl hbA (nI_arg hL hL2 (by decide)).2 dL_law_826 ?_
  rw [nI_clamp (by omega)]
  refine z_aload_n X dL_law_827 rfl rfl ?_
  refine z_iload X dL_law_828 rfl ?_
  refine z_iconst (v := nI 2) X dL_law_830 (by decide) ?_
  refine z_iadd X dL_law_831 ?_
  rw [(nI_arg (j := 2) hL hL2 (by decide)).1]
  refine z_sld X hX hbl hbA (nI_arg hL hL2 (by decide)).2 dL_law_832 ?_
  rw [nI_clamp (by omega)]
  refine z_aload_n X dL_law_833 rfl rfl ?_
  refine z_iload X dL_law_834 rfl ?_
  refine z_iconst (v := nI 3) X dL_law_836 (by decide) ?_
  refine z_iadd X dL_law_837 ?_
  rw [(nI_arg (j := 3) hL hL2 (by decide)).1]
  refine z_sld X hX hbl hbA (nI_arg hL hL2 (by decide)).2 dL_law_838 ?_
  rw [nI_clamp (by omega)]
  refine z_aload_n X dL_law_839 rfl rfl ?_
  refine z_iload X dL_law_840 rfl ?_
  refine z_iconst (v := nI 4) X dL_law_842 (by decide) ?_
  refine z_iadd X dL_law_843 ?_
  rw [(nI_arg (j := 4) hL hL2 (by decide)).1]
  refine z_sld X hX hbl hbA (nI_arg hL hL2 (by decide)).2 dL_law_844 ?_
  rw [nI_clamp (by omega)]
  refine z_aload_n X dL_law_845 rfl rfl ?_
  refine z_iload X dL_law_846 rfl ?_
  refine z_iconst (v := nI 5) X dL_law_848 (by decide) ?_
  refine z_iadd X dL_law_849 ?_
  rw [(nI_arg (j := 5) hL hL2 (by decide)).1]
  refine z_sld X hX hbl hbA (nI_arg hL hL2 (by decide)).2 dL_law_850 ?_
  rw [nI_clamp (by omega)]
  refine z_aload_n X dL_law_851 rfl rfl ?_
  refine z_iload X dL_law_852 rfl ?_
  refine z_bipush (v := nI 6) X dL_law_854 (by decide) ?_
  refine z_iadd X dL_law_856 ?_
  rw [(nI_arg (j := 6) hL hL2 (by decide)).1]
  refine z_sld X hX hbl hbA (nI_arg hL hL2 (by decide)).2 dL_law_857 ?_
  rw [nI_clamp (by omega)]
  refine z_callVi (As := [.int (sc (7 * t + 1)), .int (sc (7 * t + 2)), .int (sc (7 * t + 3)), .int (sc (7 * t + 4)), .int (sc (7 * t + 5)), .int (sc (7 * t + 6))]) (rest := []) (nA := 6) (mc := 0) (ms := 0) (rm := ({ frames := 60, cells := 0, slots := 0, locals := 600 } : Room)) (r0 := a) (pu := fun (_ : Unit) => True) (G1 := fun _ => cx D dA A W'.1 W'.2.1 W'.2.2 ad' ((q, .inl (dA 7, 1, .inr (.inl f'))) :: xR dA ρ' ar)) X (met_ref (xs := [(q, .inl (dA 7, 1, .inr (.inl f')))]) X.2.2.2.2.2.2.1 (fun A' n' hA' => cr_buy l X.2.2.2.2.2.2.2.2 hA' hfr)) g_1488 g_1489 g_1490 g_15 g_1491 hd_yX12_buy ⟨rfl, rfl, Nat.le_of_ble_eq_true rfl, Nat.le_of_ble_eq_true rfl⟩ rfl (fun _ hG => cx_recvX X (j := 1) (ci := 15) rfl rfl hG) rfl (Nat.le_of_ble_eq_true rfl) dL_law_858 ⟨by show _ ≤ 601024; omega, by show _ ≤ 7293034; omega⟩ (fun _ _ => ?_)
  refine z_istore X dL_law_861 (by rw [hml]; decide) rfl rfl ?_
  refine z_aload_n X dL_law_863 rfl rfl ?_
  refine z_callVi (As := []) (rest := []) (nA := 0) (mc := 0) (ms := 0) (rm := ({ frames := 20, cells := 0, slots := 0, locals := 200 } : Room)) (r0 := ρ' 39 0) (pu := fun (_ : Unit) => True) (G1 := fun _ => cx D dA A W'.1 W'.2.1 W'.2.2 ad' ((q, .inl (dA 7, 1, .inr (.inl f'))) :: xR dA ρ' ar)) X (met_ref (xs := [(q, .inl (dA 7, 1, .inr (.inl f')))]) X.2.2.2.2.2.2.1 (fun A' n' hA' => cr_thrown l X.2.2.2.2.2.2.2.2 hA' (show fr_thrown ρ' = some (ρ' 39 0) from rfl))) g_1428 g_1429 g_1430 g_15 g_1431 hd_yX12_thrown ⟨rfl, rfl, Nat.le_of_ble_eq_true rfl, Nat.le_of_ble_eq_true rfl⟩ rfl (fun _ hG => cx_recvX X (j := 1) (ci := 15) rfl rfl hG) rfl (Nat.le_of_ble_eq_true rfl) dL_law_864 ⟨by show _ ≤ 601024; omega, by show _ ≤ 7293034; omega⟩ (fun _ _ => ?_)
  refine z_iload X dL_law_867 rfl ?_
  refine z_icmp_eq (tgt := 874) X dL_law_869 (by decide) (fun _ => ?_) (fun z => absurd h39 z)
  refine z_iload X dL_law_874 rfl ?_
  have fin : zz p l e lwR s m args below meth c A (cx D dA A W'.1 W'.2.1 W'.2.2 ad' ((q, .inl (dA 7, 1, .inr (.inl f'))) :: xR dA ρ' ar)) (cells + 4 + 0 + 0) (slots + 3030 + 0 + 0) Q 891 [(6, .int a), (5, .int r5), (4, .int (nI (7 * t))), (3, .ref q), (2, .ref (ar 40)), (1, .ref (ad' 11 0)), (0, .ref b)] [] [] := by
    refine z_goto (tgt := 2319) X dL_law_891 (by decide) ?_
    exact zz.forget (fun x hx => List.mem_cons_of_mem _ (List.mem_cons_of_mem _ hx)) (k W' ad' f' ρ' _ _ hRX.later ⟨by omega, by omega⟩)
  refine z_if_ne (tgt := 891) X dL_law_876 (by decide) (fun z => ?_) (fun _ => fin)
  refine z_aload_n X dL_law_879 rfl rfl ?_
  refine z_iconst (v := 0) X dL_law_880 (by decide) ?_
  refine c_laldX X 0 (o := a.toInt64) rfl (fun y => y.elim (fun y => absurd y (by decide)) (fun y => absurd y (by decide))) (hans z) dL_law_881 ?_
  refine z_iload X dL_law_882 rfl ?_
  refine z_i2l X dL_law_884 ?_
  refine z_lcmp X dL_law_885 ?_
  refine z_if_eq (tgt := 891) X dL_law_886 (by decide) (fun _ => fin) (fun y => absurd (lg_cmp_self _) y)
-- free
set_option maxRecDepth 100000 in
set_option maxHeartbeats 8000000 in
theorem lw_free {p : Program} {l : Launch} {e : Env} {s : State} {m : MethodId} {args : Array Value} {below : List Frame} {meth : Method} {c : Code} {A : Nat → Prop} {Q : State → Prop} {D : va_G} {dA : Nat → ClassId} (X : zc p l s m args meth c cL_law RL D dA A) (hNc : zNc s) (hml : c.maxLocals = 7) {b Ls : Nat} {sc : Nat → Int32} (hX : va_X b Ls sc s s.heap) (hbl : b < s.heap.size) (hbA : ¬ A b) {q : Nat} {W : CW} {ad : Adr} {f : Nat → Int64} {ρ : Rho} {ar : Nat → Nat} {t cells slots : Nat} (hR : RelX W ρ t) (hL : 7 * t + 7 ≤ Ls) (hL2 : Ls ≤ 3584) (hI : lwI t (E26 ρ) cells slots)
    (k : ∀ (W' : CW) (ad' : Adr) (f' : Nat → Int64) (ρ' : Rho) (c' s' : Nat), RelX W' ρ' (t + 1) → lwI (t + 1) (E26 ρ') c' s' → zz p l e lwR s m args below meth c A (cx D dA A W'.1 W'.2.1 W'.2.2 ad' ((q, .inl (dA 7, 1, .inr (.inl f'))) :: xR dA ρ' ar)) c' s' Q 2319 [(4, .int (nI (7 * t))), (3, .ref q), (2, .ref (ar 40)), (1, .ref (ad' 11 0)), (0, .ref b)] [] []) : zz p l e lwR s m args below meth c A (cx D dA A W.1 W.2.1 W.2.2 ad ((q, .inl (dA 7, 1, .inr (.inl f))) :: xR dA ρ ar)) cells slots Q 894 [(4, .int (nI (7 * t))), (3, .ref q), (2, .ref (ar 40)), (1, .ref (ad 11 0)), (0, .ref b)] [] [] := by
  obtain ⟨hI1, hI2⟩ := hI
  have h80 := @E26_le ρ
  obtain ⟨nw, hRel⟩ := hR
  have h11 : 0 < W.2.2 11 := by rw [hRel.r3.1.1]; decide
  obtain ⟨o, ρ', a, W', f', r5, hfc, hcd, hw, hfr, h39, hans, hRX, hE⟩ := OKQ.use (f := f) (f_free hRel (sc (7 * t + 1)))
  have h81 := @E26_le ρ'
  refine z_aload_n X dL_law_894 rfl rfl ?_
  refine z_aload_n X dL_law_895 rfl rfl ?_
  refine z_iload X dL_law_896 rfl ?_
  refine z_iconst (v := nI 1) X dL_law_898 (by decide) ?_
  refine z_iadd X dL_law_899 ?_
  rw [(nI_arg (j := 1) hL hL2 (by decide)).1]
  refine z_sld X hX hbl hbA (nI_arg hL hL2 (by decide)).2 dL_law_900 ?_
  rw [nI_clamp (by omega)]
  refine z_aload_n X dL_law_901 rfl rfl ?_
  refine z_callWi (As := [.ref (ad 11 0), .int (sc (7 * t + 1)), .ref q]) (rest := []) (nA := 3) (mc := 1) (ms := 6) (rm := ({ frames := 60, cells := 1, slots := 6, locals := 600 } : Room)) (S := CW × (Nat → Int64) × Adr) (post := fun r u => wQ W.1 W.2.1 W.2.2 f cd1 o = (u.1, u.2.1, r) ∧ axt W.2.2 ad u.2.2 ∧ ∀ k, W.2.2 k ≤ u.1.2.2 k) (G1 := fun u => cx D dA A u.1.1 u.1.2.1 u.1.2.2 u.2.2 ((q, .inl (dA 7, 1, .inr (.inl u.2.1))) :: xR dA ρ ar)) X hNc (cw_free l X.2.2.2.2.2.2.2.2 X.2.2.2.2.2.2.1 h11 hcd hfc) g_819 g_820 g_0 g_821 hd_yL_free.2 ⟨rfl, rfl, Nat.le_of_ble_eq_true rfl, Nat.le_of_ble_eq_true rfl⟩ rfl rfl (Nat.le_of_ble_eq_true rfl) dL_law_902 ⟨by show _ ≤ 601024; omega, by show _ ≤ 7293034; omega⟩ (fun r u hu => ?_)
  obtain ⟨W2, f2, ad'⟩ := u
  obtain ⟨hu1, hax, hN⟩ := hu
  have e1 := hw.symm.trans hu1
  simp only [Prod.mk.injEq] at e1
  obtain ⟨rfl, rfl, rfl⟩ := e1
  have ha1 : ad' 11 0 = ad 11 0 := hax 11 0 (ex_k (by decide) h11) (by decide)
  rw [← ha1]
  have h11' : 0 < W'.2.2 11 := Nat.lt_of_lt_of_le h11 (hN 11)
  refine z_istore X dL_law_905 (by rw [hml]; decide) rfl rfl ?_
  refine z_aload_n X dL_law_907 rfl rfl ?_
  refine z_aload_n X dL_law_908 rfl rfl ?_
  refine z_iload X dL_law_909 rfl ?_
  refine z_iconst (v := nI 1) X dL_law_911 (by decide) ?_
  refine z_iadd X dL_law_912 ?_
  rw [(nI_arg (j := 1) hL hL2 (by decide)).1]
  refine z_sld X hX hbl hbA (nI_arg hL hL2 (by decide)).2 dL_law_913 ?_
  rw [nI_clamp (by omega)]
  refine z_callVi (As := [.int (sc (7 * t + 1))]) (rest := []) (nA := 1) (mc := 0) (ms := 0) (rm := ({ frames := 60, cells := 0, slots := 0, locals := 600 } : Room)) (r0 := a) (pu := fun (_ : Unit) => True) (G1 := fun _ => cx D dA A W'.1 W'.2.1 W'.2.2 ad' ((q, .inl (dA 7, 1, .inr (.inl f'))) :: xR dA ρ' ar)) X (met_ref (xs := [(q, .inl (dA 7, 1, .inr (.inl f')))]) X.2.2.2.2.2.2.1 (fun A' n' hA' => cr_free l X.2.2.2.2.2.2.2.2 hA' hfr)) g_1496 g_1497 g_1498 g_15 g_1499 hd_yX12_free ⟨rfl, rfl, Nat.le_of_ble_eq_true rfl, Nat.le_of_ble_eq_true rfl⟩ rfl (fun _ hG => cx_recvX X (j := 1) (ci := 15) rfl rfl hG) rfl (Nat.le_of_ble_eq_true rfl) dL_law_914 ⟨by show _ ≤ 601024; omega, by show _ ≤ 7293034; omega⟩ (fun _ _ => ?_)
  refine z_istore X dL_law_917 (by rw [hml]; decide) rfl rfl ?_
  refine z_aload_n X dL_law_919 rfl rfl ?_
  refine z_callVi (As := []) (rest := []) (nA := 0) (mc := 0) (ms := 0) (rm := ({ frames := 20, cells := 0, slots := 0, locals := 200 } : Room)) (r0 := ρ' 39 0) (pu := fun (_ : Unit) => True) (G1 := fun _ => cx D dA A W'.1 W'.2.1 W'.2.2 ad' ((q, .inl (dA 7, 1, .inr (.inl f'))) :: xR dA ρ' ar)) X (met_ref (xs := [(q, .inl (dA 7, 1, .inr (.inl f')))]) X.2.2.2.2.2.2.1 (fun A' n' hA' => cr_thrown l X.2.2.2.2.2.2.2.2 hA' (show fr_thrown ρ' = some (ρ' 39 0) from rfl))) g_1428 g_1429 g_1430 g_15 g_1431 hd_yX12_thrown ⟨rfl, rfl, Nat.le_of_ble_eq_true rfl, Nat.le_of_ble_eq_true rfl⟩ rfl (fun _ hG => cx_recvX X (j := 1) (ci := 15) rfl rfl hG) rfl (Nat.le_of_ble_eq_true rfl) dL_law_920 ⟨by show _ ≤ 601024; omega, by show _ ≤ 7293034; omega⟩ (fun _ _ => ?_)
  refine z_iload X dL_law_923 rfl ?_
  refine z_icmp_eq (tgt := 930) X dL_law_925 (by decide) (fun _ => ?_) (fun z => absurd h39 z)
  refine z_iload X dL_law_930 rfl ?_
  have fin : zz p l e lwR s m args below meth c A (cx D dA A W'.1 W'.2.1 W'.2.2 ad' ((q, .inl (dA 7, 1, .inr (.inl f'))) :: xR dA ρ' ar)) (cells + 1 + 0 + 0) (slots + 6 + 0 + 0) Q 947 [(6, .int a), (5, .int r5), (4, .int (nI (7 * t))), (3, .ref q), (2, .ref (ar 40)), (1, .ref (ad' 11 0)), (0, .ref b)] [] [] := by
    refine z_goto (tgt := 2319) X dL_law_947 (by decide) ?_
    exact zz.forget (fun x hx => List.mem_cons_of_mem _ (List.mem_cons_of_mem _ hx)) (k W' ad' f' ρ' _ _ hRX.later ⟨by omega, by omega⟩)
  refine z_if_ne (tgt := 947) X dL_law_932 (by decide) (fun z => ?_) (fun _ => fin)
  refine z_aload_n X dL_law_935 rfl rfl ?_
  refine z_iconst (v := 0) X dL_law_936 (by decide) ?_
  refine c_laldX X 0 (o := a.toInt64) rfl (fun y => y.elim (fun y => absurd y (by decide)) (fun y => absurd y (by decide))) (hans z) dL_law_937 ?_
  refine z_iload X dL_law_938 rfl ?_
  refine z_i2l X dL_law_940 ?_
  refine z_lcmp X dL_law_941 ?_
  refine z_if_eq (tgt := 947) X dL_law_942 (by decide) (fun _ => fin) (fun y => absurd (lg_cmp_self _) y)
-- aside
set_option maxRecDepth 100000 in
set_option maxHeartbeats 8000000 in
theorem lw_aside {p : Program} {l : Launch} {e : Env} {s : State} {m : MethodId} {args : Array Value} {below : List Frame} {meth : Method} {c : Code} {A : Nat → Prop} {Q : State → Prop} {D : va_G} {dA : Nat → ClassId} (X : zc p l s m args meth c cL_law RL D dA A) (hNc : zNc s) (hml : c.maxLocals = 7) {b Ls : Nat} {sc : Nat → Int32} (hX : va_X b Ls sc s s.heap) (hbl : b < s.heap.size) (hbA : ¬ A b) {q : Nat} {W : CW} {ad : Adr} {f : Nat → Int64} {ρ : Rho} {ar : Nat → Nat} {t cells slots : Nat} (hR : RelX W ρ t) (hL : 7 * t + 7 ≤ Ls) (hL2 : Ls ≤ 3584) (hI : lwI t (E26 ρ) cells slots)
    (k : ∀ (W' : CW) (ad' : Adr) (f' : Nat → Int64) (ρ' : Rho) (c' s' : Nat), RelX W' ρ' (t + 1) → lwI (t + 1) (E26 ρ') c' s' → zz p l e lwR s m args below meth c A (cx D dA A W'.1 W'.2.1 W'.2.2 ad' ((q, .inl (dA 7, 1, .inr (.inl f'))) :: xR dA ρ' ar)) c' s' Q 2319 [(4, .int (nI (7 * t))), (3, .ref q), (2, .ref (ar 40)), (1, .ref (ad' 11 0)), (0, .ref b)] [] []) : zz p l e lwR s m args below meth c A (cx D dA A W.1 W.2.1 W.2.2 ad ((q, .inl (dA 7, 1, .inr (.inl f))) :: xR dA ρ ar)) cells slots Q 950 [(4, .int (nI (7 * t))), (3, .ref q), (2, .ref (ar 40)), (1, .ref (ad 11 0)), (0, .ref b)] [] [] := by
  obtain ⟨hI1, hI2⟩ := hI
  have h80 := @E26_le ρ
  obtain ⟨nw, hRel⟩ := hR
  have h11 : 0 < W.2.2 11 := by rw [hRel.r3.1.1]; decide
  obtain ⟨o, ρ', a, W', f', r5, hfc, hcd, hw, hfr, h39, hans, hRX, hE⟩ := OKQ.use (f := f) (f_aside hRel (sc (7 * t + 1)))
  have h81 := @E26_le ρ'
  refine z_aload_n X dL_law_950 rfl rfl ?_
  refine z_aload_n X dL_law_951 rfl rfl ?_
  refine z_iload X dL_law_952 rfl ?_
  refine z_iconst (v := nI 1) X dL_law_954 (by decide) ?_
  refine z_iadd X dL_law_955 ?_
  rw [(nI_arg (j := 1) hL hL2 (by decide)).1]
  refine z_sld X hX hbl hbA (nI_arg hL hL2 (by decide)).2 dL_law_956 ?_
  rw [nI_clamp (by omega)]
  refine z_aload_n X dL_law_957 rfl rfl ?_
  refine z_callWi (As := [.ref (ad 11 0), .int (sc (7 * t + 1)), .ref q]) (rest := []) (nA := 3) (mc := 1) (ms := 6) (rm := ({ frames := 60, cells := 1, slots := 6, locals := 600 } : Room)) (S := CW × (Nat → Int64) × Adr) (post := fun r u => wQ W.1 W.2.1 W.2.2 f cd1 o = (u.1, u.2.1, r) ∧ axt W.2.2 ad u.2.2 ∧ ∀ k, W.2.2 k ≤ u.1.2.2 k) (G1 := fun u => cx D dA A u.1.1 u.1.2.1 u.1.2.2 u.2.2 ((q, .inl (dA 7, 1, .inr (.inl u.2.1))) :: xR dA ρ ar)) X hNc (cw_aside l X.2.2.2.2.2.2.2.2 X.2.2.2.2.2.2.1 h11 hcd hfc) g_826 g_827 g_0 g_828 hd_yL_aside.2 ⟨rfl, rfl, Nat.le_of_ble_eq_true rfl, Nat.le_of_ble_eq_true rfl⟩ rfl rfl (Nat.le_of_ble_eq_true rfl) dL_law_958 ⟨by show _ ≤ 601024; omega, by show _ ≤ 7293034; omega⟩ (fun r u hu => ?_)
  obtain ⟨W2, f2, ad'⟩ := u
  obtain ⟨hu1, hax, hN⟩ := hu
  have e1 := hw.symm.trans hu1
  simp only [Prod.mk.injEq] at e1
  obtain ⟨rfl, rfl, rfl⟩ := e1
  have ha1 : ad' 11 0 = ad 11 0 := hax 11 0 (ex_k (by decide) h11) (by decide)
  rw [← ha1]
  have h11' : 0 < W'.2.2 11 := Nat.lt_of_lt_of_le h11 (hN 11)
  refine z_istore X dL_law_961 (by rw [hml]; decide) rfl rfl ?_
  refine z_aload_n X dL_law_963 rfl rfl ?_
  refine z_aload_n X dL_law_964 rfl rfl ?_
  refine z_iload X dL_law_965 rfl ?_
  refine z_iconst (v := nI 1) X dL_law_967 (by decide) ?_
  refine z_iadd X dL_law_968 ?_
  rw [(nI_arg (j := 1) hL hL2 (by decide)).1]
  refine z_sld X hX hbl hbA (nI_arg hL hL2 (by decide)).2 dL_law_969 ?_
  rw [nI_clamp (by omega)]
  refine z_callVi (As := [.int (sc (7 * t + 1))]) (rest := []) (nA := 1) (mc := 0) (ms := 0) (rm := ({ frames := 60, cells := 0, slots := 0, locals := 600 } : Room)) (r0 := a) (pu := fun (_ : Unit) => True) (G1 := fun _ => cx D dA A W'.1 W'.2.1 W'.2.2 ad' ((q, .inl (dA 7, 1, .inr (.inl f'))) :: xR dA ρ' ar)) X (met_ref (xs := [(q, .inl (dA 7, 1, .inr (.inl f')))]) X.2.2.2.2.2.2.1 (fun A' n' hA' => cr_aside l X.2.2.2.2.2.2.2.2 hA' hfr)) g_1500 g_1501 g_1502 g_15 g_1503 hd_yX12_aside ⟨rfl, rfl, Nat.le_of_ble_eq_true rfl, Nat.le_of_ble_eq_true rfl⟩ rfl (fun _ hG => cx_recvX X (j := 1) (ci := 15) rfl rfl hG) rfl (Nat.le_of_ble_eq_true rfl) dL_law_970 ⟨by show _ ≤ 601024; omega, by show _ ≤ 7293034; omega⟩ (fun _ _ => ?_)
  refine z_istore X dL_law_973 (by rw [hml]; decide) rfl rfl ?_
  refine z_aload_n X dL_law_975 rfl rfl ?_
  refine z_callVi (As := []) (rest := []) (nA := 0) (mc := 0) (ms := 0) (rm := ({ frames := 20, cells := 0, slots := 0, locals := 200 } : Room)) (r0 := ρ' 39 0) (pu := fun (_ : Unit) => True) (G1 := fun _ => cx D dA A W'.1 W'.2.1 W'.2.2 ad' ((q, .inl (dA 7, 1, .inr (.inl f'))) :: xR dA ρ' ar)) X (met_ref (xs := [(q, .inl (dA 7, 1, .inr (.inl f')))]) X.2.2.2.2.2.2.1 (fun A' n' hA' => cr_thrown l X.2.2.2.2.2.2.2.2 hA' (show fr_thrown ρ' = some (ρ' 39 0) from rfl))) g_1428 g_1429 g_1430 g_15 g_1431 hd_yX12_thrown ⟨rfl, rfl, Nat.le_of_ble_eq_true rfl, Nat.le_of_ble_eq_true rfl⟩ rfl (fun _ hG => cx_recvX X (j := 1) (ci := 15) rfl rfl hG) rfl (Nat.le_of_ble_eq_true rfl) dL_law_976 ⟨by show _ ≤ 601024; omega, by show _ ≤ 7293034; omega⟩ (fun _ _ => ?_)
  refine z_iload X dL_law_979 rfl ?_
  refine z_icmp_eq (tgt := 986) X dL_law_981 (by decide) (fun _ => ?_) (fun z => absurd h39 z)
  refine z_iload X dL_law_986 rfl ?_
  have fin : zz p l e lwR s m args below meth c A (cx D dA A W'.1 W'.2.1 W'.2.2 ad' ((q, .inl (dA 7, 1, .inr (.inl f'))) :: xR dA ρ' ar)) (cells + 1 + 0 + 0) (slots + 6 + 0 + 0) Q 1003 [(6, .int a), (5, .int r5), (4, .int (nI (7 * t))), (3, .ref q), (2, .ref (ar 40)), (1, .ref (ad' 11 0)), (0, .ref b)] [] [] := by
    refine z_goto (tgt := 2319) X dL_law_1003 (by decide) ?_
    exact zz.forget (fun x hx => List.mem_cons_of_mem _ (List.mem_cons_of_mem _ hx)) (k W' ad' f' ρ' _ _ hRX.later ⟨by omega, by omega⟩)
  refine z_if_ne (tgt := 1003) X dL_law_988 (by decide) (fun z => ?_) (fun _ => fin)
  refine z_aload_n X dL_law_991 rfl rfl ?_
  refine z_iconst (v := 0) X dL_law_992 (by decide) ?_
  refine c_laldX X 0 (o := a.toInt64) rfl (fun y => y.elim (fun y => absurd y (by decide)) (fun y => absurd y (by decide))) (hans z) dL_law_993 ?_
  refine z_iload X dL_law_994 rfl ?_
  refine z_i2l X dL_law_996 ?_
  refine z_lcmp X dL_law_997 ?_
  refine z_if_eq (tgt := 1003) X dL_law_998 (by decide) (fun _ => fin) (fun y => absurd (lg_cmp_self _) y)
-- spent
set_option maxRecDepth 100000 in
set_option maxHeartbeats 8000000 in
theorem lw_spent {p : Program} {l : Launch} {e : Env} {s : State} {m : MethodId} {args : Array Value} {below : List Frame} {meth : Method} {c : Code} {A : Nat → Prop} {Q : State → Prop} {D : va_G} {dA : Nat → ClassId} (X : zc p l s m args meth c cL_law RL D dA A) (hNc : zNc s) (hml : c.maxLocals = 7) {b Ls : Nat} {sc : Nat → Int32} (hX : va_X b Ls sc s s.heap) (hbl : b < s.heap.size) (hbA : ¬ A b) {q : Nat} {W : CW} {ad : Adr} {f : Nat → Int64} {ρ : Rho} {ar : Nat → Nat} {t cells slots : Nat} (hR : RelX W ρ t) (hL : 7 * t + 7 ≤ Ls) (hL2 : Ls ≤ 3584) (hI : lwI t (E26 ρ) cells slots)
    (k : ∀ (W' : CW) (ad' : Adr) (f' : Nat → Int64) (ρ' : Rho) (c' s' : Nat), RelX W' ρ' (t + 1) → lwI (t + 1) (E26 ρ') c' s' → zz p l e lwR s m args below meth c A (cx D dA A W'.1 W'.2.1 W'.2.2 ad' ((q, .inl (dA 7, 1, .inr (.inl f'))) :: xR dA ρ' ar)) c' s' Q 2319 [(4, .int (nI (7 * t))), (3, .ref q), (2, .ref (ar 40)), (1, .ref (ad' 11 0)), (0, .ref b)] [] []) : zz p l e lwR s m args below meth c A (cx D dA A W.1 W.2.1 W.2.2 ad ((q, .inl (dA 7, 1, .inr (.inl f))) :: xR dA ρ ar)) cells slots Q 1006 [(4, .int (nI (7 * t))), (3, .ref q), (2, .ref (ar 40)), (1, .ref (ad 11 0)), (0, .ref b)] [] [] := by
  obtain ⟨hI1, hI2⟩ := hI
  have h80 := @E26_le ρ
  obtain ⟨nw, hRel⟩ := hR
  have h11 : 0 < W.2.2 11 := by rw [hRel.r3.1.1]; decide
  obtain ⟨o, ρ', a, W', f', r5, hfc, hcd, hw, hfr, h39, hans, hRX, hE⟩ := OKQ.use (f := f) (f_spent hRel (sc (7 * t + 1)))
  have h81 := @E26_le ρ'
  refine z_aload_n X dL_law_1006 rfl rfl ?_
  refine z_aload_n X dL_law_1007 rfl rfl ?_
  refine z_iload X dL_law_1008 rfl ?_
  refine z_iconst (v := nI 1) X dL_law_1010 (by decide) ?_
  refine z_iadd X dL_law_1011 ?_
  rw [(nI_arg (j := 1) hL hL2 (by decide)).1]
  refine z_sld X hX hbl hbA (nI_arg hL hL2 (by decide)).2 dL_law_1012 ?_
  rw [nI_clamp (by omega)]
  refine z_aload_n X dL_law_1013 rfl rfl ?_
  refine z_callWi (As := [.ref (ad 11 0), .int (sc (7 * t + 1)), .ref q]) (rest := []) (nA := 3) (mc := 1) (ms := 6) (rm := ({ frames := 60, cells := 1, slots := 6, locals := 600 } : Room)) (S := CW × (Nat → Int64) × Adr) (post := fun r u => wQ W.1 W.2.1 W.2.2 f cd1 o = (u.1, u.2.1, r) ∧ axt W.2.2 ad u.2.2 ∧ ∀ k, W.2.2 k ≤ u.1.2.2 k) (G1 := fun u => cx D dA A u.1.1 u.1.2.1 u.1.2.2 u.2.2 ((q, .inl (dA 7, 1, .inr (.inl u.2.1))) :: xR dA ρ ar)) X hNc (cw_spent l X.2.2.2.2.2.2.2.2 X.2.2.2.2.2.2.1 h11 hcd hfc) g_837 g_838 g_0 g_839 hd_yL_spent.2 ⟨rfl, rfl, Nat.le_of_ble_eq_true rfl, Nat.le_of_ble_eq_true rfl⟩ rfl rfl (Nat.le_of_ble_eq_true rfl) dL_law_1014 ⟨by show _ ≤ 601024; omega, by show _ ≤ 7293034; omega⟩ (fun r u hu => ?_)
  obtain ⟨W2, f2, ad'⟩ := u
  obtain ⟨hu1, hax, hN⟩ := hu
  have e1 := hw.symm.trans hu1
  simp only [Prod.mk.injEq] at e1
  obtain ⟨rfl, rfl, rfl⟩ := e1
  have ha1 : ad' 11 0 = ad 11 0 := hax 11 0 (ex_k (by decide) h11) (by decide)
  rw [← ha1]
  have h11' : 0 < W'.2.2 11 := Nat.lt_of_lt_of_le h11 (hN 11)
  refine z_istore X dL_law_1017 (by rw [hml]; decide) rfl rfl ?_
  refine z_aload_n X dL_law_1019 rfl rfl ?_
  refine z_aload_n X dL_law_1020 rfl rfl ?_
  refine z_iload X dL_law_1021 rfl ?_
  refine z_iconst (v := nI 1) X dL_law_1023 (by decide) ?_
  refine z_iadd X dL_law_1024 ?_
  rw [(nI_arg (j := 1) hL hL2 (by decide)).1]
  refine z_sld X hX hbl hbA (nI_arg hL hL2 (by decide)).2 dL_law_1025 ?_
  rw [nI_clamp (by omega)]
  refine z_callVi (As := [.int (sc (7 * t + 1))]) (rest := []) (nA := 1) (mc := 0) (ms := 0) (rm := ({ frames := 60, cells := 0, slots := 0, locals := 600 } : Room)) (r0 := a) (pu := fun (_ : Unit) => True) (G1 := fun _ => cx D dA A W'.1 W'.2.1 W'.2.2 ad' ((q, .inl (dA 7, 1, .inr (.inl f'))) :: xR dA ρ' ar)) X (met_ref (xs := [(q, .inl (dA 7, 1, .inr (.inl f')))]) X.2.2.2.2.2.2.1 (fun A' n' hA' => cr_spent l X.2.2.2.2.2.2.2.2 hA' hfr)) g_1508 g_1509 g_1510 g_15 g_1511 hd_yX12_spent ⟨rfl, rfl, Nat.le_of_ble_eq_true rfl, Nat.le_of_ble_eq_true rfl⟩ rfl (fun _ hG => cx_recvX X (j := 1) (ci := 15) rfl rfl hG) rfl (Nat.le_of_ble_eq_true rfl) dL_law_1026 ⟨by show _ ≤ 601024; omega, by show _ ≤ 7293034; omega⟩ (fun _ _ => ?_)
  refine z_istore X dL_law_1029 (by rw [hml]; decide) rfl rfl ?_
  refine z_aload_n X dL_law_1031 rfl rfl ?_
  refine z_callVi (As := []) (rest := []) (nA := 0) (mc := 0) (ms := 0) (rm := ({ frames := 20, cells := 0, slots := 0, locals := 200 } : Room)) (r0 := ρ' 39 0) (pu := fun (_ : Unit) => True) (G1 := fun _ => cx D dA A W'.1 W'.2.1 W'.2.2 ad' ((q, .inl (dA 7, 1, .inr (.inl f'))) :: xR dA ρ' ar)) X (met_ref (xs := [(q, .inl (dA 7, 1, .inr (.inl f')))]) X.2.2.2.2.2.2.1 (fun A' n' hA' => cr_thrown l X.2.2.2.2.2.2.2.2 hA' (show fr_thrown ρ' = some (ρ' 39 0) from rfl))) g_1428 g_1429 g_1430 g_15 g_1431 hd_yX12_thrown ⟨rfl, rfl, Nat.le_of_ble_eq_true rfl, Nat.le_of_ble_eq_true rfl⟩ rfl (fun _ hG => cx_recvX X (j := 1) (ci := 15) rfl rfl hG) rfl (Nat.le_of_ble_eq_true rfl) dL_law_1032 ⟨by show _ ≤ 601024; omega, by show _ ≤ 7293034; omega⟩ (fun _ _ => ?_)
  refine z_iload X dL_law_1035 rfl ?_
  refine z_icmp_eq (tgt := 1042) X dL_law_1037 (by decide) (fun _ => ?_) (fun z => absurd h39 z)
  refine z_iload X dL_law_1042 rfl ?_
  have fin : zz p l e lwR s m args below meth c A (cx D dA A W'.1 W'.2.1 W'.2.2 ad' ((q, .inl (dA 7, 1, .inr (.inl f'))) :: xR dA ρ' ar)) (cells + 1 + 0 + 0) (slots + 6 + 0 + 0) Q 1059 [(6, .int a), (5, .int r5), (4, .int (nI (7 * t))), (3, .ref q), (2, .ref (ar 40)), (1, .ref (ad' 11 0)), (0, .ref b)] [] [] := by
    refine z_goto (tgt := 2319) X dL_law_1059 (by decide) ?_
    exact zz.forget (fun x hx => List.mem_cons_of_mem _ (List.mem_cons_of_mem _ hx)) (k W' ad' f' ρ' _ _ hRX.later ⟨by omega, by omega⟩)
  refine z_if_ne (tgt := 1059) X dL_law_1044 (by decide) (fun z => ?_) (fun _ => fin)
  refine z_aload_n X dL_law_1047 rfl rfl ?_
  refine z_iconst (v := 0) X dL_law_1048 (by decide) ?_
  refine c_laldX X 0 (o := a.toInt64) rfl (fun y => y.elim (fun y => absurd y (by decide)) (fun y => absurd y (by decide))) (hans z) dL_law_1049 ?_
  refine z_iload X dL_law_1050 rfl ?_
  refine z_i2l X dL_law_1052 ?_
  refine z_lcmp X dL_law_1053 ?_
  refine z_if_eq (tgt := 1059) X dL_law_1054 (by decide) (fun _ => fin) (fun y => absurd (lg_cmp_self _) y)
-- left
set_option maxRecDepth 100000 in
set_option maxHeartbeats 8000000 in
theorem lw_left {p : Program} {l : Launch} {e : Env} {s : State} {m : MethodId} {args : Array Value} {below : List Frame} {meth : Method} {c : Code} {A : Nat → Prop} {Q : State → Prop} {D : va_G} {dA : Nat → ClassId} (X : zc p l s m args meth c cL_law RL D dA A) (hNc : zNc s) (hml : c.maxLocals = 7) {b Ls : Nat} {sc : Nat → Int32} (hX : va_X b Ls sc s s.heap) (hbl : b < s.heap.size) (hbA : ¬ A b) {q : Nat} {W : CW} {ad : Adr} {f : Nat → Int64} {ρ : Rho} {ar : Nat → Nat} {t cells slots : Nat} (hR : RelX W ρ t) (hL : 7 * t + 7 ≤ Ls) (hL2 : Ls ≤ 3584) (hI : lwI t (E26 ρ) cells slots)
    (k : ∀ (W' : CW) (ad' : Adr) (f' : Nat → Int64) (ρ' : Rho) (c' s' : Nat), RelX W' ρ' (t + 1) → lwI (t + 1) (E26 ρ') c' s' → zz p l e lwR s m args below meth c A (cx D dA A W'.1 W'.2.1 W'.2.2 ad' ((q, .inl (dA 7, 1, .inr (.inl f'))) :: xR dA ρ' ar)) c' s' Q 2319 [(4, .int (nI (7 * t))), (3, .ref q), (2, .ref (ar 40)), (1, .ref (ad' 11 0)), (0, .ref b)] [] []) : zz p l e lwR s m args below meth c A (cx D dA A W.1 W.2.1 W.2.2 ad ((q, .inl (dA 7, 1, .inr (.inl f))) :: xR dA ρ ar)) cells slots Q 1062 [(4, .int (nI (7 * t))), (3, .ref q), (2, .ref (ar 40)), (1, .ref (ad 11 0)), (0, .ref b)] [] [] := by
  obtain ⟨hI1, hI2⟩ := hI
  have h80 := @E26_le ρ
  obtain ⟨nw, hRel⟩ := hR
  have h11 : 0 < W.2.2 11 := by rw [hRel.r3.1.1]; decide
  obtain ⟨o, ρ', a, W', f', r5, hfc, hcd, hw, hfr, h39, hans, hRX, hE⟩ := OKQ.use (f := f) (f_left hRel (sc (7 * t + 1)))
  have h81 := @E26_le ρ'
  refine z_aload_n X dL_law_1062 rfl rfl ?_
  refine z_aload_n X dL_law_1063 rfl rfl ?_
  refine z_iload X dL_law_1064 rfl ?_
  refine z_iconst (v := nI 1) X dL_law_1066 (by decide) ?_
  refine z_iadd X dL_law_1067 ?_
  rw [(nI_arg (j := 1) hL hL2 (by decide)).1]
  refine z_sld X hX hbl hbA (nI_arg hL hL2 (by decide)).2 dL_law_1068 ?_
  rw [nI_clamp (by omega)]
  refine z_aload_n X dL_law_1069 rfl rfl ?_
  refine z_callWi (As := [.ref (ad 11 0), .int (sc (7 * t + 1)), .ref q]) (rest := []) (nA := 3) (mc := 1) (ms := 6) (rm := ({ frames := 200, cells := 1, slots := 6, locals := 2000 } : Room)) (S := CW × (Nat → Int64) × Adr) (post := fun r u => wQ W.1 W.2.1 W.2.2 f cd1 o = (u.1, u.2.1, r) ∧ axt W.2.2 ad u.2.2 ∧ ∀ k, W.2.2 k ≤ u.1.2.2 k) (G1 := fun u => cx D dA A u.1.1 u.1.2.1 u.1.2.2 u.2.2 ((q, .inl (dA 7, 1, .inr (.inl u.2.1))) :: xR dA ρ ar)) X hNc (cw_left l X.2.2.2.2.2.2.2.2 X.2.2.2.2.2.2.1 h11 hcd hfc) g_844 g_845 g_0 g_846 hd_yL_left.2 ⟨rfl, rfl, Nat.le_of_ble_eq_true rfl, Nat.le_of_ble_eq_true rfl⟩ rfl rfl (Nat.le_of_ble_eq_true rfl) dL_law_1070 ⟨by show _ ≤ 601024; omega, by show _ ≤ 7293034; omega⟩ (fun r u hu => ?_)
  obtain ⟨W2, f2, ad'⟩ := u
  obtain ⟨hu1, hax, hN⟩ := hu
  have e1 := hw.symm.trans hu1
  simp only [Prod.mk.injEq] at e1
  obtain ⟨rfl, rfl, rfl⟩ := e1
  have ha1 : ad' 11 0 = ad 11 0 := hax 11 0 (ex_k (by decide) h11) (by decide)
  rw [← ha1]
  have h11' : 0 < W'.2.2 11 := Nat.lt_of_lt_of_le h11 (hN 11)
  refine z_istore X dL_law_1073 (by rw [hml]; decide) rfl rfl ?_
  refine z_aload_n X dL_law_1075 rfl rfl ?_
  refine z_aload_n X dL_law_1076 rfl rfl ?_
  refine z_iload X dL_law_1077 rfl ?_
  refine z_iconst (v := nI 1) X dL_law_1079 (by decide) ?_
  refine z_iadd X dL_law_1080 ?_
  rw [(nI_arg (j := 1) hL hL2 (by decide)).1]
  refine z_sld X hX hbl hbA (nI_arg hL hL2 (by decide)).2 dL_law_1081 ?_
  rw [nI_clamp (by omega)]
  refine z_callVi (As := [.int (sc (7 * t + 1))]) (rest := []) (nA := 1) (mc := 0) (ms := 0) (rm := ({ frames := 60, cells := 0, slots := 0, locals := 600 } : Room)) (r0 := a) (pu := fun (_ : Unit) => True) (G1 := fun _ => cx D dA A W'.1 W'.2.1 W'.2.2 ad' ((q, .inl (dA 7, 1, .inr (.inl f'))) :: xR dA ρ' ar)) X (met_ref (xs := [(q, .inl (dA 7, 1, .inr (.inl f')))]) X.2.2.2.2.2.2.1 (fun A' n' hA' => cr_left l X.2.2.2.2.2.2.2.2 hA' hfr)) g_1512 g_1513 g_1514 g_15 g_1515 hd_yX12_left ⟨rfl, rfl, Nat.le_of_ble_eq_true rfl, Nat.le_of_ble_eq_true rfl⟩ rfl (fun _ hG => cx_recvX X (j := 1) (ci := 15) rfl rfl hG) rfl (Nat.le_of_ble_eq_true rfl) dL_law_1082 ⟨by show _ ≤ 601024; omega, by show _ ≤ 7293034; omega⟩ (fun _ _ => ?_)
  refine z_istore X dL_law_1085 (by rw [hml]; decide) rfl rfl ?_
  refine z_aload_n X dL_law_1087 rfl rfl ?_
  refine z_callVi (As := []) (rest := []) (nA := 0) (mc := 0) (ms := 0) (rm := ({ frames := 20, cells := 0, slots := 0, locals := 200 } : Room)) (r0 := ρ' 39 0) (pu := fun (_ : Unit) => True) (G1 := fun _ => cx D dA A W'.1 W'.2.1 W'.2.2 ad' ((q, .inl (dA 7, 1, .inr (.inl f'))) :: xR dA ρ' ar)) X (met_ref (xs := [(q, .inl (dA 7, 1, .inr (.inl f')))]) X.2.2.2.2.2.2.1 (fun A' n' hA' => cr_thrown l X.2.2.2.2.2.2.2.2 hA' (show fr_thrown ρ' = some (ρ' 39 0) from rfl))) g_1428 g_1429 g_1430 g_15 g_1431 hd_yX12_thrown ⟨rfl, rfl, Nat.le_of_ble_eq_true rfl, Nat.le_of_ble_eq_true rfl⟩ rfl (fun _ hG => cx_recvX X (j := 1) (ci := 15) rfl rfl hG) rfl (Nat.le_of_ble_eq_true rfl) dL_law_1088 ⟨by show _ ≤ 601024; omega, by show _ ≤ 7293034; omega⟩ (fun _ _ => ?_)
  refine z_iload X dL_law_1091 rfl ?_
  refine z_icmp_eq (tgt := 1098) X dL_law_1093 (by decide) (fun _ => ?_) (fun z => absurd h39 z)
  refine z_iload X dL_law_1098 rfl ?_
  have fin : zz p l e lwR s m args below meth c A (cx D dA A W'.1 W'.2.1 W'.2.2 ad' ((q, .inl (dA 7, 1, .inr (.inl f'))) :: xR dA ρ' ar)) (cells + 1 + 0 + 0) (slots + 6 + 0 + 0) Q 1115 [(6, .int a), (5, .int r5), (4, .int (nI (7 * t))), (3, .ref q), (2, .ref (ar 40)), (1, .ref (ad' 11 0)), (0, .ref b)] [] [] := by
    refine z_goto (tgt := 2319) X dL_law_1115 (by decide) ?_
    exact zz.forget (fun x hx => List.mem_cons_of_mem _ (List.mem_cons_of_mem _ hx)) (k W' ad' f' ρ' _ _ hRX.later ⟨by omega, by omega⟩)
  refine z_if_ne (tgt := 1115) X dL_law_1100 (by decide) (fun z => ?_) (fun _ => fin)
  refine z_aload_n X dL_law_1103 rfl rfl ?_
  refine z_iconst (v := 0) X dL_law_1104 (by decide) ?_
  refine c_laldX X 0 (o := a.toInt64) rfl (fun y => y.elim (fun y => absurd y (by decide)) (fun y => absurd y (by decide))) (hans z) dL_law_1105 ?_
  refine z_iload X dL_law_1106 rfl ?_
  refine z_i2l X dL_law_1108 ?_
  refine z_lcmp X dL_law_1109 ?_
  refine z_if_eq (tgt := 1115) X dL_law_1110 (by decide) (fun _ => fin) (fun y => absurd (lg_cmp_self _) y)
-- begin
set_option maxRecDepth 100000 in
set_option maxHeartbeats 8000000 in
theorem lw_begin {p : Program} {l : Launch} {e : Env} {s : State} {m : MethodId} {args : Array Value} {below : List Frame} {meth : Method} {c : Code} {A : Nat → Prop} {Q : State → Prop} {D : va_G} {dA : Nat → ClassId} (X : zc p l s m args meth c cL_law RL D dA A) (hNc : zNc s) (hml : c.maxLocals = 7) {b Ls : Nat} {sc : Nat → Int32} (hX : va_X b Ls sc s s.heap) (hbl : b < s.heap.size) (hbA : ¬ A b) {q : Nat} {W : CW} {ad : Adr} {f : Nat → Int64} {ρ : Rho} {ar : Nat → Nat} {t cells slots : Nat} (hR : RelX W ρ t) (hL : 7 * t + 7 ≤ Ls) (hL2 : Ls ≤ 3584) (hI : lwI t (E26 ρ) cells slots)
    (k : ∀ (W' : CW) (ad' : Adr) (f' : Nat → Int64) (ρ' : Rho) (c' s' : Nat), RelX W' ρ' (t + 1) → lwI (t + 1) (E26 ρ') c' s' → zz p l e lwR s m args below meth c A (cx D dA A W'.1 W'.2.1 W'.2.2 ad' ((q, .inl (dA 7, 1, .inr (.inl f'))) :: xR dA ρ' ar)) c' s' Q 2319 [(4, .int (nI (7 * t))), (3, .ref q), (2, .ref (ar 40)), (1, .ref (ad' 11 0)), (0, .ref b)] [] []) : zz p l e lwR s m args below meth c A (cx D dA A W.1 W.2.1 W.2.2 ad ((q, .inl (dA 7, 1, .inr (.inl f))) :: xR dA ρ ar)) cells slots Q 1118 [(4, .int (nI (7 * t))), (3, .ref q), (2, .ref (ar 40)), (1, .ref (ad 11 0)), (0, .ref b)] [] [] := by
  obtain ⟨hI1, hI2⟩ := hI
  have h80 := @E26_le ρ
  obtain ⟨nw, hRel⟩ := hR
  have h11 : 0 < W.2.2 11 := by rw [hRel.r3.1.1]; decide
  obtain ⟨o, ρ', a, W', f', r5, hfc, hcd, hw, hfr, h39, hans, hRX, hE⟩ := OKW.use (f := f) (f_begin hRel (by omega) (sc (7 * t + 1)) (sc (7 * t + 2)) ((if sc (7 * t + 3) = 0 then 0 else 1)))
  have h81 := @E26_le ρ'
  refine z_aload_n X dL_law_1118 rfl rfl ?_
  refine z_aload_n X dL_law_1119 rfl rfl ?_
  refine z_iload X dL_law_1120 rfl ?_
  refine z_iconst (v := nI 1) X dL_law_1122 (by decide) ?_
  refine z_iadd X dL_law_1123 ?_
  rw [(nI_arg (j := 1) hL hL2 (by decide)).1]
  refine z_sld X hX hbl hbA (nI_arg hL hL2 (by decide)).2 dL_law_1124 ?_
  rw [nI_clamp (by omega)]
  refine z_aload_n X dL_law_1125 rfl rfl ?_
  refine z_iload X dL_law_1126 rfl ?_
  refine z_iconst (v := nI 2) X dL_law_1128 (by decide) ?_
  refine z_iadd X dL_law_1129 ?_
  rw [(nI_arg (j := 2) hL hL2 (by decide)).1]
  refine z_sld X hX hbl hbA (nI_arg hL hL2 (by decide)).2 dL_law_1130 ?_
  rw [nI_clamp (by omega)]
  refine z_aload_n X dL_law_1131 rfl rfl ?_
  refine z_iload X dL_law_1132 rfl ?_
  refine z_iconst (v := nI 3) X dL_law_1134 (by decide) ?_
  refine z_iadd X dL_law_1135 ?_
  rw [(nI_arg (j := 3) hL hL2 (by decide)).1]
  refine z_sld X hX hbl hbA (nI_arg hL hL2 (by decide)).2 dL_law_1136 ?_
  rw [nI_clamp (by omega)]
  refine z_bool X dL_law_1137 dL_law_1140 dL_law_1141 dL_law_1144 (by decide) (by decide) ?_
  refine z_aload_n X dL_law_1145 rfl rfl ?_
  refine z_callWi (As := [.ref (ad 11 0), .int (sc (7 * t + 1)), .int (sc (7 * t + 2)), .int ((if sc (7 * t + 3) = 0 then 0 else 1)), .ref q]) (rest := []) (nA := 5) (mc := 27) (ms := 13082) (rm := ({ frames := 280, cells := 27, slots := 13082, locals := 2800 } : Room)) (S := CW × (Nat → Int64) × Adr) (post := fun r u => wW W.1 W.2.1 W.2.2 f cd3 o = (u.1, u.2.1, r) ∧ axt W.2.2 ad u.2.2 ∧ ∀ k, W.2.2 k ≤ u.1.2.2 k) (G1 := fun u => cx D dA A u.1.1 u.1.2.1 u.1.2.2 u.2.2 ((q, .inl (dA 7, 1, .inr (.inl u.2.1))) :: xR dA ρ ar)) X hNc (cw_begin l X.2.2.2.2.2.2.2.2 X.2.2.2.2.2.2.1 h11 hcd hfc) g_857 g_858 g_0 g_859 hd_yL_begin.2 ⟨rfl, rfl, Nat.le_of_ble_eq_true rfl, Nat.le_of_ble_eq_true rfl⟩ rfl rfl (Nat.le_of_ble_eq_true rfl) dL_law_1146 ⟨by show _ ≤ 601024; omega, by show _ ≤ 7293034; omega⟩ (fun r u hu => ?_)
  obtain ⟨W2, f2, ad'⟩ := u
  obtain ⟨hu1, hax, hN⟩ := hu
  have e1 := hw.symm.trans hu1
  simp only [Prod.mk.injEq] at e1
  obtain ⟨rfl, rfl, rfl⟩ := e1
  have ha1 : ad' 11 0 = ad 11 0 := hax 11 0 (ex_k (by decide) h11) (by decide)
  rw [← ha1]
  have h11' : 0 < W'.2.2 11 := Nat.lt_of_lt_of_le h11 (hN 11)
  refine z_istore X dL_law_1149 (by rw [hml]; decide) rfl rfl ?_
  refine z_aload_n X dL_law_1151 rfl rfl ?_
  refine z_aload_n X dL_law_1152 rfl rfl ?_
  refine z_iload X dL_law_1153 rfl ?_
  refine z_iconst (v := nI 1) X dL_law_1155 (by decide) ?_
  refine z_iadd X dL_law_1156 ?_
  rw [(nI_arg (j := 1) hL hL2 (by decide)).1]
  refine z_sld X hX hbl hbA (nI_arg hL hL2 (by decide)).2 dL_law_1157 ?_
  rw [nI_clamp (by omega)]
  refine z_aload_n X dL_law_1158 rfl rfl ?_
  refine z_iload X dL_law_1159 rfl ?_
  refine z_iconst (v := nI 2) X dL_law_1161 (by decide) ?_
  refine z_iadd X dL_law_1162 ?_
  rw [(nI_arg (j := 2) hL hL2 (by decide)).1]
  refine z_sld X hX hbl hbA (nI_arg hL hL2 (by decide)).2 dL_law_1163 ?_
  rw [nI_clamp (by omega)]
  refine z_aload_n X dL_law_1164 rfl rfl ?_
  refine z_iload X dL_law_1165 rfl ?_
  refine z_iconst (v := nI 3) X dL_law_1167 (by decide) ?_
  refine z_iadd X dL_law_1168 ?_
  rw [(nI_arg (j := 3) hL hL2 (by decide)).1]
  refine z_sld X hX hbl hbA (nI_arg hL hL2 (by decide)).2 dL_law_1169 ?_
  rw [nI_clamp (by omega)]
  refine z_bool X dL_law_1170 dL_law_1173 dL_law_1174 dL_law_1177 (by decide) (by decide) ?_
  refine z_callVi (As := [.int (sc (7 * t + 1)), .int (sc (7 * t + 2)), .int ((if sc (7 * t + 3) = 0 then 0 else 1))]) (rest := []) (nA := 3) (mc := 0) (ms := 0) (rm := ({ frames := 120, cells := 0, slots := 0, locals := 1200 } : Room)) (r0 := a) (pu := fun (_ : Unit) => True) (G1 := fun _ => cx D dA A W'.1 W'.2.1 W'.2.2 ad' ((q, .inl (dA 7, 1, .inr (.inl f'))) :: xR dA ρ' ar)) X (met_ref (xs := [(q, .inl (dA 7, 1, .inr (.inl f')))]) X.2.2.2.2.2.2.1 (fun A' n' hA' => cr_begin l X.2.2.2.2.2.2.2.2 hA' hfr)) g_1520 g_1521 g_1522 g_15 g_1523 hd_yX12_begin ⟨rfl, rfl, Nat.le_of_ble_eq_true rfl, Nat.le_of_ble_eq_true rfl⟩ rfl (fun _ hG => cx_recvX X (j := 1) (ci := 15) rfl rfl hG) rfl (Nat.le_of_ble_eq_true rfl) dL_law_1178 ⟨by show _ ≤ 601024; omega, by show _ ≤ 7293034; omega⟩ (fun _ _ => ?_)
  refine z_istore X dL_law_1181 (by rw [hml]; decide) rfl rfl ?_
  refine z_aload_n X dL_law_1183 rfl rfl ?_
  refine z_callVi (As := []) (rest := []) (nA := 0) (mc := 0) (ms := 0) (rm := ({ frames := 20, cells := 0, slots := 0, locals := 200 } : Room)) (r0 := ρ' 39 0) (pu := fun (_ : Unit) => True) (G1 := fun _ => cx D dA A W'.1 W'.2.1 W'.2.2 ad' ((q, .inl (dA 7, 1, .inr (.inl f'))) :: xR dA ρ' ar)) X (met_ref (xs := [(q, .inl (dA 7, 1, .inr (.inl f')))]) X.2.2.2.2.2.2.1 (fun A' n' hA' => cr_thrown l X.2.2.2.2.2.2.2.2 hA' (show fr_thrown ρ' = some (ρ' 39 0) from rfl))) g_1428 g_1429 g_1430 g_15 g_1431 hd_yX12_thrown ⟨rfl, rfl, Nat.le_of_ble_eq_true rfl, Nat.le_of_ble_eq_true rfl⟩ rfl (fun _ hG => cx_recvX X (j := 1) (ci := 15) rfl rfl hG) rfl (Nat.le_of_ble_eq_true rfl) dL_law_1184 ⟨by show _ ≤ 601024; omega, by show _ ≤ 7293034; omega⟩ (fun _ _ => ?_)
  refine z_iload X dL_law_1187 rfl ?_
  refine z_icmp_eq (tgt := 1194) X dL_law_1189 (by decide) (fun _ => ?_) (fun z => absurd h39 z)
  refine z_iload X dL_law_1194 rfl ?_
  have fin : zz p l e lwR s m args below meth c A (cx D dA A W'.1 W'.2.1 W'.2.2 ad' ((q, .inl (dA 7, 1, .inr (.inl f'))) :: xR dA ρ' ar)) (cells + 27 + 0 + 0) (slots + 13082 + 0 + 0) Q 1211 [(6, .int a), (5, .int r5), (4, .int (nI (7 * t))), (3, .ref q), (2, .ref (ar 40)), (1, .ref (ad' 11 0)), (0, .ref b)] [] [] := by
    refine z_goto (tgt := 2319) X dL_law_1211 (by decide) ?_
    exact zz.forget (fun x hx => List.mem_cons_of_mem _ (List.mem_cons_of_mem _ hx)) (k W' ad' f' ρ' _ _ hRX.later ⟨by omega, by omega⟩)
  refine z_if_ne (tgt := 1211) X dL_law_1196 (by decide) (fun z => ?_) (fun _ => fin)
  refine z_aload_n X dL_law_1199 rfl rfl ?_
  refine z_iconst (v := 0) X dL_law_1200 (by decide) ?_
  refine c_laldX X 0 (o := a.toInt64) rfl (fun y => y.elim (fun y => absurd y (by decide)) (fun y => absurd y (by decide))) (hans z) dL_law_1201 ?_
  refine z_iload X dL_law_1202 rfl ?_
  refine z_i2l X dL_law_1204 ?_
  refine z_lcmp X dL_law_1205 ?_
  refine z_if_eq (tgt := 1211) X dL_law_1206 (by decide) (fun _ => fin) (fun y => absurd (lg_cmp_self _) y)
-- join
set_option maxRecDepth 100000 in
set_option maxHeartbeats 8000000 in
theorem lw_join {p : Program} {l : Launch} {e : Env} {s : State} {m : MethodId} {args : Array Value} {below : List Frame} {meth : Method} {c : Code} {A : Nat → Prop} {Q : State → Prop} {D : va_G} {dA : Nat → ClassId} (X : zc p l s m args meth c cL_law RL D dA A) (hNc : zNc s) (hml : c.maxLocals = 7) {b Ls : Nat} {sc : Nat → Int32} (hX : va_X b Ls sc s s.heap) (hbl : b < s.heap.size) (hbA : ¬ A b) {q : Nat} {W : CW} {ad : Adr} {f : Nat → Int64} {ρ : Rho} {ar : Nat → Nat} {t cells slots : Nat} (hR : RelX W ρ t) (hL : 7 * t + 7 ≤ Ls) (hL2 : Ls ≤ 3584) (hI : lwI t (E26 ρ) cells slots)
    (k : ∀ (W' : CW) (ad' : Adr) (f' : Nat → Int64) (ρ' : Rho) (c' s' : Nat), RelX W' ρ' (t + 1) → lwI (t + 1) (E26 ρ') c' s' → zz p l e lwR s m args below meth c A (cx D dA A W'.1 W'.2.1 W'.2.2 ad' ((q, .inl (dA 7, 1, .inr (.inl f'))) :: xR dA ρ' ar)) c' s' Q 2319 [(4, .int (nI (7 * t))), (3, .ref q), (2, .ref (ar 40)), (1, .ref (ad' 11 0)), (0, .ref b)] [] []) : zz p l e lwR s m args below meth c A (cx D dA A W.1 W.2.1 W.2.2 ad ((q, .inl (dA 7, 1, .inr (.inl f))) :: xR dA ρ ar)) cells slots Q 1214 [(4, .int (nI (7 * t))), (3, .ref q), (2, .ref (ar 40)), (1, .ref (ad 11 0)), (0, .ref b)] [] [] := by
  obtain ⟨hI1, hI2⟩ := hI
  have h80 := @E26_le ρ
  obtain ⟨nw, hRel⟩ := hR
  have h11 : 0 < W.2.2 11 := by rw [hRel.r3.1.1]; decide
  obtain ⟨o, ρ', a, W', f', r5, hfc, hcd, hw, hfr, h39, hans, hRX, hE⟩ := OKW.use (f := f) (f_join hRel (by omega) (sc (7 * t + 1)) (sc (7 * t + 2)) ((if sc (7 * t + 3) = 0 then 0 else 1)))
  have h81 := @E26_le ρ'
  refine z_aload_n X dL_law_1214 rfl rfl ?_
  refine z_aload_n X dL_law_1215 rfl rfl ?_
  refine z_iload X dL_law_1216 rfl ?_
  refine z_iconst (v := nI 1) X dL_law_1218 (by decide) ?_
  refine z_iadd X dL_law_1219 ?_
  rw [(nI_arg (j := 1) hL hL2 (by decide)).1]
  refine z_sld X hX hbl hbA (nI_arg hL hL2 (by decide)).2 dL_law_1220 ?_
  rw [nI_clamp (by omega)]
  refine z_aload_n X dL_law_1221 rfl rfl ?_
  refine z_iload X dL_law_1222 rfl ?_
  refine z_iconst (v := nI 2) X dL_law_1224 (by decide) ?_
  refine z_iadd X dL_law_1225 ?_
  rw [(nI_arg (j := 2) hL hL2 (by decide)).1]
  refine z_sld X hX hbl hbA (nI_arg hL hL2 (by decide)).2 dL_law_1226 ?_
  rw [nI_clamp (by omega)]
  refine z_aload_n X dL_law_1227 rfl rfl ?_
  refine z_iload X dL_law_1228 rfl ?_
  refine z_iconst (v := nI 3) X dL_law_1230 (by decide) ?_
  refine z_iadd X dL_law_1231 ?_
  rw [(nI_arg (j := 3) hL hL2 (by decide)).1]
  refine z_sld X hX hbl hbA (nI_arg hL hL2 (by decide)).2 dL_law_1232 ?_
  rw [nI_clamp (by omega)]
  refine z_bool X dL_law_1233 dL_law_1236 dL_law_1237 dL_law_1240 (by decide) (by decide) ?_
  refine z_aload_n X dL_law_1241 rfl rfl ?_
  refine z_callWi (As := [.ref (ad 11 0), .int (sc (7 * t + 1)), .int (sc (7 * t + 2)), .int ((if sc (7 * t + 3) = 0 then 0 else 1)), .ref q]) (rest := []) (nA := 5) (mc := 13) (ms := 5789) (rm := ({ frames := 280, cells := 13, slots := 5789, locals := 2800 } : Room)) (S := CW × (Nat → Int64) × Adr) (post := fun r u => wW W.1 W.2.1 W.2.2 f cd13 o = (u.1, u.2.1, r) ∧ axt W.2.2 ad u.2.2 ∧ ∀ k, W.2.2 k ≤ u.1.2.2 k) (G1 := fun u => cx D dA A u.1.1 u.1.2.1 u.1.2.2 u.2.2 ((q, .inl (dA 7, 1, .inr (.inl u.2.1))) :: xR dA ρ ar)) X hNc (cw_join l X.2.2.2.2.2.2.2.2 X.2.2.2.2.2.2.1 h11 hcd hfc) g_1072 g_1073 g_0 g_1074 hd_yL_join.2 ⟨rfl, rfl, Nat.le_of_ble_eq_true rfl, Nat.le_of_ble_eq_true rfl⟩ rfl rfl (Nat.le_of_ble_eq_true rfl) dL_law_1242 ⟨by show _ ≤ 601024; omega, by show _ ≤ 7293034; omega⟩ (fun r u hu => ?_)
  obtain ⟨W2, f2, ad'⟩ := u
  obtain ⟨hu1, hax, hN⟩ := hu
  have e1 := hw.symm.trans hu1
  simp only [Prod.mk.injEq] at e1
  obtain ⟨rfl, rfl, rfl⟩ := e1
  have ha1 : ad' 11 0 = ad 11 0 := hax 11 0 (ex_k (by decide) h11) (by decide)
  rw [← ha1]
  have h11' : 0 < W'.2.2 11 := Nat.lt_of_lt_of_le h11 (hN 11)
  refine z_istore X dL_law_1245 (by rw [hml]; decide) rfl rfl ?_
  refine z_aload_n X dL_law_1247 rfl rfl ?_
  refine z_aload_n X dL_law_1248 rfl rfl ?_
  refine z_iload X dL_law_1249 rfl ?_
  refine z_iconst (v := nI 1) X dL_law_1251 (by decide) ?_
  refine z_iadd X dL_law_1252 ?_
  rw [(nI_arg (j := 1) hL hL2 (by decide)).1]
  refine z_sld X hX hbl hbA (nI_arg hL hL2 (by decide)).2 dL_law_1253 ?_
  rw [nI_clamp (by omega)]
  refine z_aload_n X dL_law_1254 rfl rfl ?_
  refine z_iload X dL_law_1255 rfl ?_
  refine z_iconst (v := nI 2) X dL_law_1257 (by decide) ?_
  refine z_iadd X dL_law_1258 ?_
  rw [(nI_arg (j := 2) hL hL2 (by decide)).1]
  refine z_sld X hX hbl hbA (nI_arg hL hL2 (by decide)).2 dL_law_1259 ?_
  rw [nI_clamp (by omega)]
  refine z_aload_n X dL_law_1260 rfl rfl ?_
  refine z_iload X dL_law_1261 rfl ?_
  refine z_iconst (v := nI 3) X dL_law_1263 (by decide) ?_
  refine z_iadd X dL_law_1264 ?_
  rw [(nI_arg (j := 3) hL hL2 (by decide)).1]
  refine z_sld X hX hbl hbA (nI_arg hL hL2 (by decide)).2 dL_law_1265 ?_
  rw [nI_clamp (by omega)]
  refine z_bool X dL_law_1266 dL_law_1269 dL_law_1270 dL_law_1273 (by decide) (by decide) ?_
  refine z_callVi (As := [.int (sc (7 * t + 1)), .int (sc (7 * t + 2)), .int ((if sc (7 * t + 3) = 0 then 0 else 1))]) (rest := []) (nA := 3) (mc := 0) (ms := 0) (rm := ({ frames := 120, cells := 0, slots := 0, locals := 1200 } : Room)) (r0 := a) (pu := fun (_ : Unit) => True) (G1 := fun _ => cx D dA A W'.1 W'.2.1 W'.2.2 ad' ((q, .inl (dA 7, 1, .inr (.inl f'))) :: xR dA ρ' ar)) X (met_ref (xs := [(q, .inl (dA 7, 1, .inr (.inl f')))]) X.2.2.2.2.2.2.1 (fun A' n' hA' => cr_join l X.2.2.2.2.2.2.2.2 hA' hfr)) g_1591 g_1592 g_1593 g_15 g_1594 hd_yX12_join ⟨rfl, rfl, Nat.le_of_ble_eq_true rfl, Nat.le_of_ble_eq_true rfl⟩ rfl (fun _ hG => cx_recvX X (j := 1) (ci := 15) rfl rfl hG) rfl (Nat.le_of_ble_eq_true rfl) dL_law_1274 ⟨by show _ ≤ 601024; omega, by show _ ≤ 7293034; omega⟩ (fun _ _ => ?_)
  refine z_istore X dL_law_1277 (by rw [hml]; decide) rfl rfl ?_
  refine z_aload_n X dL_law_1279 rfl rfl ?_
  refine z_callVi (As := []) (rest := []) (nA := 0) (mc := 0) (ms := 0) (rm := ({ frames := 20, cells := 0, slots := 0, locals := 200 } : Room)) (r0 := ρ' 39 0) (pu := fun (_ : Unit) => True) (G1 := fun _ => cx D dA A W'.1 W'.2.1 W'.2.2 ad' ((q, .inl (dA 7, 1, .inr (.inl f'))) :: xR dA ρ' ar)) X (met_ref (xs := [(q, .inl (dA 7, 1, .inr (.inl f')))]) X.2.2.2.2.2.2.1 (fun A' n' hA' => cr_thrown l X.2.2.2.2.2.2.2.2 hA' (show fr_thrown ρ' = some (ρ' 39 0) from rfl))) g_1428 g_1429 g_1430 g_15 g_1431 hd_yX12_thrown ⟨rfl, rfl, Nat.le_of_ble_eq_true rfl, Nat.le_of_ble_eq_true rfl⟩ rfl (fun _ hG => cx_recvX X (j := 1) (ci := 15) rfl rfl hG) rfl (Nat.le_of_ble_eq_true rfl) dL_law_1280 ⟨by show _ ≤ 601024; omega, by show _ ≤ 7293034; omega⟩ (fun _ _ => ?_)
  refine z_iload X dL_law_1283 rfl ?_
  refine z_icmp_eq (tgt := 1290) X dL_law_1285 (by decide) (fun _ => ?_) (fun z => absurd h39 z)
  refine z_iload X dL_law_1290 rfl ?_
  have fin : zz p l e lwR s m args below meth c A (cx D dA A W'.1 W'.2.1 W'.2.2 ad' ((q, .inl (dA 7, 1, .inr (.inl f'))) :: xR dA ρ' ar)) (cells + 13 + 0 + 0) (slots + 5789 + 0 + 0) Q 1307 [(6, .int a), (5, .int r5), (4, .int (nI (7 * t))), (3, .ref q), (2, .ref (ar 40)), (1, .ref (ad' 11 0)), (0, .ref b)] [] [] := by
    refine z_goto (tgt := 2319) X dL_law_1307 (by decide) ?_
    exact zz.forget (fun x hx => List.mem_cons_of_mem _ (List.mem_cons_of_mem _ hx)) (k W' ad' f' ρ' _ _ hRX.later ⟨by omega, by omega⟩)
  refine z_if_ne (tgt := 1307) X dL_law_1292 (by decide) (fun z => ?_) (fun _ => fin)
  refine z_aload_n X dL_law_1295 rfl rfl ?_
  refine z_iconst (v := 0) X dL_law_1296 (by decide) ?_
  refine c_laldX X 0 (o := a.toInt64) rfl (fun y => y.elim (fun y => absurd y (by decide)) (fun y => absurd y (by decide))) (hans z) dL_law_1297 ?_
  refine z_iload X dL_law_1298 rfl ?_
  refine z_i2l X dL_law_1300 ?_
  refine z_lcmp X dL_law_1301 ?_
  refine z_if_eq (tgt := 1307) X dL_law_1302 (by decide) (fun _ => fin) (fun y => absurd (lg_cmp_self _) y)
-- leave
set_option maxRecDepth 100000 in
set_option maxHeartbeats 8000000 in
theorem lw_leave {p : Program} {l : Launch} {e : Env} {s : State} {m : MethodId} {args : Array Value} {below : List Frame} {meth : Method} {c : Code} {A : Nat → Prop} {Q : State → Prop} {D : va_G} {dA : Nat → ClassId} (X : zc p l s m args meth c cL_law RL D dA A) (hNc : zNc s) (hml : c.maxLocals = 7) {b Ls : Nat} {sc : Nat → Int32} (hX : va_X b Ls sc s s.heap) (hbl : b < s.heap.size) (hbA : ¬ A b) {q : Nat} {W : CW} {ad : Adr} {f : Nat → Int64} {ρ : Rho} {ar : Nat → Nat} {t cells slots : Nat} (hR : RelX W ρ t) (hL : 7 * t + 7 ≤ Ls) (hL2 : Ls ≤ 3584) (hI : lwI t (E26 ρ) cells slots)
    (k : ∀ (W' : CW) (ad' : Adr) (f' : Nat → Int64) (ρ' : Rho) (c' s' : Nat), RelX W' ρ' (t + 1) → lwI (t + 1) (E26 ρ') c' s' → zz p l e lwR s m args below meth c A (cx D dA A W'.1 W'.2.1 W'.2.2 ad' ((q, .inl (dA 7, 1, .inr (.inl f'))) :: xR dA ρ' ar)) c' s' Q 2319 [(4, .int (nI (7 * t))), (3, .ref q), (2, .ref (ar 40)), (1, .ref (ad' 11 0)), (0, .ref b)] [] []) : zz p l e lwR s m args below meth c A (cx D dA A W.1 W.2.1 W.2.2 ad ((q, .inl (dA 7, 1, .inr (.inl f))) :: xR dA ρ ar)) cells slots Q 1310 [(4, .int (nI (7 * t))), (3, .ref q), (2, .ref (ar 40)), (1, .ref (ad 11 0)), (0, .ref b)] [] [] := by
  obtain ⟨hI1, hI2⟩ := hI
  have h80 := @E26_le ρ
  obtain ⟨nw, hRel⟩ := hR
  have h11 : 0 < W.2.2 11 := by rw [hRel.r3.1.1]; decide
  obtain ⟨o, ρ', a, W', f', r5, hfc, hcd, hw, hfr, h39, hans, hRX, hE⟩ := OKW.use (f := f) (f_leave hRel (by omega) (sc (7 * t + 1)))
  have h81 := @E26_le ρ'
  refine z_aload_n X dL_law_1310 rfl rfl ?_
  refine z_aload_n X dL_law_1311 rfl rfl ?_
  refine z_iload X dL_law_1312 rfl ?_
  refine z_iconst (v := nI 1) X dL_law_1314 (by decide) ?_
  refine z_iadd X dL_law_1315 ?_
  rw [(nI_arg (j := 1) hL hL2 (by decide)).1]
  refine z_sld X hX hbl hbA (nI_arg hL hL2 (by decide)).2 dL_law_1316 ?_
  rw [nI_clamp (by omega)]
  refine z_aload_n X dL_law_1317 rfl rfl ?_
  refine z_callWi (As := [.ref (ad 11 0), .int (sc (7 * t + 1)), .ref q]) (rest := []) (nA := 3) (mc := 5) (ms := 1832) (rm := ({ frames := 260, cells := 5, slots := 1832, locals := 2600 } : Room)) (S := CW × (Nat → Int64) × Adr) (post := fun r u => wW W.1 W.2.1 W.2.2 f cd13 o = (u.1, u.2.1, r) ∧ axt W.2.2 ad u.2.2 ∧ ∀ k, W.2.2 k ≤ u.1.2.2 k) (G1 := fun u => cx D dA A u.1.1 u.1.2.1 u.1.2.2 u.2.2 ((q, .inl (dA 7, 1, .inr (.inl u.2.1))) :: xR dA ρ ar)) X hNc (cw_leave l X.2.2.2.2.2.2.2.2 X.2.2.2.2.2.2.1 h11 hcd hfc) g_1090 g_1091 g_0 g_1092 hd_yL_leave.2 ⟨rfl, rfl, Nat.le_of_ble_eq_true rfl, Nat.le_of_ble_eq_true rfl⟩ rfl rfl (Nat.le_of_ble_eq_true rfl) dL_law_1318 ⟨by show _ ≤ 601024; omega, by show _ ≤ 7293034; omega⟩ (fun r u hu => ?_)
  obtain ⟨W2, f2, ad'⟩ := u
  obtain ⟨hu1, hax, hN⟩ := hu
  have e1 := hw.symm.trans hu1
  simp only [Prod.mk.injEq] at e1
  obtain ⟨rfl, rfl, rfl⟩ := e1
  have ha1 : ad' 11 0 = ad 11 0 := hax 11 0 (ex_k (by decide) h11) (by decide)
  rw [← ha1]
  have h11' : 0 < W'.2.2 11 := Nat.lt_of_lt_of_le h11 (hN 11)
  refine z_istore X dL_law_1321 (by rw [hml]; decide) rfl rfl ?_
  refine z_aload_n X dL_law_1323 rfl rfl ?_
  refine z_aload_n X dL_law_1324 rfl rfl ?_
  refine z_iload X dL_law_1325 rfl ?_
  refine z_iconst (v := nI 1) X dL_law_1327 (by decide) ?_
  refine z_iadd X dL_law_1328 ?_
  rw [(nI_arg (j := 1) hL hL2 (by decide)).1]
  refine z_sld X hX hbl hbA (nI_arg hL hL2 (by decide)).2 dL_law_1329 ?_
  rw [nI_clamp (by omega)]
  refine z_callVi (As := [.int (sc (7 * t + 1))]) (rest := []) (nA := 1) (mc := 0) (ms := 0) (rm := ({ frames := 100, cells := 0, slots := 0, locals := 1000 } : Room)) (r0 := a) (pu := fun (_ : Unit) => True) (G1 := fun _ => cx D dA A W'.1 W'.2.1 W'.2.2 ad' ((q, .inl (dA 7, 1, .inr (.inl f'))) :: xR dA ρ' ar)) X (met_ref (xs := [(q, .inl (dA 7, 1, .inr (.inl f')))]) X.2.2.2.2.2.2.1 (fun A' n' hA' => cr_leave l X.2.2.2.2.2.2.2.2 hA' hfr)) g_1599 g_1600 g_1601 g_15 g_1602 hd_yX12_leave ⟨rfl, rfl, Nat.le_of_ble_eq_true rfl, Nat.le_of_ble_eq_true rfl⟩ rfl (fun _ hG => cx_recvX X (j := 1) (ci := 15) rfl rfl hG) rfl (Nat.le_of_ble_eq_true rfl) dL_law_1330 ⟨by show _ ≤ 601024; omega, by show _ ≤ 7293034; omega⟩ (fun _ _ => ?_)
  refine z_istore X dL_law_1333 (by rw [hml]; decide) rfl rfl ?_
  refine z_aload_n X dL_law_1335 rfl rfl ?_
  refine z_callVi (As := []) (rest := []) (nA := 0) (mc := 0) (ms := 0) (rm := ({ frames := 20, cells := 0, slots := 0, locals := 200 } : Room)) (r0 := ρ' 39 0) (pu := fun (_ : Unit) => True) (G1 := fun _ => cx D dA A W'.1 W'.2.1 W'.2.2 ad' ((q, .inl (dA 7, 1, .inr (.inl f'))) :: xR dA ρ' ar)) X (met_ref (xs := [(q, .inl (dA 7, 1, .inr (.inl f')))]) X.2.2.2.2.2.2.1 (fun A' n' hA' => cr_thrown l X.2.2.2.2.2.2.2.2 hA' (show fr_thrown ρ' = some (ρ' 39 0) from rfl))) g_1428 g_1429 g_1430 g_15 g_1431 hd_yX12_thrown ⟨rfl, rfl, Nat.le_of_ble_eq_true rfl, Nat.le_of_ble_eq_true rfl⟩ rfl (fun _ hG => cx_recvX X (j := 1) (ci := 15) rfl rfl hG) rfl (Nat.le_of_ble_eq_true rfl) dL_law_1336 ⟨by show _ ≤ 601024; omega, by show _ ≤ 7293034; omega⟩ (fun _ _ => ?_)
  refine z_iload X dL_law_1339 rfl ?_
  refine z_icmp_eq (tgt := 1346) X dL_law_1341 (by decide) (fun _ => ?_) (fun z => absurd h39 z)
  refine z_iload X dL_law_1346 rfl ?_
  have fin : zz p l e lwR s m args below meth c A (cx D dA A W'.1 W'.2.1 W'.2.2 ad' ((q, .inl (dA 7, 1, .inr (.inl f'))) :: xR dA ρ' ar)) (cells + 5 + 0 + 0) (slots + 1832 + 0 + 0) Q 1363 [(6, .int a), (5, .int r5), (4, .int (nI (7 * t))), (3, .ref q), (2, .ref (ar 40)), (1, .ref (ad' 11 0)), (0, .ref b)] [] [] := by
    refine z_goto (tgt := 2319) X dL_law_1363 (by decide) ?_
    exact zz.forget (fun x hx => List.mem_cons_of_mem _ (List.mem_cons_of_mem _ hx)) (k W' ad' f' ρ' _ _ hRX.later ⟨by omega, by omega⟩)
  refine z_if_ne (tgt := 1363) X dL_law_1348 (by decide) (fun z => ?_) (fun _ => fin)
  refine z_aload_n X dL_law_1351 rfl rfl ?_
  refine z_iconst (v := 0) X dL_law_1352 (by decide) ?_
  refine c_laldX X 0 (o := a.toInt64) rfl (fun y => y.elim (fun y => absurd y (by decide)) (fun y => absurd y (by decide))) (hans z) dL_law_1353 ?_
  refine z_iload X dL_law_1354 rfl ?_
  refine z_i2l X dL_law_1356 ?_
  refine z_lcmp X dL_law_1357 ?_
  refine z_if_eq (tgt := 1363) X dL_law_1358 (by decide) (fun _ => fin) (fun y => absurd (lg_cmp_self _) y)
-- pass
set_option maxRecDepth 100000 in
set_option maxHeartbeats 8000000 in
theorem lw_pass {p : Program} {l : Launch} {e : Env} {s : State} {m : MethodId} {args : Array Value} {below : List Frame} {meth : Method} {c : Code} {A : Nat → Prop} {Q : State → Prop} {D : va_G} {dA : Nat → ClassId} (X : zc p l s m args meth c cL_law RL D dA A) (hNc : zNc s) (hml : c.maxLocals = 7) {b Ls : Nat} {sc : Nat → Int32} (hX : va_X b Ls sc s s.heap) (hbl : b < s.heap.size) (hbA : ¬ A b) {q : Nat} {W : CW} {ad : Adr} {f : Nat → Int64} {ρ : Rho} {ar : Nat → Nat} {t cells slots : Nat} (hR : RelX W ρ t) (hL : 7 * t + 7 ≤ Ls) (hL2 : Ls ≤ 3584) (hI : lwI t (E26 ρ) cells slots)
    (k : ∀ (W' : CW) (ad' : Adr) (f' : Nat → Int64) (ρ' : Rho) (c' s' : Nat), RelX W' ρ' (t + 1) → lwI (t + 1) (E26 ρ') c' s' → zz p l e lwR s m args below meth c A (cx D dA A W'.1 W'.2.1 W'.2.2 ad' ((q, .inl (dA 7, 1, .inr (.inl f'))) :: xR dA ρ' ar)) c' s' Q 2319 [(4, .int (nI (7 * t))), (3, .ref q), (2, .ref (ar 40)), (1, .ref (ad' 11 0)), (0, .ref b)] [] []) : zz p l e lwR s m args below meth c A (cx D dA A W.1 W.2.1 W.2.2 ad ((q, .inl (dA 7, 1, .inr (.inl f))) :: xR dA ρ ar)) cells slots Q 1441 [(4, .int (nI (7 * t))), (3, .ref q), (2, .ref (ar 40)), (1, .ref (ad 11 0)), (0, .ref b)] [] [] := by
  obtain ⟨hI1, hI2⟩ := hI
  have h80 := @E26_le ρ
  obtain ⟨nw, hRel⟩ := hR
  have h11 : 0 < W.2.2 11 := by rw [hRel.r3.1.1]; decide
  have hu : ∃ o ρ' a W' f' r5 d, fc_pass W.1 W.2.1 W.2.2 (sc (7 * t + 1)) = some o ∧ (∀ e, o = .inr e → ¬ cd23 e = 0) ∧ wW W.1 W.2.1 W.2.2 f cd23 o = (W', f', r5) ∧ fr_pass ρ (sc (7 * t + 1)) = some (ρ', a) ∧ ρ' 39 0 = r5 ∧ (r5 = 0 → f' 0 = a.toInt64) ∧ RelX W' ρ' t ∧ E26 ρ + d ≤ E26 ρ' ∧ ∀ u, o = .inl u → u.2 = nI d := by
    rcases f_pass hRel (by omega) (sc (7 * t + 1)) with ⟨e, ρ', a, h1, h2, h3, h4, h5, h6⟩ | ⟨W', d, ρ', h1, h2, h3, h5, h6⟩
    · exact ⟨_, ρ', a, W, f, cd23 e, 0, h1, fun e' he => (by cases he; exact h4), rfl, h2, h3, fun z => absurd z h4, h5, h6, fun u hu => (by cases hu)⟩
    · exact ⟨_, ρ', nI d, W', vp_updL f 0 (nI d).toInt64, 0, d, h1, fun e' he => (by cases he), rfl, h2, h3, fun _ => upd0, h5, h6, fun u hu => (by cases hu; rfl)⟩
  obtain ⟨o, ρ', a, W', f', r5, d, hfc, hcd, hw, hfr, h39, hans, hRX, hE, hd⟩ := hu
  have h81 := @E26_le ρ'
  refine z_aload_n X dL_law_1441 rfl rfl ?_
  refine z_aload_n X dL_law_1442 rfl rfl ?_
  refine z_iload X dL_law_1443 rfl ?_
  refine z_iconst (v := nI 1) X dL_law_1445 (by decide) ?_
  refine z_iadd X dL_law_1446 ?_
  rw [(nI_arg (j := 1) hL hL2 (by decide)).1]
  refine z_sld X hX hbl hbA (nI_arg hL hL2 (by decide)).2 dL_law_1447 ?_
  rw [nI_clamp (by omega)]
  refine z_aload_n X dL_law_1448 rfl rfl ?_
  refine z_callWi (As := [.ref (ad 11 0), .int (sc (7 * t + 1)), .ref q]) (rest := []) (nA := 3) (mc := 4 * d + 1) (ms := 1826 * d + 6) (rm := ({ frames := 300, cells := 4 * d + 1, slots := 1826 * d + 6, locals := 3000 } : Room)) (S := CW × (Nat → Int64) × Adr) (post := fun r u => wW W.1 W.2.1 W.2.2 f cd23 o = (u.1, u.2.1, r) ∧ axt W.2.2 ad u.2.2 ∧ ∀ k, W.2.2 k ≤ u.1.2.2 k) (G1 := fun u => cx D dA A u.1.1 u.1.2.1 u.1.2.2 u.2.2 ((q, .inl (dA 7, 1, .inr (.inl u.2.1))) :: xR dA ρ ar)) X hNc (cw_pass l X.2.2.2.2.2.2.2.2 X.2.2.2.2.2.2.1 h11 hd (by omega) hcd hfc) g_1112 g_1113 g_0 g_1114 hd_yL_pass.2 ⟨rfl, rfl, Nat.le_of_ble_eq_true rfl, Nat.le_of_ble_eq_true rfl⟩ rfl rfl (Nat.le_of_ble_eq_true rfl) dL_law_1449 ⟨by show _ ≤ 601024; omega, by show _ ≤ 7293034; omega⟩ (fun r u hu => ?_)
  obtain ⟨W2, f2, ad'⟩ := u
  obtain ⟨hu1, hax, hN⟩ := hu
  have e1 := hw.symm.trans hu1
  simp only [Prod.mk.injEq] at e1
  obtain ⟨rfl, rfl, rfl⟩ := e1
  have ha1 : ad' 11 0 = ad 11 0 := hax 11 0 (ex_k (by decide) h11) (by decide)
  rw [← ha1]
  have h11' : 0 < W'.2.2 11 := Nat.lt_of_lt_of_le h11 (hN 11)
  refine z_istore X dL_law_1452 (by rw [hml]; decide) rfl rfl ?_
  refine z_aload_n X dL_law_1454 rfl rfl ?_
  refine z_aload_n X dL_law_1455 rfl rfl ?_
  refine z_iload X dL_law_1456 rfl ?_
  refine z_iconst (v := nI 1) X dL_law_1458 (by decide) ?_
  refine z_iadd X dL_law_1459 ?_
  rw [(nI_arg (j := 1) hL hL2 (by decide)).1]
  refine z_sld X hX hbl hbA (nI_arg hL hL2 (by decide)).2 dL_law_1460 ?_
  rw [nI_clamp (by omega)]
  refine z_callVi (As := [.int (sc (7 * t + 1))]) (rest := []) (nA := 1) (mc := 0) (ms := 0) (rm := ({ frames := 140, cells := 0, slots := 0, locals := 1400 } : Room)) (r0 := a) (pu := fun (_ : Unit) => True) (G1 := fun _ => cx D dA A W'.1 W'.2.1 W'.2.2 ad' ((q, .inl (dA 7, 1, .inr (.inl f'))) :: xR dA ρ' ar)) X (met_ref (xs := [(q, .inl (dA 7, 1, .inr (.inl f')))]) X.2.2.2.2.2.2.1 (fun A' n' hA' => cr_pass l X.2.2.2.2.2.2.2.2 hA' hfr)) g_1610 g_1611 g_1612 g_15 g_1613 hd_yX12_pass ⟨rfl, rfl, Nat.le_of_ble_eq_true rfl, Nat.le_of_ble_eq_true rfl⟩ rfl (fun _ hG => cx_recvX X (j := 1) (ci := 15) rfl rfl hG) rfl (Nat.le_of_ble_eq_true rfl) dL_law_1461 ⟨by show _ ≤ 601024; omega, by show _ ≤ 7293034; omega⟩ (fun _ _ => ?_)
  refine z_istore X dL_law_1464 (by rw [hml]; decide) rfl rfl ?_
  refine z_aload_n X dL_law_1466 rfl rfl ?_
  refine z_callVi (As := []) (rest := []) (nA := 0) (mc := 0) (ms := 0) (rm := ({ frames := 20, cells := 0, slots := 0, locals := 200 } : Room)) (r0 := ρ' 39 0) (pu := fun (_ : Unit) => True) (G1 := fun _ => cx D dA A W'.1 W'.2.1 W'.2.2 ad' ((q, .inl (dA 7, 1, .inr (.inl f'))) :: xR dA ρ' ar)) X (met_ref (xs := [(q, .inl (dA 7, 1, .inr (.inl f')))]) X.2.2.2.2.2.2.1 (fun A' n' hA' => cr_thrown l X.2.2.2.2.2.2.2.2 hA' (show fr_thrown ρ' = some (ρ' 39 0) from rfl))) g_1428 g_1429 g_1430 g_15 g_1431 hd_yX12_thrown ⟨rfl, rfl, Nat.le_of_ble_eq_true rfl, Nat.le_of_ble_eq_true rfl⟩ rfl (fun _ hG => cx_recvX X (j := 1) (ci := 15) rfl rfl hG) rfl (Nat.le_of_ble_eq_true rfl) dL_law_1467 ⟨by show _ ≤ 601024; omega, by show _ ≤ 7293034; omega⟩ (fun _ _ => ?_)
  refine z_iload X dL_law_1470 rfl ?_
  refine z_icmp_eq (tgt := 1477) X dL_law_1472 (by decide) (fun _ => ?_) (fun z => absurd h39 z)
  refine z_iload X dL_law_1477 rfl ?_
  have fin : zz p l e lwR s m args below meth c A (cx D dA A W'.1 W'.2.1 W'.2.2 ad' ((q, .inl (dA 7, 1, .inr (.inl f'))) :: xR dA ρ' ar)) (cells + 4 * d + 1 + 0 + 0) (slots + 1826 * d + 6 + 0 + 0) Q 1494 [(6, .int a), (5, .int r5), (4, .int (nI (7 * t))), (3, .ref q), (2, .ref (ar 40)), (1, .ref (ad' 11 0)), (0, .ref b)] [] [] := by
    refine z_goto (tgt := 2319) X dL_law_1494 (by decide) ?_
    exact zz.forget (fun x hx => List.mem_cons_of_mem _ (List.mem_cons_of_mem _ hx)) (k W' ad' f' ρ' _ _ hRX.later ⟨by omega, by omega⟩)
  refine z_if_ne (tgt := 1494) X dL_law_1479 (by decide) (fun z => ?_) (fun _ => fin)
  refine z_aload_n X dL_law_1482 rfl rfl ?_
  refine z_iconst (v := 0) X dL_law_1483 (by decide) ?_
  refine c_laldX X 0 (o := a.toInt64) rfl (fun y => y.elim (fun y => absurd y (by decide)) (fun y => absurd y (by decide))) (hans z) dL_law_1484 ?_
  refine z_iload X dL_law_1485 rfl ?_
  refine z_i2l X dL_law_1487 ?_
  refine z_lcmp X dL_law_1488 ?_
  refine z_if_eq (tgt := 1494) X dL_law_1489 (by decide) (fun _ => fin) (fun y => absurd (lg_cmp_self _) y)
-- cellOf
set_option maxRecDepth 100000 in
set_option maxHeartbeats 8000000 in
theorem lw_cellOf {p : Program} {l : Launch} {e : Env} {s : State} {m : MethodId} {args : Array Value} {below : List Frame} {meth : Method} {c : Code} {A : Nat → Prop} {Q : State → Prop} {D : va_G} {dA : Nat → ClassId} (X : zc p l s m args meth c cL_law RL D dA A) (hNc : zNc s) (hml : c.maxLocals = 7) {b Ls : Nat} {sc : Nat → Int32} (hX : va_X b Ls sc s s.heap) (hbl : b < s.heap.size) (hbA : ¬ A b) {q : Nat} {W : CW} {ad : Adr} {f : Nat → Int64} {ρ : Rho} {ar : Nat → Nat} {t cells slots : Nat} (hR : RelX W ρ t) (hL : 7 * t + 7 ≤ Ls) (hL2 : Ls ≤ 3584) (hI : lwI t (E26 ρ) cells slots)
    (k : ∀ (W' : CW) (ad' : Adr) (f' : Nat → Int64) (ρ' : Rho) (c' s' : Nat), RelX W' ρ' (t + 1) → lwI (t + 1) (E26 ρ') c' s' → zz p l e lwR s m args below meth c A (cx D dA A W'.1 W'.2.1 W'.2.2 ad' ((q, .inl (dA 7, 1, .inr (.inl f'))) :: xR dA ρ' ar)) c' s' Q 2319 [(4, .int (nI (7 * t))), (3, .ref q), (2, .ref (ar 40)), (1, .ref (ad' 11 0)), (0, .ref b)] [] []) : zz p l e lwR s m args below meth c A (cx D dA A W.1 W.2.1 W.2.2 ad ((q, .inl (dA 7, 1, .inr (.inl f))) :: xR dA ρ ar)) cells slots Q 1510 [(4, .int (nI (7 * t))), (3, .ref q), (2, .ref (ar 40)), (1, .ref (ad 11 0)), (0, .ref b)] [] [] := by
  obtain ⟨hI1, hI2⟩ := hI
  have h80 := @E26_le ρ
  obtain ⟨nw, hRel⟩ := hR
  have h11 : 0 < W.2.2 11 := by rw [hRel.r3.1.1]; decide
  obtain ⟨o, ρ', a, W', f', r5, hfc, hcd, hw, hfr, h39, hans, hRX, hE⟩ := OKQ.use (f := f) (f_cellOf hRel (sc (7 * t + 1)))
  have h81 := @E26_le ρ'
  refine z_aload_n X dL_law_1510 rfl rfl ?_
  refine z_aload_n X dL_law_1511 rfl rfl ?_
  refine z_iload X dL_law_1512 rfl ?_
  refine z_iconst (v := nI 1) X dL_law_1514 (by decide) ?_
  refine z_iadd X dL_law_1515 ?_
  rw [(nI_arg (j := 1) hL hL2 (by decide)).1]
  refine z_sld X hX hbl hbA (nI_arg hL hL2 (by decide)).2 dL_law_1516 ?_
  rw [nI_clamp (by omega)]
  refine z_aload_n X dL_law_1517 rfl rfl ?_
  refine z_callWi (As := [.ref (ad 11 0), .int (sc (7 * t + 1)), .ref q]) (rest := []) (nA := 3) (mc := 1) (ms := 6) (rm := ({ frames := 60, cells := 1, slots := 6, locals := 600 } : Room)) (S := CW × (Nat → Int64) × Adr) (post := fun r u => wQ W.1 W.2.1 W.2.2 f cd1 o = (u.1, u.2.1, r) ∧ axt W.2.2 ad u.2.2 ∧ ∀ k, W.2.2 k ≤ u.1.2.2 k) (G1 := fun u => cx D dA A u.1.1 u.1.2.1 u.1.2.2 u.2.2 ((q, .inl (dA 7, 1, .inr (.inl u.2.1))) :: xR dA ρ ar)) X hNc (cw_cellOf l X.2.2.2.2.2.2.2.2 X.2.2.2.2.2.2.1 h11 hcd hfc) g_1142 g_1143 g_0 g_1144 hd_yL_cellOf.2 ⟨rfl, rfl, Nat.le_of_ble_eq_true rfl, Nat.le_of_ble_eq_true rfl⟩ rfl rfl (Nat.le_of_ble_eq_true rfl) dL_law_1518 ⟨by show _ ≤ 601024; omega, by show _ ≤ 7293034; omega⟩ (fun r u hu => ?_)
  obtain ⟨W2, f2, ad'⟩ := u
  obtain ⟨hu1, hax, hN⟩ := hu
  have e1 := hw.symm.trans hu1
  simp only [Prod.mk.injEq] at e1
  obtain ⟨rfl, rfl, rfl⟩ := e1
  have ha1 : ad' 11 0 = ad 11 0 := hax 11 0 (ex_k (by decide) h11) (by decide)
  rw [← ha1]
  have h11' : 0 < W'.2.2 11 := Nat.lt_of_lt_of_le h11 (hN 11)
  refine z_istore X dL_law_1521 (by rw [hml]; decide) rfl rfl ?_
  refine z_aload_n X dL_law_1523 rfl rfl ?_
  refine z_aload_n X dL_law_1524 rfl rfl ?_
  refine z_iload X dL_law_1525 rfl ?_
  refine z_iconst (v := nI 1) X dL_law_1527 (by decide) ?_
  refine z_iadd X dL_law_1528 ?_
  rw [(nI_arg (j := 1) hL hL2 (by decide)).1]
  refine z_sld X hX hbl hbA (nI_arg hL hL2 (by decide)).2 dL_law_1529 ?_
  rw [nI_clamp (by omega)]
  refine z_callVi (As := [.int (sc (7 * t + 1))]) (rest := []) (nA := 1) (mc := 0) (ms := 0) (rm := ({ frames := 80, cells := 0, slots := 0, locals := 800 } : Room)) (r0 := a) (pu := fun (_ : Unit) => True) (G1 := fun _ => cx D dA A W'.1 W'.2.1 W'.2.2 ad' ((q, .inl (dA 7, 1, .inr (.inl f'))) :: xR dA ρ' ar)) X (met_ref (xs := [(q, .inl (dA 7, 1, .inr (.inl f')))]) X.2.2.2.2.2.2.1 (fun A' n' hA' => cr_cellOf l X.2.2.2.2.2.2.2.2 hA' hfr)) g_1627 g_1628 g_1629 g_15 g_1630 hd_yX12_cellOf ⟨rfl, rfl, Nat.le_of_ble_eq_true rfl, Nat.le_of_ble_eq_true rfl⟩ rfl (fun _ hG => cx_recvX X (j := 1) (ci := 15) rfl rfl hG) rfl (Nat.le_of_ble_eq_true rfl) dL_law_1530 ⟨by show _ ≤ 601024; omega, by show _ ≤ 7293034; omega⟩ (fun _ _ => ?_)
  refine z_istore X dL_law_1533 (by rw [hml]; decide) rfl rfl ?_
  refine z_aload_n X dL_law_1535 rfl rfl ?_
  refine z_callVi (As := []) (rest := []) (nA := 0) (mc := 0) (ms := 0) (rm := ({ frames := 20, cells := 0, slots := 0, locals := 200 } : Room)) (r0 := ρ' 39 0) (pu := fun (_ : Unit) => True) (G1 := fun _ => cx D dA A W'.1 W'.2.1 W'.2.2 ad' ((q, .inl (dA 7, 1, .inr (.inl f'))) :: xR dA ρ' ar)) X (met_ref (xs := [(q, .inl (dA 7, 1, .inr (.inl f')))]) X.2.2.2.2.2.2.1 (fun A' n' hA' => cr_thrown l X.2.2.2.2.2.2.2.2 hA' (show fr_thrown ρ' = some (ρ' 39 0) from rfl))) g_1428 g_1429 g_1430 g_15 g_1431 hd_yX12_thrown ⟨rfl, rfl, Nat.le_of_ble_eq_true rfl, Nat.le_of_ble_eq_true rfl⟩ rfl (fun _ hG => cx_recvX X (j := 1) (ci := 15) rfl rfl hG) rfl (Nat.le_of_ble_eq_true rfl) dL_law_1536 ⟨by show _ ≤ 601024; omega, by show _ ≤ 7293034; omega⟩ (fun _ _ => ?_)
  refine z_iload X dL_law_1539 rfl ?_
  refine z_icmp_eq (tgt := 1546) X dL_law_1541 (by decide) (fun _ => ?_) (fun z => absurd h39 z)
  refine z_iload X dL_law_1546 rfl ?_
  have fin : zz p l e lwR s m args below meth c A (cx D dA A W'.1 W'.2.1 W'.2.2 ad' ((q, .inl (dA 7, 1, .inr (.inl f'))) :: xR dA ρ' ar)) (cells + 1 + 0 + 0) (slots + 6 + 0 + 0) Q 1563 [(6, .int a), (5, .int r5), (4, .int (nI (7 * t))), (3, .ref q), (2, .ref (ar 40)), (1, .ref (ad' 11 0)), (0, .ref b)] [] [] := by
    refine z_goto (tgt := 2319) X dL_law_1563 (by decide) ?_
    exact zz.forget (fun x hx => List.mem_cons_of_mem _ (List.mem_cons_of_mem _ hx)) (k W' ad' f' ρ' _ _ hRX.later ⟨by omega, by omega⟩)
  refine z_if_ne (tgt := 1563) X dL_law_1548 (by decide) (fun z => ?_) (fun _ => fin)
  refine z_aload_n X dL_law_1551 rfl rfl ?_
  refine z_iconst (v := 0) X dL_law_1552 (by decide) ?_
  refine c_laldX X 0 (o := a.toInt64) rfl (fun y => y.elim (fun y => absurd y (by decide)) (fun y => absurd y (by decide))) (hans z) dL_law_1553 ?_
  refine z_iload X dL_law_1554 rfl ?_
  refine z_i2l X dL_law_1556 ?_
  refine z_lcmp X dL_law_1557 ?_
  refine z_if_eq (tgt := 1563) X dL_law_1558 (by decide) (fun _ => fin) (fun y => absurd (lg_cmp_self _) y)
-- rateOf
set_option maxRecDepth 100000 in
set_option maxHeartbeats 8000000 in
theorem lw_rateOf {p : Program} {l : Launch} {e : Env} {s : State} {m : MethodId} {args : Array Value} {below : List Frame} {meth : Method} {c : Code} {A : Nat → Prop} {Q : State → Prop} {D : va_G} {dA : Nat → ClassId} (X : zc p l s m args meth c cL_law RL D dA A) (hNc : zNc s) (hml : c.maxLocals = 7) {b Ls : Nat} {sc : Nat → Int32} (hX : va_X b Ls sc s s.heap) (hbl : b < s.heap.size) (hbA : ¬ A b) {q : Nat} {W : CW} {ad : Adr} {f : Nat → Int64} {ρ : Rho} {ar : Nat → Nat} {t cells slots : Nat} (hR : RelX W ρ t) (hL : 7 * t + 7 ≤ Ls) (hL2 : Ls ≤ 3584) (hI : lwI t (E26 ρ) cells slots)
    (k : ∀ (W' : CW) (ad' : Adr) (f' : Nat → Int64) (ρ' : Rho) (c' s' : Nat), RelX W' ρ' (t + 1) → lwI (t + 1) (E26 ρ') c' s' → zz p l e lwR s m args below meth c A (cx D dA A W'.1 W'.2.1 W'.2.2 ad' ((q, .inl (dA 7, 1, .inr (.inl f'))) :: xR dA ρ' ar)) c' s' Q 2319 [(4, .int (nI (7 * t))), (3, .ref q), (2, .ref (ar 40)), (1, .ref (ad' 11 0)), (0, .ref b)] [] []) : zz p l e lwR s m args below meth c A (cx D dA A W.1 W.2.1 W.2.2 ad ((q, .inl (dA 7, 1, .inr (.inl f))) :: xR dA ρ ar)) cells slots Q 1566 [(4, .int (nI (7 * t))), (3, .ref q), (2, .ref (ar 40)), (1, .ref (ad 11 0)), (0, .ref b)] [] [] := by
  obtain ⟨hI1, hI2⟩ := hI
  have h80 := @E26_le ρ
  obtain ⟨nw, hRel⟩ := hR
  have h11 : 0 < W.2.2 11 := by rw [hRel.r3.1.1]; decide
  obtain ⟨o, ρ', a, W', f', r5, hfc, hcd, hw, hfr, h39, hans, hRX, hE⟩ := OKQ.use (f := f) (f_rateOf hRel (sc (7 * t + 1)))
  have h81 := @E26_le ρ'
  refine z_aload_n X dL_law_1566 rfl rfl ?_
  refine z_aload_n X dL_law_1567 rfl rfl ?_
  refine z_iload X dL_law_1568 rfl ?_
  refine z_iconst (v := nI 1) X dL_law_1570 (by decide) ?_
  refine z_iadd X dL_law_1571 ?_
  rw [(nI_arg (j := 1) hL hL2 (by decide)).1]
  refine z_sld X hX hbl hbA (nI_arg hL hL2 (by decide)).2 dL_law_1572 ?_
  rw [nI_clamp (by omega)]
  refine z_aload_n X dL_law_1573 rfl rfl ?_
  refine z_callWi (As := [.ref (ad 11 0), .int (sc (7 * t + 1)), .ref q]) (rest := []) (nA := 3) (mc := 1) (ms := 6) (rm := ({ frames := 80, cells := 1, slots := 6, locals := 800 } : Room)) (S := CW × (Nat → Int64) × Adr) (post := fun r u => wQ W.1 W.2.1 W.2.2 f cd1 o = (u.1, u.2.1, r) ∧ axt W.2.2 ad u.2.2 ∧ ∀ k, W.2.2 k ≤ u.1.2.2 k) (G1 := fun u => cx D dA A u.1.1 u.1.2.1 u.1.2.2 u.2.2 ((q, .inl (dA 7, 1, .inr (.inl u.2.1))) :: xR dA ρ ar)) X hNc (cw_rateOf l X.2.2.2.2.2.2.2.2 X.2.2.2.2.2.2.1 h11 hcd hfc) g_1149 g_1150 g_0 g_1151 hd_yL_rateOf.2 ⟨rfl, rfl, Nat.le_of_ble_eq_true rfl, Nat.le_of_ble_eq_true rfl⟩ rfl rfl (Nat.le_of_ble_eq_true rfl) dL_law_1574 ⟨by show _ ≤ 601024; omega, by show _ ≤ 7293034; omega⟩ (fun r u hu => ?_)
  obtain ⟨W2, f2, ad'⟩ := u
  obtain ⟨hu1, hax, hN⟩ := hu
  have e1 := hw.symm.trans hu1
  simp only [Prod.mk.injEq] at e1
  obtain ⟨rfl, rfl, rfl⟩ := e1
  have ha1 : ad' 11 0 = ad 11 0 := hax 11 0 (ex_k (by decide) h11) (by decide)
  rw [← ha1]
  have h11' : 0 < W'.2.2 11 := Nat.lt_of_lt_of_le h11 (hN 11)
  refine z_istore X dL_law_1577 (by rw [hml]; decide) rfl rfl ?_
  refine z_aload_n X dL_law_1579 rfl rfl ?_
  refine z_aload_n X dL_law_1580 rfl rfl ?_
  refine z_iload X dL_law_1581 rfl ?_
  refine z_iconst (v := nI 1) X dL_law_1583 (by decide) ?_
  refine z_iadd X dL_law_1584 ?_
  rw [(nI_arg (j := 1) hL hL2 (by decide)).1]
  refine z_sld X hX hbl hbA (nI_arg hL hL2 (by decide)).2 dL_law_1585 ?_
  rw [nI_clamp (by omega)]
  refine z_callVi (As := [.int (sc (7 * t + 1))]) (rest := []) (nA := 1) (mc := 0) (ms := 0) (rm := ({ frames := 80, cells := 0, slots := 0, locals := 800 } : Room)) (r0 := a) (pu := fun (_ : Unit) => True) (G1 := fun _ => cx D dA A W'.1 W'.2.1 W'.2.2 ad' ((q, .inl (dA 7, 1, .inr (.inl f'))) :: xR dA ρ' ar)) X (met_ref (xs := [(q, .inl (dA 7, 1, .inr (.inl f')))]) X.2.2.2.2.2.2.1 (fun A' n' hA' => cr_rateOf l X.2.2.2.2.2.2.2.2 hA' hfr)) g_1635 g_1636 g_1637 g_15 g_1638 hd_yX12_rateOf ⟨rfl, rfl, Nat.le_of_ble_eq_true rfl, Nat.le_of_ble_eq_true rfl⟩ rfl (fun _ hG => cx_recvX X (j := 1) (ci := 15) rfl rfl hG) rfl (Nat.le_of_ble_eq_true rfl) dL_law_1586 ⟨by show _ ≤ 601024; omega, by show _ ≤ 7293034; omega⟩ (fun _ _ => ?_)
  refine z_istore X dL_law_1589 (by rw [hml]; decide) rfl rfl ?_
  refine z_aload_n X dL_law_1591 rfl rfl ?_
  refine z_callVi (As := []) (rest := []) (nA := 0) (mc := 0) (ms := 0) (rm := ({ frames := 20, cells := 0, slots := 0, locals := 200 } : Room)) (r0 := ρ' 39 0) (pu := fun (_ : Unit) => True) (G1 := fun _ => cx D dA A W'.1 W'.2.1 W'.2.2 ad' ((q, .inl (dA 7, 1, .inr (.inl f'))) :: xR dA ρ' ar)) X (met_ref (xs := [(q, .inl (dA 7, 1, .inr (.inl f')))]) X.2.2.2.2.2.2.1 (fun A' n' hA' => cr_thrown l X.2.2.2.2.2.2.2.2 hA' (show fr_thrown ρ' = some (ρ' 39 0) from rfl))) g_1428 g_1429 g_1430 g_15 g_1431 hd_yX12_thrown ⟨rfl, rfl, Nat.le_of_ble_eq_true rfl, Nat.le_of_ble_eq_true rfl⟩ rfl (fun _ hG => cx_recvX X (j := 1) (ci := 15) rfl rfl hG) rfl (Nat.le_of_ble_eq_true rfl) dL_law_1592 ⟨by show _ ≤ 601024; omega, by show _ ≤ 7293034; omega⟩ (fun _ _ => ?_)
  refine z_iload X dL_law_1595 rfl ?_
  refine z_icmp_eq (tgt := 1602) X dL_law_1597 (by decide) (fun _ => ?_) (fun z => absurd h39 z)
  refine z_iload X dL_law_1602 rfl ?_
  have fin : zz p l e lwR s m args below meth c A (cx D dA A W'.1 W'.2.1 W'.2.2 ad' ((q, .inl (dA 7, 1, .inr (.inl f'))) :: xR dA ρ' ar)) (cells + 1 + 0 + 0) (slots + 6 + 0 + 0) Q 1619 [(6, .int a), (5, .int r5), (4, .int (nI (7 * t))), (3, .ref q), (2, .ref (ar 40)), (1, .ref (ad' 11 0)), (0, .ref b)] [] [] := by
    refine z_goto (tgt := 2319) X dL_law_1619 (by decide) ?_
    exact zz.forget (fun x hx => List.mem_cons_of_mem _ (List.mem_cons_of_mem _ hx)) (k W' ad' f' ρ' _ _ hRX.later ⟨by omega, by omega⟩)
  refine z_if_ne (tgt := 1619) X dL_law_1604 (by decide) (fun z => ?_) (fun _ => fin)
  refine z_aload_n X dL_law_1607 rfl rfl ?_
  refine z_iconst (v := 0) X dL_law_1608 (by decide) ?_
  refine c_laldX X 0 (o := a.toInt64) rfl (fun y => y.elim (fun y => absurd y (by decide)) (fun y => absurd y (by decide))) (hans z) dL_law_1609 ?_
  refine z_iload X dL_law_1610 rfl ?_
  refine z_i2l X dL_law_1612 ?_
  refine z_lcmp X dL_law_1613 ?_
  refine z_if_eq (tgt := 1619) X dL_law_1614 (by decide) (fun _ => fin) (fun y => absurd (lg_cmp_self _) y)
-- legOf
set_option maxRecDepth 100000 in
set_option maxHeartbeats 8000000 in
theorem lw_legOf {p : Program} {l : Launch} {e : Env} {s : State} {m : MethodId} {args : Array Value} {below : List Frame} {meth : Method} {c : Code} {A : Nat → Prop} {Q : State → Prop} {D : va_G} {dA : Nat → ClassId} (X : zc p l s m args meth c cL_law RL D dA A) (hNc : zNc s) (hml : c.maxLocals = 7) {b Ls : Nat} {sc : Nat → Int32} (hX : va_X b Ls sc s s.heap) (hbl : b < s.heap.size) (hbA : ¬ A b) {q : Nat} {W : CW} {ad : Adr} {f : Nat → Int64} {ρ : Rho} {ar : Nat → Nat} {t cells slots : Nat} (hR : RelX W ρ t) (hL : 7 * t + 7 ≤ Ls) (hL2 : Ls ≤ 3584) (hI : lwI t (E26 ρ) cells slots)
    (k : ∀ (W' : CW) (ad' : Adr) (f' : Nat → Int64) (ρ' : Rho) (c' s' : Nat), RelX W' ρ' (t + 1) → lwI (t + 1) (E26 ρ') c' s' → zz p l e lwR s m args below meth c A (cx D dA A W'.1 W'.2.1 W'.2.2 ad' ((q, .inl (dA 7, 1, .inr (.inl f'))) :: xR dA ρ' ar)) c' s' Q 2319 [(4, .int (nI (7 * t))), (3, .ref q), (2, .ref (ar 40)), (1, .ref (ad' 11 0)), (0, .ref b)] [] []) : zz p l e lwR s m args below meth c A (cx D dA A W.1 W.2.1 W.2.2 ad ((q, .inl (dA 7, 1, .inr (.inl f))) :: xR dA ρ ar)) cells slots Q 1622 [(4, .int (nI (7 * t))), (3, .ref q), (2, .ref (ar 40)), (1, .ref (ad 11 0)), (0, .ref b)] [] [] := by
  obtain ⟨hI1, hI2⟩ := hI
  have h80 := @E26_le ρ
  obtain ⟨nw, hRel⟩ := hR
  have h11 : 0 < W.2.2 11 := by rw [hRel.r3.1.1]; decide
  obtain ⟨o, ρ', a, W', f', r5, hfc, hcd, hw, hfr, h39, hans, hRX, hE⟩ := OKQ.use (f := f) (f_legOf hRel (sc (7 * t + 1)))
  have h81 := @E26_le ρ'
  refine z_aload_n X dL_law_1622 rfl rfl ?_
  refine z_aload_n X dL_law_1623 rfl rfl ?_
  refine z_iload X dL_law_1624 rfl ?_
  refine z_iconst (v := nI 1) X dL_law_1626 (by decide) ?_
  refine z_iadd X dL_law_1627 ?_
  rw [(nI_arg (j := 1) hL hL2 (by decide)).1]
  refine z_sld X hX hbl hbA (nI_arg hL hL2 (by decide)).2 dL_law_1628 ?_
  rw [nI_clamp (by omega)]
  refine z_aload_n X dL_law_1629 rfl rfl ?_
  refine z_callWi (As := [.ref (ad 11 0), .int (sc (7 * t + 1)), .ref q]) (rest := []) (nA := 3) (mc := 1) (ms := 6) (rm := ({ frames := 60, cells := 1, slots := 6, locals := 600 } : Room)) (S := CW × (Nat → Int64) × Adr) (post := fun r u => wQ W.1 W.2.1 W.2.2 f cd1 o = (u.1, u.2.1, r) ∧ axt W.2.2 ad u.2.2 ∧ ∀ k, W.2.2 k ≤ u.1.2.2 k) (G1 := fun u => cx D dA A u.1.1 u.1.2.1 u.1.2.2 u.2.2 ((q, .inl (dA 7, 1, .inr (.inl u.2.1))) :: xR dA ρ ar)) X hNc (cw_legOf l X.2.2.2.2.2.2.2.2 X.2.2.2.2.2.2.1 h11 hcd hfc) g_1156 g_1157 g_0 g_1158 hd_yL_legOf.2 ⟨rfl, rfl, Nat.le_of_ble_eq_true rfl, Nat.le_of_ble_eq_true rfl⟩ rfl rfl (Nat.le_of_ble_eq_true rfl) dL_law_1630 ⟨by show _ ≤ 601024; omega, by show _ ≤ 7293034; omega⟩ (fun r u hu => ?_)
  obtain ⟨W2, f2, ad'⟩ := u
  obtain ⟨hu1, hax, hN⟩ := hu
  have e1 := hw.symm.trans hu1
  simp only [Prod.mk.injEq] at e1
  obtain ⟨rfl, rfl, rfl⟩ := e1
  have ha1 : ad' 11 0 = ad 11 0 := hax 11 0 (ex_k (by decide) h11) (by decide)
  rw [← ha1]
  have h11' : 0 < W'.2.2 11 := Nat.lt_of_lt_of_le h11 (hN 11)
  refine z_istore X dL_law_1633 (by rw [hml]; decide) rfl rfl ?_
  refine z_aload_n X dL_law_1635 rfl rfl ?_
  refine z_aload_n X dL_law_1636 rfl rfl ?_
  refine z_iload X dL_law_1637 rfl ?_
  refine z_iconst (v := nI 1) X dL_law_1639 (by decide) ?_
  refine z_iadd X dL_law_1640 ?_
  rw [(nI_arg (j := 1) hL hL2 (by decide)).1]
  refine z_sld X hX hbl hbA (nI_arg hL hL2 (by decide)).2 dL_law_1641 ?_
  rw [nI_clamp (by omega)]
  refine z_callVi (As := [.int (sc (7 * t + 1))]) (rest := []) (nA := 1) (mc := 0) (ms := 0) (rm := ({ frames := 80, cells := 0, slots := 0, locals := 800 } : Room)) (r0 := a) (pu := fun (_ : Unit) => True) (G1 := fun _ => cx D dA A W'.1 W'.2.1 W'.2.2 ad' ((q, .inl (dA 7, 1, .inr (.inl f'))) :: xR dA ρ' ar)) X (met_ref (xs := [(q, .inl (dA 7, 1, .inr (.inl f')))]) X.2.2.2.2.2.2.1 (fun A' n' hA' => cr_legOf l X.2.2.2.2.2.2.2.2 hA' hfr)) g_1639 g_1640 g_1641 g_15 g_1642 hd_yX12_legOf ⟨rfl, rfl, Nat.le_of_ble_eq_true rfl, Nat.le_of_ble_eq_true rfl⟩ rfl (fun _ hG => cx_recvX X (j := 1) (ci := 15) rfl rfl hG) rfl (Nat.le_of_ble_eq_true rfl) dL_law_1642 ⟨by show _ ≤ 601024; omega, by show _ ≤ 7293034; omega⟩ (fun _ _ => ?_)
  refine z_istore X dL_law_1645 (by rw [hml]; decide) rfl rfl ?_
  refine z_aload_n X dL_law_1647 rfl rfl ?_
  refine z_callVi (As := []) (rest := []) (nA := 0) (mc := 0) (ms := 0) (rm := ({ frames := 20, cells := 0, slots := 0, locals := 200 } : Room)) (r0 := ρ' 39 0) (pu := fun (_ : Unit) => True) (G1 := fun _ => cx D dA A W'.1 W'.2.1 W'.2.2 ad' ((q, .inl (dA 7, 1, .inr (.inl f'))) :: xR dA ρ' ar)) X (met_ref (xs := [(q, .inl (dA 7, 1, .inr (.inl f')))]) X.2.2.2.2.2.2.1 (fun A' n' hA' => cr_thrown l X.2.2.2.2.2.2.2.2 hA' (show fr_thrown ρ' = some (ρ' 39 0) from rfl))) g_1428 g_1429 g_1430 g_15 g_1431 hd_yX12_thrown ⟨rfl, rfl, Nat.le_of_ble_eq_true rfl, Nat.le_of_ble_eq_true rfl⟩ rfl (fun _ hG => cx_recvX X (j := 1) (ci := 15) rfl rfl hG) rfl (Nat.le_of_ble_eq_true rfl) dL_law_1648 ⟨by show _ ≤ 601024; omega, by show _ ≤ 7293034; omega⟩ (fun _ _ => ?_)
  refine z_iload X dL_law_1651 rfl ?_
  refine z_icmp_eq (tgt := 1658) X dL_law_1653 (by decide) (fun _ => ?_) (fun z => absurd h39 z)
  refine z_iload X dL_law_1658 rfl ?_
  have fin : zz p l e lwR s m args below meth c A (cx D dA A W'.1 W'.2.1 W'.2.2 ad' ((q, .inl (dA 7, 1, .inr (.inl f'))) :: xR dA ρ' ar)) (cells + 1 + 0 + 0) (slots + 6 + 0 + 0) Q 1675 [(6, .int a), (5, .int r5), (4, .int (nI (7 * t))), (3, .ref q), (2, .ref (ar 40)), (1, .ref (ad' 11 0)), (0, .ref b)] [] [] := by
    refine z_goto (tgt := 2319) X dL_law_1675 (by decide) ?_
    exact zz.forget (fun x hx => List.mem_cons_of_mem _ (List.mem_cons_of_mem _ hx)) (k W' ad' f' ρ' _ _ hRX.later ⟨by omega, by omega⟩)
  refine z_if_ne (tgt := 1675) X dL_law_1660 (by decide) (fun z => ?_) (fun _ => fin)
  refine z_aload_n X dL_law_1663 rfl rfl ?_
  refine z_iconst (v := 0) X dL_law_1664 (by decide) ?_
  refine c_laldX X 0 (o := a.toInt64) rfl (fun y => y.elim (fun y => absurd y (by decide)) (fun y => absurd y (by decide))) (hans z) dL_law_1665 ?_
  refine z_iload X dL_law_1666 rfl ?_
  refine z_i2l X dL_law_1668 ?_
  refine z_lcmp X dL_law_1669 ?_
  refine z_if_eq (tgt := 1675) X dL_law_1670 (by decide) (fun _ => fin) (fun y => absurd (lg_cmp_self _) y)
-- sliceOf
set_option maxRecDepth 100000 in
set_option maxHeartbeats 8000000 in
theorem lw_sliceOf {p : Program} {l : Launch} {e : Env} {s : State} {m : MethodId} {args : Array Value} {below : List Frame} {meth : Method} {c : Code} {A : Nat → Prop} {Q : State → Prop} {D : va_G} {dA : Nat → ClassId} (X : zc p l s m args meth c cL_law RL D dA A) (hNc : zNc s) (hml : c.maxLocals = 7) {b Ls : Nat} {sc : Nat → Int32} (hX : va_X b Ls sc s s.heap) (hbl : b < s.heap.size) (hbA : ¬ A b) {q : Nat} {W : CW} {ad : Adr} {f : Nat → Int64} {ρ : Rho} {ar : Nat → Nat} {t cells slots : Nat} (hR : RelX W ρ t) (hL : 7 * t + 7 ≤ Ls) (hL2 : Ls ≤ 3584) (hI : lwI t (E26 ρ) cells slots)
    (k : ∀ (W' : CW) (ad' : Adr) (f' : Nat → Int64) (ρ' : Rho) (c' s' : Nat), RelX W' ρ' (t + 1) → lwI (t + 1) (E26 ρ') c' s' → zz p l e lwR s m args below meth c A (cx D dA A W'.1 W'.2.1 W'.2.2 ad' ((q, .inl (dA 7, 1, .inr (.inl f'))) :: xR dA ρ' ar)) c' s' Q 2319 [(4, .int (nI (7 * t))), (3, .ref q), (2, .ref (ar 40)), (1, .ref (ad' 11 0)), (0, .ref b)] [] []) : zz p l e lwR s m args below meth c A (cx D dA A W.1 W.2.1 W.2.2 ad ((q, .inl (dA 7, 1, .inr (.inl f))) :: xR dA ρ ar)) cells slots Q 1678 [(4, .int (nI (7 * t))), (3, .ref q), (2, .ref (ar 40)), (1, .ref (ad 11 0)), (0, .ref b)] [] [] := by
  obtain ⟨hI1, hI2⟩ := hI
  have h80 := @E26_le ρ
  obtain ⟨nw, hRel⟩ := hR
  have h11 : 0 < W.2.2 11 := by rw [hRel.r3.1.1]; decide
  obtain ⟨o, ρ', a, W', f', r5, hfc, hcd, hw, hfr, h39, hans, hRX, hE⟩ := OKQ.use (f := f) (f_sliceOf hRel (sc (7 * t + 1)))
  have h81 := @E26_le ρ'
  refine z_aload_n X dL_law_1678 rfl rfl ?_
  refine z_aload_n X dL_law_1679 rfl rfl ?_
  refine z_iload X dL_law_1680 rfl ?_
  refine z_iconst (v := nI 1) X dL_law_1682 (by decide) ?_
  refine z_iadd X dL_law_1683 ?_
  rw [(nI_arg (j := 1) hL hL2 (by decide)).1]
  refine z_sld X hX hbl hbA (nI_arg hL hL2 (by decide)).2 dL_law_1684 ?_
  rw [nI_clamp (by omega)]
  refine z_aload_n X dL_law_1685 rfl rfl ?_
  refine z_callWi (As := [.ref (ad 11 0), .int (sc (7 * t + 1)), .ref q]) (rest := []) (nA := 3) (mc := 1) (ms := 6) (rm := ({ frames := 60, cells := 1, slots := 6, locals := 600 } : Room)) (S := CW × (Nat → Int64) × Adr) (post := fun r u => wQ W.1 W.2.1 W.2.2 f cd1 o = (u.1, u.2.1, r) ∧ axt W.2.2 ad u.2.2 ∧ ∀ k, W.2.2 k ≤ u.1.2.2 k) (G1 := fun u => cx D dA A u.1.1 u.1.2.1 u.1.2.2 u.2.2 ((q, .inl (dA 7, 1, .inr (.inl u.2.1))) :: xR dA ρ ar)) X hNc (cw_sliceOf l X.2.2.2.2.2.2.2.2 X.2.2.2.2.2.2.1 h11 hcd hfc) g_1163 g_1164 g_0 g_1165 hd_yL_sliceOf.2 ⟨rfl, rfl, Nat.le_of_ble_eq_true rfl, Nat.le_of_ble_eq_true rfl⟩ rfl rfl (Nat.le_of_ble_eq_true rfl) dL_law_1686 ⟨by show _ ≤ 601024; omega, by show _ ≤ 7293034; omega⟩ (fun r u hu => ?_)
  obtain ⟨W2, f2, ad'⟩ := u
  obtain ⟨hu1, hax, hN⟩ := hu
  have e1 := hw.symm.trans hu1
  simp only [Prod.mk.injEq] at e1
  obtain ⟨rfl, rfl, rfl⟩ := e1
  have ha1 : ad' 11 0 = ad 11 0 := hax 11 0 (ex_k (by decide) h11) (by decide)
  rw [← ha1]
  have h11' : 0 < W'.2.2 11 := Nat.lt_of_lt_of_le h11 (hN 11)
  refine z_istore X dL_law_1689 (by rw [hml]; decide) rfl rfl ?_
  refine z_aload_n X dL_law_1691 rfl rfl ?_
  refine z_aload_n X dL_law_1692 rfl rfl ?_
  refine z_iload X dL_law_1693 rfl ?_
  refine z_iconst (v := nI 1) X dL_law_1695 (by decide) ?_
  refine z_iadd X dL_law_1696 ?_
  rw [(nI_arg (j := 1) hL hL2 (by decide)).1]
  refine z_sld X hX hbl hbA (nI_arg hL hL2 (by decide)).2 dL_law_1697 ?_
  rw [nI_clamp (by omega)]
  refine z_callVi (As := [.int (sc (7 * t + 1))]) (rest := []) (nA := 1) (mc := 0) (ms := 0) (rm := ({ frames := 80, cells := 0, slots := 0, locals := 800 } : Room)) (r0 := a) (pu := fun (_ : Unit) => True) (G1 := fun _ => cx D dA A W'.1 W'.2.1 W'.2.2 ad' ((q, .inl (dA 7, 1, .inr (.inl f'))) :: xR dA ρ' ar)) X (met_ref (xs := [(q, .inl (dA 7, 1, .inr (.inl f')))]) X.2.2.2.2.2.2.1 (fun A' n' hA' => cr_sliceOf l X.2.2.2.2.2.2.2.2 hA' hfr)) g_1643 g_1644 g_1645 g_15 g_1646 hd_yX12_sliceOf ⟨rfl, rfl, Nat.le_of_ble_eq_true rfl, Nat.le_of_ble_eq_true rfl⟩ rfl (fun _ hG => cx_recvX X (j := 1) (ci := 15) rfl rfl hG) rfl (Nat.le_of_ble_eq_true rfl) dL_law_1698 ⟨by show _ ≤ 601024; omega, by show _ ≤ 7293034; omega⟩ (fun _ _ => ?_)
  refine z_istore X dL_law_1701 (by rw [hml]; decide) rfl rfl ?_
  refine z_aload_n X dL_law_1703 rfl rfl ?_
  refine z_callVi (As := []) (rest := []) (nA := 0) (mc := 0) (ms := 0) (rm := ({ frames := 20, cells := 0, slots := 0, locals := 200 } : Room)) (r0 := ρ' 39 0) (pu := fun (_ : Unit) => True) (G1 := fun _ => cx D dA A W'.1 W'.2.1 W'.2.2 ad' ((q, .inl (dA 7, 1, .inr (.inl f'))) :: xR dA ρ' ar)) X (met_ref (xs := [(q, .inl (dA 7, 1, .inr (.inl f')))]) X.2.2.2.2.2.2.1 (fun A' n' hA' => cr_thrown l X.2.2.2.2.2.2.2.2 hA' (show fr_thrown ρ' = some (ρ' 39 0) from rfl))) g_1428 g_1429 g_1430 g_15 g_1431 hd_yX12_thrown ⟨rfl, rfl, Nat.le_of_ble_eq_true rfl, Nat.le_of_ble_eq_true rfl⟩ rfl (fun _ hG => cx_recvX X (j := 1) (ci := 15) rfl rfl hG) rfl (Nat.le_of_ble_eq_true rfl) dL_law_1704 ⟨by show _ ≤ 601024; omega, by show _ ≤ 7293034; omega⟩ (fun _ _ => ?_)
  refine z_iload X dL_law_1707 rfl ?_
  refine z_icmp_eq (tgt := 1714) X dL_law_1709 (by decide) (fun _ => ?_) (fun z => absurd h39 z)
  refine z_iload X dL_law_1714 rfl ?_
  have fin : zz p l e lwR s m args below meth c A (cx D dA A W'.1 W'.2.1 W'.2.2 ad' ((q, .inl (dA 7, 1, .inr (.inl f'))) :: xR dA ρ' ar)) (cells + 1 + 0 + 0) (slots + 6 + 0 + 0) Q 1731 [(6, .int a), (5, .int r5), (4, .int (nI (7 * t))), (3, .ref q), (2, .ref (ar 40)), (1, .ref (ad' 11 0)), (0, .ref b)] [] [] := by
    refine z_goto (tgt := 2319) X dL_law_1731 (by decide) ?_
    exact zz.forget (fun x hx => List.mem_cons_of_mem _ (List.mem_cons_of_mem _ hx)) (k W' ad' f' ρ' _ _ hRX.later ⟨by omega, by omega⟩)
  refine z_if_ne (tgt := 1731) X dL_law_1716 (by decide) (fun z => ?_) (fun _ => fin)
  refine z_aload_n X dL_law_1719 rfl rfl ?_
  refine z_iconst (v := 0) X dL_law_1720 (by decide) ?_
  refine c_laldX X 0 (o := a.toInt64) rfl (fun y => y.elim (fun y => absurd y (by decide)) (fun y => absurd y (by decide))) (hans z) dL_law_1721 ?_
  refine z_iload X dL_law_1722 rfl ?_
  refine z_i2l X dL_law_1724 ?_
  refine z_lcmp X dL_law_1725 ?_
  refine z_if_eq (tgt := 1731) X dL_law_1726 (by decide) (fun _ => fin) (fun y => absurd (lg_cmp_self _) y)
-- parties
set_option maxRecDepth 100000 in
set_option maxHeartbeats 8000000 in
theorem lw_parties {p : Program} {l : Launch} {e : Env} {s : State} {m : MethodId} {args : Array Value} {below : List Frame} {meth : Method} {c : Code} {A : Nat → Prop} {Q : State → Prop} {D : va_G} {dA : Nat → ClassId} (X : zc p l s m args meth c cL_law RL D dA A) (hNc : zNc s) (hml : c.maxLocals = 7) {b Ls : Nat} {sc : Nat → Int32} (hX : va_X b Ls sc s s.heap) (hbl : b < s.heap.size) (hbA : ¬ A b) {q : Nat} {W : CW} {ad : Adr} {f : Nat → Int64} {ρ : Rho} {ar : Nat → Nat} {t cells slots : Nat} (hR : RelX W ρ t) (hL : 7 * t + 7 ≤ Ls) (hL2 : Ls ≤ 3584) (hI : lwI t (E26 ρ) cells slots)
    (k : ∀ (W' : CW) (ad' : Adr) (f' : Nat → Int64) (ρ' : Rho) (c' s' : Nat), RelX W' ρ' (t + 1) → lwI (t + 1) (E26 ρ') c' s' → zz p l e lwR s m args below meth c A (cx D dA A W'.1 W'.2.1 W'.2.2 ad' ((q, .inl (dA 7, 1, .inr (.inl f'))) :: xR dA ρ' ar)) c' s' Q 2319 [(4, .int (nI (7 * t))), (3, .ref q), (2, .ref (ar 40)), (1, .ref (ad' 11 0)), (0, .ref b)] [] []) : zz p l e lwR s m args below meth c A (cx D dA A W.1 W.2.1 W.2.2 ad ((q, .inl (dA 7, 1, .inr (.inl f))) :: xR dA ρ ar)) cells slots Q 1734 [(4, .int (nI (7 * t))), (3, .ref q), (2, .ref (ar 40)), (1, .ref (ad 11 0)), (0, .ref b)] [] [] := by
  obtain ⟨hI1, hI2⟩ := hI
  have h80 := @E26_le ρ
  obtain ⟨nw, hRel⟩ := hR
  have h11 : 0 < W.2.2 11 := by rw [hRel.r3.1.1]; decide
  obtain ⟨o, ρ', a, W', f', r5, hfc, hcd, hw, hfr, h39, hans, hRX, hE⟩ := OKQ.use (f := f) (f_parties hRel (sc (7 * t + 1)))
  have h81 := @E26_le ρ'
  refine z_aload_n X dL_law_1734 rfl rfl ?_
  refine z_aload_n X dL_law_1735 rfl rfl ?_
  refine z_iload X dL_law_1736 rfl ?_
  refine z_iconst (v := nI 1) X dL_law_1738 (by decide) ?_
  refine z_iadd X dL_law_1739 ?_
  rw [(nI_arg (j := 1) hL hL2 (by decide)).1]
  refine z_sld X hX hbl hbA (nI_arg hL hL2 (by decide)).2 dL_law_1740 ?_
  rw [nI_clamp (by omega)]
  refine z_aload_n X dL_law_1741 rfl rfl ?_
  refine z_callWi (As := [.ref (ad 11 0), .int (sc (7 * t + 1)), .ref q]) (rest := []) (nA := 3) (mc := 1) (ms := 6) (rm := ({ frames := 220, cells := 1, slots := 6, locals := 2200 } : Room)) (S := CW × (Nat → Int64) × Adr) (post := fun r u => wQ W.1 W.2.1 W.2.2 f cd1 o = (u.1, u.2.1, r) ∧ axt W.2.2 ad u.2.2 ∧ ∀ k, W.2.2 k ≤ u.1.2.2 k) (G1 := fun u => cx D dA A u.1.1 u.1.2.1 u.1.2.2 u.2.2 ((q, .inl (dA 7, 1, .inr (.inl u.2.1))) :: xR dA ρ ar)) X hNc (cw_parties l X.2.2.2.2.2.2.2.2 X.2.2.2.2.2.2.1 h11 hcd hfc) g_1170 g_1171 g_0 g_1172 hd_yL_parties.2 ⟨rfl, rfl, Nat.le_of_ble_eq_true rfl, Nat.le_of_ble_eq_true rfl⟩ rfl rfl (Nat.le_of_ble_eq_true rfl) dL_law_1742 ⟨by show _ ≤ 601024; omega, by show _ ≤ 7293034; omega⟩ (fun r u hu => ?_)
  obtain ⟨W2, f2, ad'⟩ := u
  obtain ⟨hu1, hax, hN⟩ := hu
  have e1 := hw.symm.trans hu1
  simp only [Prod.mk.injEq] at e1
  obtain ⟨rfl, rfl, rfl⟩ := e1
  have ha1 : ad' 11 0 = ad 11 0 := hax 11 0 (ex_k (by decide) h11) (by decide)
  rw [← ha1]
  have h11' : 0 < W'.2.2 11 := Nat.lt_of_lt_of_le h11 (hN 11)
  refine z_istore X dL_law_1745 (by rw [hml]; decide) rfl rfl ?_
  refine z_aload_n X dL_law_1747 rfl rfl ?_
  refine z_aload_n X dL_law_1748 rfl rfl ?_
  refine z_iload X dL_law_1749 rfl ?_
  refine z_iconst (v := nI 1) X dL_law_1751 (by decide) ?_
  refine z_iadd X dL_law_1752 ?_
  rw [(nI_arg (j := 1) hL hL2 (by decide)).1]
  refine z_sld X hX hbl hbA (nI_arg hL hL2 (by decide)).2 dL_law_1753 ?_
  rw [nI_clamp (by omega)]
  refine z_callVi (As := [.int (sc (7 * t + 1))]) (rest := []) (nA := 1) (mc := 0) (ms := 0) (rm := ({ frames := 60, cells := 0, slots := 0, locals := 600 } : Room)) (r0 := a) (pu := fun (_ : Unit) => True) (G1 := fun _ => cx D dA A W'.1 W'.2.1 W'.2.2 ad' ((q, .inl (dA 7, 1, .inr (.inl f'))) :: xR dA ρ' ar)) X (met_ref (xs := [(q, .inl (dA 7, 1, .inr (.inl f')))]) X.2.2.2.2.2.2.1 (fun A' n' hA' => cr_parties l X.2.2.2.2.2.2.2.2 hA' hfr)) g_1647 g_1648 g_1649 g_15 g_1650 hd_yX12_parties ⟨rfl, rfl, Nat.le_of_ble_eq_true rfl, Nat.le_of_ble_eq_true rfl⟩ rfl (fun _ hG => cx_recvX X (j := 1) (ci := 15) rfl rfl hG) rfl (Nat.le_of_ble_eq_true rfl) dL_law_1754 ⟨by show _ ≤ 601024; omega, by show _ ≤ 7293034; omega⟩ (fun _ _ => ?_)
  refine z_istore X dL_law_1757 (by rw [hml]; decide) rfl rfl ?_
  refine z_aload_n X dL_law_1759 rfl rfl ?_
  refine z_callVi (As := []) (rest := []) (nA := 0) (mc := 0) (ms := 0) (rm := ({ frames := 20, cells := 0, slots := 0, locals := 200 } : Room)) (r0 := ρ' 39 0) (pu := fun (_ : Unit) => True) (G1 := fun _ => cx D dA A W'.1 W'.2.1 W'.2.2 ad' ((q, .inl (dA 7, 1, .inr (.inl f'))) :: xR dA ρ' ar)) X (met_ref (xs := [(q, .inl (dA 7, 1, .inr (.inl f')))]) X.2.2.2.2.2.2.1 (fun A' n' hA' => cr_thrown l X.2.2.2.2.2.2.2.2 hA' (show fr_thrown ρ' = some (ρ' 39 0) from rfl))) g_1428 g_1429 g_1430 g_15 g_1431 hd_yX12_thrown ⟨rfl, rfl, Nat.le_of_ble_eq_true rfl, Nat.le_of_ble_eq_true rfl⟩ rfl (fun _ hG => cx_recvX X (j := 1) (ci := 15) rfl rfl hG) rfl (Nat.le_of_ble_eq_true rfl) dL_law_1760 ⟨by show _ ≤ 601024; omega, by show _ ≤ 7293034; omega⟩ (fun _ _ => ?_)
  refine z_iload X dL_law_1763 rfl ?_
  refine z_icmp_eq (tgt := 1770) X dL_law_1765 (by decide) (fun _ => ?_) (fun z => absurd h39 z)
  refine z_iload X dL_law_1770 rfl ?_
  have fin : zz p l e lwR s m args below meth c A (cx D dA A W'.1 W'.2.1 W'.2.2 ad' ((q, .inl (dA 7, 1, .inr (.inl f'))) :: xR dA ρ' ar)) (cells + 1 + 0 + 0) (slots + 6 + 0 + 0) Q 1787 [(6, .int a), (5, .int r5), (4, .int (nI (7 * t))), (3, .ref q), (2, .ref (ar 40)), (1, .ref (ad' 11 0)), (0, .ref b)] [] [] := by
    refine z_goto (tgt := 2319) X dL_law_1787 (by decide) ?_
    exact zz.forget (fun x hx => List.mem_cons_of_mem _ (List.mem_cons_of_mem _ hx)) (k W' ad' f' ρ' _ _ hRX.later ⟨by omega, by omega⟩)
  refine z_if_ne (tgt := 1787) X dL_law_1772 (by decide) (fun z => ?_) (fun _ => fin)
  refine z_aload_n X dL_law_1775 rfl rfl ?_
  refine z_iconst (v := 0) X dL_law_1776 (by decide) ?_
  refine c_laldX X 0 (o := a.toInt64) rfl (fun y => y.elim (fun y => absurd y (by decide)) (fun y => absurd y (by decide))) (hans z) dL_law_1777 ?_
  refine z_iload X dL_law_1778 rfl ?_
  refine z_i2l X dL_law_1780 ?_
  refine z_lcmp X dL_law_1781 ?_
  refine z_if_eq (tgt := 1787) X dL_law_1782 (by decide) (fun _ => fin) (fun y => absurd (lg_cmp_self _) y)
-- stateOf
set_option maxRecDepth 100000 in
set_option maxHeartbeats 8000000 in
theorem lw_stateOf {p : Program} {l : Launch} {e : Env} {s : State} {m : MethodId} {args : Array Value} {below : List Frame} {meth : Method} {c : Code} {A : Nat → Prop} {Q : State → Prop} {D : va_G} {dA : Nat → ClassId} (X : zc p l s m args meth c cL_law RL D dA A) (hNc : zNc s) (hml : c.maxLocals = 7) {b Ls : Nat} {sc : Nat → Int32} (hX : va_X b Ls sc s s.heap) (hbl : b < s.heap.size) (hbA : ¬ A b) {q : Nat} {W : CW} {ad : Adr} {f : Nat → Int64} {ρ : Rho} {ar : Nat → Nat} {t cells slots : Nat} (hR : RelX W ρ t) (hL : 7 * t + 7 ≤ Ls) (hL2 : Ls ≤ 3584) (hI : lwI t (E26 ρ) cells slots)
    (k : ∀ (W' : CW) (ad' : Adr) (f' : Nat → Int64) (ρ' : Rho) (c' s' : Nat), RelX W' ρ' (t + 1) → lwI (t + 1) (E26 ρ') c' s' → zz p l e lwR s m args below meth c A (cx D dA A W'.1 W'.2.1 W'.2.2 ad' ((q, .inl (dA 7, 1, .inr (.inl f'))) :: xR dA ρ' ar)) c' s' Q 2319 [(4, .int (nI (7 * t))), (3, .ref q), (2, .ref (ar 40)), (1, .ref (ad' 11 0)), (0, .ref b)] [] []) : zz p l e lwR s m args below meth c A (cx D dA A W.1 W.2.1 W.2.2 ad ((q, .inl (dA 7, 1, .inr (.inl f))) :: xR dA ρ ar)) cells slots Q 1803 [(4, .int (nI (7 * t))), (3, .ref q), (2, .ref (ar 40)), (1, .ref (ad 11 0)), (0, .ref b)] [] [] := by
  obtain ⟨hI1, hI2⟩ := hI
  have h80 := @E26_le ρ
  obtain ⟨nw, hRel⟩ := hR
  have h11 : 0 < W.2.2 11 := by rw [hRel.r3.1.1]; decide
  obtain ⟨o, ρ', a, W', f', r5, hfc, hcd, hw, hfr, h39, hans, hRX, hE⟩ := OKQ.use (f := f) (f_stateOf hRel (sc (7 * t + 1)))
  have h81 := @E26_le ρ'
  refine z_aload_n X dL_law_1803 rfl rfl ?_
  refine z_aload_n X dL_law_1804 rfl rfl ?_
  refine z_iload X dL_law_1805 rfl ?_
  refine z_iconst (v := nI 1) X dL_law_1807 (by decide) ?_
  refine z_iadd X dL_law_1808 ?_
  rw [(nI_arg (j := 1) hL hL2 (by decide)).1]
  refine z_sld X hX hbl hbA (nI_arg hL hL2 (by decide)).2 dL_law_1809 ?_
  rw [nI_clamp (by omega)]
  refine z_aload_n X dL_law_1810 rfl rfl ?_
  refine z_callWi (As := [.ref (ad 11 0), .int (sc (7 * t + 1)), .ref q]) (rest := []) (nA := 3) (mc := 1) (ms := 6) (rm := ({ frames := 220, cells := 1, slots := 6, locals := 2200 } : Room)) (S := CW × (Nat → Int64) × Adr) (post := fun r u => wQ W.1 W.2.1 W.2.2 f cd1 o = (u.1, u.2.1, r) ∧ axt W.2.2 ad u.2.2 ∧ ∀ k, W.2.2 k ≤ u.1.2.2 k) (G1 := fun u => cx D dA A u.1.1 u.1.2.1 u.1.2.2 u.2.2 ((q, .inl (dA 7, 1, .inr (.inl u.2.1))) :: xR dA ρ ar)) X hNc (cw_stateOf l X.2.2.2.2.2.2.2.2 X.2.2.2.2.2.2.1 h11 hcd hfc) g_1177 g_1178 g_0 g_1179 hd_yL_stateOf.2 ⟨rfl, rfl, Nat.le_of_ble_eq_true rfl, Nat.le_of_ble_eq_true rfl⟩ rfl rfl (Nat.le_of_ble_eq_true rfl) dL_law_1811 ⟨by show _ ≤ 601024; omega, by show _ ≤ 7293034; omega⟩ (fun r u hu => ?_)
  obtain ⟨W2, f2, ad'⟩ := u
  obtain ⟨hu1, hax, hN⟩ := hu
  have e1 := hw.symm.trans hu1
  simp only [Prod.mk.injEq] at e1
  obtain ⟨rfl, rfl, rfl⟩ := e1
  have ha1 : ad' 11 0 = ad 11 0 := hax 11 0 (ex_k (by decide) h11) (by decide)
  rw [← ha1]
  have h11' : 0 < W'.2.2 11 := Nat.lt_of_lt_of_le h11 (hN 11)
  refine z_istore X dL_law_1814 (by rw [hml]; decide) rfl rfl ?_
  refine z_aload_n X dL_law_1816 rfl rfl ?_
  refine z_aload_n X dL_law_1817 rfl rfl ?_
  refine z_iload X dL_law_1818 rfl ?_
  refine z_iconst (v := nI 1) X dL_law_1820 (by decide) ?_
  refine z_iadd X dL_law_1821 ?_
  rw [(nI_arg (j := 1) hL hL2 (by decide)).1]
  refine z_sld X hX hbl hbA (nI_arg hL hL2 (by decide)).2 dL_law_1822 ?_
  rw [nI_clamp (by omega)]
  refine z_callVi (As := [.int (sc (7 * t + 1))]) (rest := []) (nA := 1) (mc := 0) (ms := 0) (rm := ({ frames := 80, cells := 0, slots := 0, locals := 800 } : Room)) (r0 := a) (pu := fun (_ : Unit) => True) (G1 := fun _ => cx D dA A W'.1 W'.2.1 W'.2.2 ad' ((q, .inl (dA 7, 1, .inr (.inl f'))) :: xR dA ρ' ar)) X (met_ref (xs := [(q, .inl (dA 7, 1, .inr (.inl f')))]) X.2.2.2.2.2.2.1 (fun A' n' hA' => cr_stateOf l X.2.2.2.2.2.2.2.2 hA' hfr)) g_1655 g_1656 g_1657 g_15 g_1658 hd_yX12_stateOf ⟨rfl, rfl, Nat.le_of_ble_eq_true rfl, Nat.le_of_ble_eq_true rfl⟩ rfl (fun _ hG => cx_recvX X (j := 1) (ci := 15) rfl rfl hG) rfl (Nat.le_of_ble_eq_true rfl) dL_law_1823 ⟨by show _ ≤ 601024; omega, by show _ ≤ 7293034; omega⟩ (fun _ _ => ?_)
  refine z_istore X dL_law_1826 (by rw [hml]; decide) rfl rfl ?_
  refine z_aload_n X dL_law_1828 rfl rfl ?_
  refine z_callVi (As := []) (rest := []) (nA := 0) (mc := 0) (ms := 0) (rm := ({ frames := 20, cells := 0, slots := 0, locals := 200 } : Room)) (r0 := ρ' 39 0) (pu := fun (_ : Unit) => True) (G1 := fun _ => cx D dA A W'.1 W'.2.1 W'.2.2 ad' ((q, .inl (dA 7, 1, .inr (.inl f'))) :: xR dA ρ' ar)) X (met_ref (xs := [(q, .inl (dA 7, 1, .inr (.inl f')))]) X.2.2.2.2.2.2.1 (fun A' n' hA' => cr_thrown l X.2.2.2.2.2.2.2.2 hA' (show fr_thrown ρ' = some (ρ' 39 0) from rfl))) g_1428 g_1429 g_1430 g_15 g_1431 hd_yX12_thrown ⟨rfl, rfl, Nat.le_of_ble_eq_true rfl, Nat.le_of_ble_eq_true rfl⟩ rfl (fun _ hG => cx_recvX X (j := 1) (ci := 15) rfl rfl hG) rfl (Nat.le_of_ble_eq_true rfl) dL_law_1829 ⟨by show _ ≤ 601024; omega, by show _ ≤ 7293034; omega⟩ (fun _ _ => ?_)
  refine z_iload X dL_law_1832 rfl ?_
  refine z_icmp_eq (tgt := 1839) X dL_law_1834 (by decide) (fun _ => ?_) (fun z => absurd h39 z)
  refine z_iload X dL_law_1839 rfl ?_
  have fin : zz p l e lwR s m args below meth c A (cx D dA A W'.1 W'.2.1 W'.2.2 ad' ((q, .inl (dA 7, 1, .inr (.inl f'))) :: xR dA ρ' ar)) (cells + 1 + 0 + 0) (slots + 6 + 0 + 0) Q 1856 [(6, .int a), (5, .int r5), (4, .int (nI (7 * t))), (3, .ref q), (2, .ref (ar 40)), (1, .ref (ad' 11 0)), (0, .ref b)] [] [] := by
    refine z_goto (tgt := 2319) X dL_law_1856 (by decide) ?_
    exact zz.forget (fun x hx => List.mem_cons_of_mem _ (List.mem_cons_of_mem _ hx)) (k W' ad' f' ρ' _ _ hRX.later ⟨by omega, by omega⟩)
  refine z_if_ne (tgt := 1856) X dL_law_1841 (by decide) (fun z => ?_) (fun _ => fin)
  refine z_aload_n X dL_law_1844 rfl rfl ?_
  refine z_iconst (v := 0) X dL_law_1845 (by decide) ?_
  refine c_laldX X 0 (o := a.toInt64) rfl (fun y => y.elim (fun y => absurd y (by decide)) (fun y => absurd y (by decide))) (hans z) dL_law_1846 ?_
  refine z_iload X dL_law_1847 rfl ?_
  refine z_i2l X dL_law_1849 ?_
  refine z_lcmp X dL_law_1850 ?_
  refine z_if_eq (tgt := 1856) X dL_law_1851 (by decide) (fun _ => fin) (fun y => absurd (lg_cmp_self _) y)
-- seconds
set_option maxRecDepth 100000 in
set_option maxHeartbeats 8000000 in
theorem lw_seconds {p : Program} {l : Launch} {e : Env} {s : State} {m : MethodId} {args : Array Value} {below : List Frame} {meth : Method} {c : Code} {A : Nat → Prop} {Q : State → Prop} {D : va_G} {dA : Nat → ClassId} (X : zc p l s m args meth c cL_law RL D dA A) (hNc : zNc s) (hml : c.maxLocals = 7) {b Ls : Nat} {sc : Nat → Int32} (hX : va_X b Ls sc s s.heap) (hbl : b < s.heap.size) (hbA : ¬ A b) {q : Nat} {W : CW} {ad : Adr} {f : Nat → Int64} {ρ : Rho} {ar : Nat → Nat} {t cells slots : Nat} (hR : RelX W ρ t) (hL : 7 * t + 7 ≤ Ls) (hL2 : Ls ≤ 3584) (hI : lwI t (E26 ρ) cells slots)
    (k : ∀ (W' : CW) (ad' : Adr) (f' : Nat → Int64) (ρ' : Rho) (c' s' : Nat), RelX W' ρ' (t + 1) → lwI (t + 1) (E26 ρ') c' s' → zz p l e lwR s m args below meth c A (cx D dA A W'.1 W'.2.1 W'.2.2 ad' ((q, .inl (dA 7, 1, .inr (.inl f'))) :: xR dA ρ' ar)) c' s' Q 2319 [(4, .int (nI (7 * t))), (3, .ref q), (2, .ref (ar 40)), (1, .ref (ad' 11 0)), (0, .ref b)] [] []) : zz p l e lwR s m args below meth c A (cx D dA A W.1 W.2.1 W.2.2 ad ((q, .inl (dA 7, 1, .inr (.inl f))) :: xR dA ρ ar)) cells slots Q 1859 [(4, .int (nI (7 * t))), (3, .ref q), (2, .ref (ar 40)), (1, .ref (ad 11 0)), (0, .ref b)] [] [] := by
  obtain ⟨hI1, hI2⟩ := hI
  have h80 := @E26_le ρ
  obtain ⟨nw, hRel⟩ := hR
  have h11 : 0 < W.2.2 11 := by rw [hRel.r3.1.1]; decide
  obtain ⟨o, ρ', a, W', f', r5, hfc, hcd, hw, hfr, h39, hans, hRX, hE⟩ := OKQ.use (f := f) (f_seconds hRel (sc (7 * t + 1)))
  have h81 := @E26_le ρ'
  refine z_aload_n X dL_law_1859 rfl rfl ?_
  refine z_aload_n X dL_law_1860 rfl rfl ?_
  refine z_iload X dL_law_1861 rfl ?_
  refine z_iconst (v := nI 1) X dL_law_1863 (by decide) ?_
  refine z_iadd X dL_law_1864 ?_
  rw [(nI_arg (j := 1) hL hL2 (by decide)).1]
  refine z_sld X hX hbl hbA (nI_arg hL hL2 (by decide)).2 dL_law_1865 ?_
  rw [nI_clamp (by omega)]
  refine z_aload_n X dL_law_1866 rfl rfl ?_
  refine z_callWi (As := [.ref (ad 11 0), .int (sc (7 * t + 1)), .ref q]) (rest := []) (nA := 3) (mc := 1) (ms := 6) (rm := ({ frames := 220, cells := 1, slots := 6, locals := 2200 } : Room)) (S := CW × (Nat → Int64) × Adr) (post := fun r u => wQ W.1 W.2.1 W.2.2 f cd1 o = (u.1, u.2.1, r) ∧ axt W.2.2 ad u.2.2 ∧ ∀ k, W.2.2 k ≤ u.1.2.2 k) (G1 := fun u => cx D dA A u.1.1 u.1.2.1 u.1.2.2 u.2.2 ((q, .inl (dA 7, 1, .inr (.inl u.2.1))) :: xR dA ρ ar)) X hNc (cw_seconds l X.2.2.2.2.2.2.2.2 X.2.2.2.2.2.2.1 h11 hcd hfc) g_1189 g_1190 g_0 g_1191 hd_yL_seconds.2 ⟨rfl, rfl, Nat.le_of_ble_eq_true rfl, Nat.le_of_ble_eq_true rfl⟩ rfl rfl (Nat.le_of_ble_eq_true rfl) dL_law_1867 ⟨by show _ ≤ 601024; omega, by show _ ≤ 7293034; omega⟩ (fun r u hu => ?_)
  obtain ⟨W2, f2, ad'⟩ := u
  obtain ⟨hu1, hax, hN⟩ := hu
  have e1 := hw.symm.trans hu1
  simp only [Prod.mk.injEq] at e1
  obtain ⟨rfl, rfl, rfl⟩ := e1
  have ha1 : ad' 11 0 = ad 11 0 := hax 11 0 (ex_k (by decide) h11) (by decide)
  rw [← ha1]
  have h11' : 0 < W'.2.2 11 := Nat.lt_of_lt_of_le h11 (hN 11)
  refine z_istore X dL_law_1870 (by rw [hml]; decide) rfl rfl ?_
  refine z_aload_n X dL_law_1872 rfl rfl ?_
  refine z_aload_n X dL_law_1873 rfl rfl ?_
  refine z_iload X dL_law_1874 rfl ?_
  refine z_iconst (v := nI 1) X dL_law_1876 (by decide) ?_
  refine z_iadd X dL_law_1877 ?_
  rw [(nI_arg (j := 1) hL hL2 (by decide)).1]
  refine z_sld X hX hbl hbA (nI_arg hL hL2 (by decide)).2 dL_law_1878 ?_
  rw [nI_clamp (by omega)]
  refine z_callVi (As := [.int (sc (7 * t + 1))]) (rest := []) (nA := 1) (mc := 0) (ms := 0) (rm := ({ frames := 80, cells := 0, slots := 0, locals := 800 } : Room)) (r0 := a) (pu := fun (_ : Unit) => True) (G1 := fun _ => cx D dA A W'.1 W'.2.1 W'.2.2 ad' ((q, .inl (dA 7, 1, .inr (.inl f'))) :: xR dA ρ' ar)) X (met_ref (xs := [(q, .inl (dA 7, 1, .inr (.inl f')))]) X.2.2.2.2.2.2.1 (fun A' n' hA' => cr_seconds l X.2.2.2.2.2.2.2.2 hA' hfr)) g_1667 g_1668 g_1669 g_15 g_1670 hd_yX12_seconds ⟨rfl, rfl, Nat.le_of_ble_eq_true rfl, Nat.le_of_ble_eq_true rfl⟩ rfl (fun _ hG => cx_recvX X (j := 1) (ci := 15) rfl rfl hG) rfl (Nat.le_of_ble_eq_true rfl) dL_law_1879 ⟨by show _ ≤ 601024; omega, by show _ ≤ 7293034; omega⟩ (fun _ _ => ?_)
  refine z_istore X dL_law_1882 (by rw [hml]; decide) rfl rfl ?_
  refine z_aload_n X dL_law_1884 rfl rfl ?_
  refine z_callVi (As := []) (rest := []) (nA := 0) (mc := 0) (ms := 0) (rm := ({ frames := 20, cells := 0, slots := 0, locals := 200 } : Room)) (r0 := ρ' 39 0) (pu := fun (_ : Unit) => True) (G1 := fun _ => cx D dA A W'.1 W'.2.1 W'.2.2 ad' ((q, .inl (dA 7, 1, .inr (.inl f'))) :: xR dA ρ' ar)) X (met_ref (xs := [(q, .inl (dA 7, 1, .inr (.inl f')))]) X.2.2.2.2.2.2.1 (fun A' n' hA' => cr_thrown l X.2.2.2.2.2.2.2.2 hA' (show fr_thrown ρ' = some (ρ' 39 0) from rfl))) g_1428 g_1429 g_1430 g_15 g_1431 hd_yX12_thrown ⟨rfl, rfl, Nat.le_of_ble_eq_true rfl, Nat.le_of_ble_eq_true rfl⟩ rfl (fun _ hG => cx_recvX X (j := 1) (ci := 15) rfl rfl hG) rfl (Nat.le_of_ble_eq_true rfl) dL_law_1885 ⟨by show _ ≤ 601024; omega, by show _ ≤ 7293034; omega⟩ (fun _ _ => ?_)
  refine z_iload X dL_law_1888 rfl ?_
  refine z_icmp_eq (tgt := 1895) X dL_law_1890 (by decide) (fun _ => ?_) (fun z => absurd h39 z)
  refine z_iload X dL_law_1895 rfl ?_
  have fin : zz p l e lwR s m args below meth c A (cx D dA A W'.1 W'.2.1 W'.2.2 ad' ((q, .inl (dA 7, 1, .inr (.inl f'))) :: xR dA ρ' ar)) (cells + 1 + 0 + 0) (slots + 6 + 0 + 0) Q 1912 [(6, .int a), (5, .int r5), (4, .int (nI (7 * t))), (3, .ref q), (2, .ref (ar 40)), (1, .ref (ad' 11 0)), (0, .ref b)] [] [] := by
    refine z_goto (tgt := 2319) X dL_law_1912 (by decide) ?_
    exact zz.forget (fun x hx => List.mem_cons_of_mem _ (List.mem_cons_of_mem _ hx)) (k W' ad' f' ρ' _ _ hRX.later ⟨by omega, by omega⟩)
  refine z_if_ne (tgt := 1912) X dL_law_1897 (by decide) (fun z => ?_) (fun _ => fin)
  refine z_aload_n X dL_law_1900 rfl rfl ?_
  refine z_iconst (v := 0) X dL_law_1901 (by decide) ?_
  refine c_laldX X 0 (o := a.toInt64) rfl (fun y => y.elim (fun y => absurd y (by decide)) (fun y => absurd y (by decide))) (hans z) dL_law_1902 ?_
  refine z_iload X dL_law_1903 rfl ?_
  refine z_i2l X dL_law_1905 ?_
  refine z_lcmp X dL_law_1906 ?_
  refine z_if_eq (tgt := 1912) X dL_law_1907 (by decide) (fun _ => fin) (fun y => absurd (lg_cmp_self _) y)
-- charged
set_option maxRecDepth 100000 in
set_option maxHeartbeats 8000000 in
theorem lw_charged {p : Program} {l : Launch} {e : Env} {s : State} {m : MethodId} {args : Array Value} {below : List Frame} {meth : Method} {c : Code} {A : Nat → Prop} {Q : State → Prop} {D : va_G} {dA : Nat → ClassId} (X : zc p l s m args meth c cL_law RL D dA A) (hNc : zNc s) (hml : c.maxLocals = 7) {b Ls : Nat} {sc : Nat → Int32} (hX : va_X b Ls sc s s.heap) (hbl : b < s.heap.size) (hbA : ¬ A b) {q : Nat} {W : CW} {ad : Adr} {f : Nat → Int64} {ρ : Rho} {ar : Nat → Nat} {t cells slots : Nat} (hR : RelX W ρ t) (hL : 7 * t + 7 ≤ Ls) (hL2 : Ls ≤ 3584) (hI : lwI t (E26 ρ) cells slots)
    (k : ∀ (W' : CW) (ad' : Adr) (f' : Nat → Int64) (ρ' : Rho) (c' s' : Nat), RelX W' ρ' (t + 1) → lwI (t + 1) (E26 ρ') c' s' → zz p l e lwR s m args below meth c A (cx D dA A W'.1 W'.2.1 W'.2.2 ad' ((q, .inl (dA 7, 1, .inr (.inl f'))) :: xR dA ρ' ar)) c' s' Q 2319 [(4, .int (nI (7 * t))), (3, .ref q), (2, .ref (ar 40)), (1, .ref (ad' 11 0)), (0, .ref b)] [] []) : zz p l e lwR s m args below meth c A (cx D dA A W.1 W.2.1 W.2.2 ad ((q, .inl (dA 7, 1, .inr (.inl f))) :: xR dA ρ ar)) cells slots Q 1915 [(4, .int (nI (7 * t))), (3, .ref q), (2, .ref (ar 40)), (1, .ref (ad 11 0)), (0, .ref b)] [] [] := by
  obtain ⟨hI1, hI2⟩ := hI
  have h80 := @E26_le ρ
  obtain ⟨nw, hRel⟩ := hR
  have h11 : 0 < W.2.2 11 := by rw [hRel.r3.1.1]; decide
  obtain ⟨o, ρ', a, W', f', r5, hfc, hcd, hw, hfr, h39, hans, hRX, hE⟩ := OKQ.use (f := f) (f_charged hRel (sc (7 * t + 1)))
  have h81 := @E26_le ρ'
  refine z_aload_n X dL_law_1915 rfl rfl ?_
  refine z_aload_n X dL_law_1916 rfl rfl ?_
  refine z_iload X dL_law_1917 rfl ?_
  refine z_iconst (v := nI 1) X dL_law_1919 (by decide) ?_
  refine z_iadd X dL_law_1920 ?_
  rw [(nI_arg (j := 1) hL hL2 (by decide)).1]
  refine z_sld X hX hbl hbA (nI_arg hL hL2 (by decide)).2 dL_law_1921 ?_
  rw [nI_clamp (by omega)]
  refine z_aload_n X dL_law_1922 rfl rfl ?_
  refine z_callWi (As := [.ref (ad 11 0), .int (sc (7 * t + 1)), .ref q]) (rest := []) (nA := 3) (mc := 1) (ms := 6) (rm := ({ frames := 220, cells := 1, slots := 6, locals := 2200 } : Room)) (S := CW × (Nat → Int64) × Adr) (post := fun r u => wQ W.1 W.2.1 W.2.2 f cd1 o = (u.1, u.2.1, r) ∧ axt W.2.2 ad u.2.2 ∧ ∀ k, W.2.2 k ≤ u.1.2.2 k) (G1 := fun u => cx D dA A u.1.1 u.1.2.1 u.1.2.2 u.2.2 ((q, .inl (dA 7, 1, .inr (.inl u.2.1))) :: xR dA ρ ar)) X hNc (cw_charged l X.2.2.2.2.2.2.2.2 X.2.2.2.2.2.2.1 h11 hcd hfc) g_1196 g_1197 g_0 g_1198 hd_yL_charged.2 ⟨rfl, rfl, Nat.le_of_ble_eq_true rfl, Nat.le_of_ble_eq_true rfl⟩ rfl rfl (Nat.le_of_ble_eq_true rfl) dL_law_1923 ⟨by show _ ≤ 601024; omega, by show _ ≤ 7293034; omega⟩ (fun r u hu => ?_)
  obtain ⟨W2, f2, ad'⟩ := u
  obtain ⟨hu1, hax, hN⟩ := hu
  have e1 := hw.symm.trans hu1
  simp only [Prod.mk.injEq] at e1
  obtain ⟨rfl, rfl, rfl⟩ := e1
  have ha1 : ad' 11 0 = ad 11 0 := hax 11 0 (ex_k (by decide) h11) (by decide)
  rw [← ha1]
  have h11' : 0 < W'.2.2 11 := Nat.lt_of_lt_of_le h11 (hN 11)
  refine z_istore X dL_law_1926 (by rw [hml]; decide) rfl rfl ?_
  refine z_aload_n X dL_law_1928 rfl rfl ?_
  refine z_aload_n X dL_law_1929 rfl rfl ?_
  refine z_iload X dL_law_1930 rfl ?_
  refine z_iconst (v := nI 1) X dL_law_1932 (by decide) ?_
  refine z_iadd X dL_law_1933 ?_
  rw [(nI_arg (j := 1) hL hL2 (by decide)).1]
  refine z_sld X hX hbl hbA (nI_arg hL hL2 (by decide)).2 dL_law_1934 ?_
  rw [nI_clamp (by omega)]
  refine z_callVi (As := [.int (sc (7 * t + 1))]) (rest := []) (nA := 1) (mc := 0) (ms := 0) (rm := ({ frames := 80, cells := 0, slots := 0, locals := 800 } : Room)) (r0 := a) (pu := fun (_ : Unit) => True) (G1 := fun _ => cx D dA A W'.1 W'.2.1 W'.2.2 ad' ((q, .inl (dA 7, 1, .inr (.inl f'))) :: xR dA ρ' ar)) X (met_ref (xs := [(q, .inl (dA 7, 1, .inr (.inl f')))]) X.2.2.2.2.2.2.1 (fun A' n' hA' => cr_charged l X.2.2.2.2.2.2.2.2 hA' hfr)) g_1671 g_1672 g_1673 g_15 g_1674 hd_yX12_charged ⟨rfl, rfl, Nat.le_of_ble_eq_true rfl, Nat.le_of_ble_eq_true rfl⟩ rfl (fun _ hG => cx_recvX X (j := 1) (ci := 15) rfl rfl hG) rfl (Nat.le_of_ble_eq_true rfl) dL_law_1935 ⟨by show _ ≤ 601024; omega, by show _ ≤ 7293034; omega⟩ (fun _ _ => ?_)
  refine z_istore X dL_law_1938 (by rw [hml]; decide) rfl rfl ?_
  refine z_aload_n X dL_law_1940 rfl rfl ?_
  refine z_callVi (As := []) (rest := []) (nA := 0) (mc := 0) (ms := 0) (rm := ({ frames := 20, cells := 0, slots := 0, locals := 200 } : Room)) (r0 := ρ' 39 0) (pu := fun (_ : Unit) => True) (G1 := fun _ => cx D dA A W'.1 W'.2.1 W'.2.2 ad' ((q, .inl (dA 7, 1, .inr (.inl f'))) :: xR dA ρ' ar)) X (met_ref (xs := [(q, .inl (dA 7, 1, .inr (.inl f')))]) X.2.2.2.2.2.2.1 (fun A' n' hA' => cr_thrown l X.2.2.2.2.2.2.2.2 hA' (show fr_thrown ρ' = some (ρ' 39 0) from rfl))) g_1428 g_1429 g_1430 g_15 g_1431 hd_yX12_thrown ⟨rfl, rfl, Nat.le_of_ble_eq_true rfl, Nat.le_of_ble_eq_true rfl⟩ rfl (fun _ hG => cx_recvX X (j := 1) (ci := 15) rfl rfl hG) rfl (Nat.le_of_ble_eq_true rfl) dL_law_1941 ⟨by show _ ≤ 601024; omega, by show _ ≤ 7293034; omega⟩ (fun _ _ => ?_)
  refine z_iload X dL_law_1944 rfl ?_
  refine z_icmp_eq (tgt := 1951) X dL_law_1946 (by decide) (fun _ => ?_) (fun z => absurd h39 z)
  refine z_iload X dL_law_1951 rfl ?_
  have fin : zz p l e lwR s m args below meth c A (cx D dA A W'.1 W'.2.1 W'.2.2 ad' ((q, .inl (dA 7, 1, .inr (.inl f'))) :: xR dA ρ' ar)) (cells + 1 + 0 + 0) (slots + 6 + 0 + 0) Q 1968 [(6, .int a), (5, .int r5), (4, .int (nI (7 * t))), (3, .ref q), (2, .ref (ar 40)), (1, .ref (ad' 11 0)), (0, .ref b)] [] [] := by
    refine z_goto (tgt := 2319) X dL_law_1968 (by decide) ?_
    exact zz.forget (fun x hx => List.mem_cons_of_mem _ (List.mem_cons_of_mem _ hx)) (k W' ad' f' ρ' _ _ hRX.later ⟨by omega, by omega⟩)
  refine z_if_ne (tgt := 1968) X dL_law_1953 (by decide) (fun z => ?_) (fun _ => fin)
  refine z_aload_n X dL_law_1956 rfl rfl ?_
  refine z_iconst (v := 0) X dL_law_1957 (by decide) ?_
  refine c_laldX X 0 (o := a.toInt64) rfl (fun y => y.elim (fun y => absurd y (by decide)) (fun y => absurd y (by decide))) (hans z) dL_law_1958 ?_
  refine z_iload X dL_law_1959 rfl ?_
  refine z_i2l X dL_law_1961 ?_
  refine z_lcmp X dL_law_1962 ?_
  refine z_if_eq (tgt := 1968) X dL_law_1963 (by decide) (fun _ => fin) (fun y => absurd (lg_cmp_self _) y)
-- covered
set_option maxRecDepth 100000 in
set_option maxHeartbeats 8000000 in
theorem lw_covered {p : Program} {l : Launch} {e : Env} {s : State} {m : MethodId} {args : Array Value} {below : List Frame} {meth : Method} {c : Code} {A : Nat → Prop} {Q : State → Prop} {D : va_G} {dA : Nat → ClassId} (X : zc p l s m args meth c cL_law RL D dA A) (hNc : zNc s) (hml : c.maxLocals = 7) {b Ls : Nat} {sc : Nat → Int32} (hX : va_X b Ls sc s s.heap) (hbl : b < s.heap.size) (hbA : ¬ A b) {q : Nat} {W : CW} {ad : Adr} {f : Nat → Int64} {ρ : Rho} {ar : Nat → Nat} {t cells slots : Nat} (hR : RelX W ρ t) (hL : 7 * t + 7 ≤ Ls) (hL2 : Ls ≤ 3584) (hI : lwI t (E26 ρ) cells slots)
    (k : ∀ (W' : CW) (ad' : Adr) (f' : Nat → Int64) (ρ' : Rho) (c' s' : Nat), RelX W' ρ' (t + 1) → lwI (t + 1) (E26 ρ') c' s' → zz p l e lwR s m args below meth c A (cx D dA A W'.1 W'.2.1 W'.2.2 ad' ((q, .inl (dA 7, 1, .inr (.inl f'))) :: xR dA ρ' ar)) c' s' Q 2319 [(4, .int (nI (7 * t))), (3, .ref q), (2, .ref (ar 40)), (1, .ref (ad' 11 0)), (0, .ref b)] [] []) : zz p l e lwR s m args below meth c A (cx D dA A W.1 W.2.1 W.2.2 ad ((q, .inl (dA 7, 1, .inr (.inl f))) :: xR dA ρ ar)) cells slots Q 1971 [(4, .int (nI (7 * t))), (3, .ref q), (2, .ref (ar 40)), (1, .ref (ad 11 0)), (0, .ref b)] [] [] := by
  obtain ⟨hI1, hI2⟩ := hI
  have h80 := @E26_le ρ
  obtain ⟨nw, hRel⟩ := hR
  have h11 : 0 < W.2.2 11 := by rw [hRel.r3.1.1]; decide
  obtain ⟨o, ρ', a, W', f', r5, hfc, hcd, hw, hfr, h39, hans, hRX, hE⟩ := OKQ.use (f := f) (f_covered hRel (sc (7 * t + 1)))
  have h81 := @E26_le ρ'
  refine z_aload_n X dL_law_1971 rfl rfl ?_
  refine z_aload_n X dL_law_1972 rfl rfl ?_
  refine z_iload X dL_law_1973 rfl ?_
  refine z_iconst (v := nI 1) X dL_law_1975 (by decide) ?_
  refine z_iadd X dL_law_1976 ?_
  rw [(nI_arg (j := 1) hL hL2 (by decide)).1]
  refine z_sld X hX hbl hbA (nI_arg hL hL2 (by decide)).2 dL_law_1977 ?_
  rw [nI_clamp (by omega)]
  refine z_aload_n X dL_law_1978 rfl rfl ?_
  refine z_callWi (As := [.ref (ad 11 0), .int (sc (7 * t + 1)), .ref q]) (rest := []) (nA := 3) (mc := 1) (ms := 6) (rm := ({ frames := 220, cells := 1, slots := 6, locals := 2200 } : Room)) (S := CW × (Nat → Int64) × Adr) (post := fun r u => wQ W.1 W.2.1 W.2.2 f cd1 o = (u.1, u.2.1, r) ∧ axt W.2.2 ad u.2.2 ∧ ∀ k, W.2.2 k ≤ u.1.2.2 k) (G1 := fun u => cx D dA A u.1.1 u.1.2.1 u.1.2.2 u.2.2 ((q, .inl (dA 7, 1, .inr (.inl u.2.1))) :: xR dA ρ ar)) X hNc (cw_covered l X.2.2.2.2.2.2.2.2 X.2.2.2.2.2.2.1 h11 hcd hfc) g_1203 g_1204 g_0 g_1205 hd_yL_covered.2 ⟨rfl, rfl, Nat.le_of_ble_eq_true rfl, Nat.le_of_ble_eq_true rfl⟩ rfl rfl (Nat.le_of_ble_eq_true rfl) dL_law_1979 ⟨by show _ ≤ 601024; omega, by show _ ≤ 7293034; omega⟩ (fun r u hu => ?_)
  obtain ⟨W2, f2, ad'⟩ := u
  obtain ⟨hu1, hax, hN⟩ := hu
  have e1 := hw.symm.trans hu1
  simp only [Prod.mk.injEq] at e1
  obtain ⟨rfl, rfl, rfl⟩ := e1
  have ha1 : ad' 11 0 = ad 11 0 := hax 11 0 (ex_k (by decide) h11) (by decide)
  rw [← ha1]
  have h11' : 0 < W'.2.2 11 := Nat.lt_of_lt_of_le h11 (hN 11)
  refine z_istore X dL_law_1982 (by rw [hml]; decide) rfl rfl ?_
  refine z_aload_n X dL_law_1984 rfl rfl ?_
  refine z_aload_n X dL_law_1985 rfl rfl ?_
  refine z_iload X dL_law_1986 rfl ?_
  refine z_iconst (v := nI 1) X dL_law_1988 (by decide) ?_
  refine z_iadd X dL_law_1989 ?_
  rw [(nI_arg (j := 1) hL hL2 (by decide)).1]
  refine z_sld X hX hbl hbA (nI_arg hL hL2 (by decide)).2 dL_law_1990 ?_
  rw [nI_clamp (by omega)]
  refine z_callVi (As := [.int (sc (7 * t + 1))]) (rest := []) (nA := 1) (mc := 0) (ms := 0) (rm := ({ frames := 80, cells := 0, slots := 0, locals := 800 } : Room)) (r0 := a) (pu := fun (_ : Unit) => True) (G1 := fun _ => cx D dA A W'.1 W'.2.1 W'.2.2 ad' ((q, .inl (dA 7, 1, .inr (.inl f'))) :: xR dA ρ' ar)) X (met_ref (xs := [(q, .inl (dA 7, 1, .inr (.inl f')))]) X.2.2.2.2.2.2.1 (fun A' n' hA' => cr_covered l X.2.2.2.2.2.2.2.2 hA' hfr)) g_1675 g_1676 g_1677 g_15 g_1678 hd_yX12_covered ⟨rfl, rfl, Nat.le_of_ble_eq_true rfl, Nat.le_of_ble_eq_true rfl⟩ rfl (fun _ hG => cx_recvX X (j := 1) (ci := 15) rfl rfl hG) rfl (Nat.le_of_ble_eq_true rfl) dL_law_1991 ⟨by show _ ≤ 601024; omega, by show _ ≤ 7293034; omega⟩ (fun _ _ => ?_)
  refine z_istore X dL_law_1994 (by rw [hml]; decide) rfl rfl ?_
  refine z_aload_n X dL_law_1996 rfl rfl ?_
  refine z_callVi (As := []) (rest := []) (nA := 0) (mc := 0) (ms := 0) (rm := ({ frames := 20, cells := 0, slots := 0, locals := 200 } : Room)) (r0 := ρ' 39 0) (pu := fun (_ : Unit) => True) (G1 := fun _ => cx D dA A W'.1 W'.2.1 W'.2.2 ad' ((q, .inl (dA 7, 1, .inr (.inl f'))) :: xR dA ρ' ar)) X (met_ref (xs := [(q, .inl (dA 7, 1, .inr (.inl f')))]) X.2.2.2.2.2.2.1 (fun A' n' hA' => cr_thrown l X.2.2.2.2.2.2.2.2 hA' (show fr_thrown ρ' = some (ρ' 39 0) from rfl))) g_1428 g_1429 g_1430 g_15 g_1431 hd_yX12_thrown ⟨rfl, rfl, Nat.le_of_ble_eq_true rfl, Nat.le_of_ble_eq_true rfl⟩ rfl (fun _ hG => cx_recvX X (j := 1) (ci := 15) rfl rfl hG) rfl (Nat.le_of_ble_eq_true rfl) dL_law_1997 ⟨by show _ ≤ 601024; omega, by show _ ≤ 7293034; omega⟩ (fun _ _ => ?_)
  refine z_iload X dL_law_2000 rfl ?_
  refine z_icmp_eq (tgt := 2007) X dL_law_2002 (by decide) (fun _ => ?_) (fun z => absurd h39 z)
  refine z_iload X dL_law_2007 rfl ?_
  have fin : zz p l e lwR s m args below meth c A (cx D dA A W'.1 W'.2.1 W'.2.2 ad' ((q, .inl (dA 7, 1, .inr (.inl f'))) :: xR dA ρ' ar)) (cells + 1 + 0 + 0) (slots + 6 + 0 + 0) Q 2024 [(6, .int a), (5, .int r5), (4, .int (nI (7 * t))), (3, .ref q), (2, .ref (ar 40)), (1, .ref (ad' 11 0)), (0, .ref b)] [] [] := by
    refine z_goto (tgt := 2319) X dL_law_2024 (by decide) ?_
    exact zz.forget (fun x hx => List.mem_cons_of_mem _ (List.mem_cons_of_mem _ hx)) (k W' ad' f' ρ' _ _ hRX.later ⟨by omega, by omega⟩)
  refine z_if_ne (tgt := 2024) X dL_law_2009 (by decide) (fun z => ?_) (fun _ => fin)
  refine z_aload_n X dL_law_2012 rfl rfl ?_
  refine z_iconst (v := 0) X dL_law_2013 (by decide) ?_
  refine c_laldX X 0 (o := a.toInt64) rfl (fun y => y.elim (fun y => absurd y (by decide)) (fun y => absurd y (by decide))) (hans z) dL_law_2014 ?_
  refine z_iload X dL_law_2015 rfl ?_
  refine z_i2l X dL_law_2017 ?_
  refine z_lcmp X dL_law_2018 ?_
  refine z_if_eq (tgt := 2024) X dL_law_2019 (by decide) (fun _ => fin) (fun y => absurd (lg_cmp_self _) y)
-- ratedByEvents
set_option maxRecDepth 100000 in
set_option maxHeartbeats 8000000 in
theorem lw_ratedByEvents {p : Program} {l : Launch} {e : Env} {s : State} {m : MethodId} {args : Array Value} {below : List Frame} {meth : Method} {c : Code} {A : Nat → Prop} {Q : State → Prop} {D : va_G} {dA : Nat → ClassId} (X : zc p l s m args meth c cL_law RL D dA A) (hNc : zNc s) (hml : c.maxLocals = 7) {b Ls : Nat} {sc : Nat → Int32} (hX : va_X b Ls sc s s.heap) (hbl : b < s.heap.size) (hbA : ¬ A b) {q : Nat} {W : CW} {ad : Adr} {f : Nat → Int64} {ρ : Rho} {ar : Nat → Nat} {t cells slots : Nat} (hR : RelX W ρ t) (hL : 7 * t + 7 ≤ Ls) (hL2 : Ls ≤ 3584) (hI : lwI t (E26 ρ) cells slots)
    (k : ∀ (W' : CW) (ad' : Adr) (f' : Nat → Int64) (ρ' : Rho) (c' s' : Nat), RelX W' ρ' (t + 1) → lwI (t + 1) (E26 ρ') c' s' → zz p l e lwR s m args below meth c A (cx D dA A W'.1 W'.2.1 W'.2.2 ad' ((q, .inl (dA 7, 1, .inr (.inl f'))) :: xR dA ρ' ar)) c' s' Q 2319 [(4, .int (nI (7 * t))), (3, .ref q), (2, .ref (ar 40)), (1, .ref (ad' 11 0)), (0, .ref b)] [] []) : zz p l e lwR s m args below meth c A (cx D dA A W.1 W.2.1 W.2.2 ad ((q, .inl (dA 7, 1, .inr (.inl f))) :: xR dA ρ ar)) cells slots Q 2027 [(4, .int (nI (7 * t))), (3, .ref q), (2, .ref (ar 40)), (1, .ref (ad 11 0)), (0, .ref b)] [] [] := by
  obtain ⟨hI1, hI2⟩ := hI
  have h80 := @E26_le ρ
  obtain ⟨nw, hRel⟩ := hR
  have h11 : 0 < W.2.2 11 := by rw [hRel.r3.1.1]; decide
  obtain ⟨o, ρ', a, W', f', r5, hfc, hcd, hw, hfr, h39, hans, hRX, hE⟩ := OKQ.use (f := f) (f_ratedByEvents hRel (by omega) (sc (7 * t + 1)))
  have h81 := @E26_le ρ'
  refine z_aload_n X dL_law_2027 rfl rfl ?_
  refine z_aload_n X dL_law_2028 rfl rfl ?_
  refine z_iload X dL_law_2029 rfl ?_
  refine z_iconst (v := nI 1) X dL_law_2031 (by decide) ?_
  refine z_iadd X dL_law_2032 ?_
  rw [(nI_arg (j := 1) hL hL2 (by decide)).1]
  refine z_sld X hX hbl hbA (nI_arg hL hL2 (by decide)).2 dL_law_2033 ?_
  rw [nI_clamp (by omega)]
  refine z_aload_n X dL_law_2034 rfl rfl ?_
  refine z_callWi (As := [.ref (ad 11 0), .int (sc (7 * t + 1)), .ref q]) (rest := []) (nA := 3) (mc := 1) (ms := 6) (rm := ({ frames := 240, cells := 1, slots := 6, locals := 2400 } : Room)) (S := CW × (Nat → Int64) × Adr) (post := fun r u => wQ W.1 W.2.1 W.2.2 f cd1 o = (u.1, u.2.1, r) ∧ axt W.2.2 ad u.2.2 ∧ ∀ k, W.2.2 k ≤ u.1.2.2 k) (G1 := fun u => cx D dA A u.1.1 u.1.2.1 u.1.2.2 u.2.2 ((q, .inl (dA 7, 1, .inr (.inl u.2.1))) :: xR dA ρ ar)) X hNc (cw_ratedByEvents l X.2.2.2.2.2.2.2.2 X.2.2.2.2.2.2.1 h11 hcd hfc) g_1210 g_1211 g_0 g_1212 hd_yL_ratedByEvents.2 ⟨rfl, rfl, Nat.le_of_ble_eq_true rfl, Nat.le_of_ble_eq_true rfl⟩ rfl rfl (Nat.le_of_ble_eq_true rfl) dL_law_2035 ⟨by show _ ≤ 601024; omega, by show _ ≤ 7293034; omega⟩ (fun r u hu => ?_)
  obtain ⟨W2, f2, ad'⟩ := u
  obtain ⟨hu1, hax, hN⟩ := hu
  have e1 := hw.symm.trans hu1
  simp only [Prod.mk.injEq] at e1
  obtain ⟨rfl, rfl, rfl⟩ := e1
  have ha1 : ad' 11 0 = ad 11 0 := hax 11 0 (ex_k (by decide) h11) (by decide)
  rw [← ha1]
  have h11' : 0 < W'.2.2 11 := Nat.lt_of_lt_of_le h11 (hN 11)
  refine z_istore X dL_law_2038 (by rw [hml]; decide) rfl rfl ?_
  refine z_aload_n X dL_law_2040 rfl rfl ?_
  refine z_aload_n X dL_law_2041 rfl rfl ?_
  refine z_iload X dL_law_2042 rfl ?_
  refine z_iconst (v := nI 1) X dL_law_2044 (by decide) ?_
  refine z_iadd X dL_law_2045 ?_
  rw [(nI_arg (j := 1) hL hL2 (by decide)).1]
  refine z_sld X hX hbl hbA (nI_arg hL hL2 (by decide)).2 dL_law_2046 ?_
  rw [nI_clamp (by omega)]
  refine z_callVi (As := [.int (sc (7 * t + 1))]) (rest := []) (nA := 1) (mc := 0) (ms := 0) (rm := ({ frames := 80, cells := 0, slots := 0, locals := 800 } : Room)) (r0 := a) (pu := fun (_ : Unit) => True) (G1 := fun _ => cx D dA A W'.1 W'.2.1 W'.2.2 ad' ((q, .inl (dA 7, 1, .inr (.inl f'))) :: xR dA ρ' ar)) X (met_ref (xs := [(q, .inl (dA 7, 1, .inr (.inl f')))]) X.2.2.2.2.2.2.1 (fun A' n' hA' => cr_ratedByEvents l X.2.2.2.2.2.2.2.2 hA' hfr)) g_1679 g_1680 g_1681 g_15 g_1682 hd_yX12_ratedByEvents ⟨rfl, rfl, Nat.le_of_ble_eq_true rfl, Nat.le_of_ble_eq_true rfl⟩ rfl (fun _ hG => cx_recvX X (j := 1) (ci := 15) rfl rfl hG) rfl (Nat.le_of_ble_eq_true rfl) dL_law_2047 ⟨by show _ ≤ 601024; omega, by show _ ≤ 7293034; omega⟩ (fun _ _ => ?_)
  refine z_istore X dL_law_2050 (by rw [hml]; decide) rfl rfl ?_
  refine z_aload_n X dL_law_2052 rfl rfl ?_
  refine z_callVi (As := []) (rest := []) (nA := 0) (mc := 0) (ms := 0) (rm := ({ frames := 20, cells := 0, slots := 0, locals := 200 } : Room)) (r0 := ρ' 39 0) (pu := fun (_ : Unit) => True) (G1 := fun _ => cx D dA A W'.1 W'.2.1 W'.2.2 ad' ((q, .inl (dA 7, 1, .inr (.inl f'))) :: xR dA ρ' ar)) X (met_ref (xs := [(q, .inl (dA 7, 1, .inr (.inl f')))]) X.2.2.2.2.2.2.1 (fun A' n' hA' => cr_thrown l X.2.2.2.2.2.2.2.2 hA' (show fr_thrown ρ' = some (ρ' 39 0) from rfl))) g_1428 g_1429 g_1430 g_15 g_1431 hd_yX12_thrown ⟨rfl, rfl, Nat.le_of_ble_eq_true rfl, Nat.le_of_ble_eq_true rfl⟩ rfl (fun _ hG => cx_recvX X (j := 1) (ci := 15) rfl rfl hG) rfl (Nat.le_of_ble_eq_true rfl) dL_law_2053 ⟨by show _ ≤ 601024; omega, by show _ ≤ 7293034; omega⟩ (fun _ _ => ?_)
  refine z_iload X dL_law_2056 rfl ?_
  refine z_icmp_eq (tgt := 2063) X dL_law_2058 (by decide) (fun _ => ?_) (fun z => absurd h39 z)
  refine z_iload X dL_law_2063 rfl ?_
  have fin : zz p l e lwR s m args below meth c A (cx D dA A W'.1 W'.2.1 W'.2.2 ad' ((q, .inl (dA 7, 1, .inr (.inl f'))) :: xR dA ρ' ar)) (cells + 1 + 0 + 0) (slots + 6 + 0 + 0) Q 2080 [(6, .int a), (5, .int r5), (4, .int (nI (7 * t))), (3, .ref q), (2, .ref (ar 40)), (1, .ref (ad' 11 0)), (0, .ref b)] [] [] := by
    refine z_goto (tgt := 2319) X dL_law_2080 (by decide) ?_
    exact zz.forget (fun x hx => List.mem_cons_of_mem _ (List.mem_cons_of_mem _ hx)) (k W' ad' f' ρ' _ _ hRX.later ⟨by omega, by omega⟩)
  refine z_if_ne (tgt := 2080) X dL_law_2065 (by decide) (fun z => ?_) (fun _ => fin)
  refine z_aload_n X dL_law_2068 rfl rfl ?_
  refine z_iconst (v := 0) X dL_law_2069 (by decide) ?_
  refine c_laldX X 0 (o := a.toInt64) rfl (fun y => y.elim (fun y => absurd y (by decide)) (fun y => absurd y (by decide))) (hans z) dL_law_2070 ?_
  refine z_iload X dL_law_2071 rfl ?_
  refine z_i2l X dL_law_2073 ?_
  refine z_lcmp X dL_law_2074 ?_
  refine z_if_eq (tgt := 2080) X dL_law_2075 (by decide) (fun _ => fin) (fun y => absurd (lg_cmp_self _) y)
-- tag
set_option maxRecDepth 100000 in
set_option maxHeartbeats 8000000 in
theorem lw_tag {p : Program} {l : Launch} {e : Env} {s : State} {m : MethodId} {args : Array Value} {below : List Frame} {meth : Method} {c : Code} {A : Nat → Prop} {Q : State → Prop} {D : va_G} {dA : Nat → ClassId} (X : zc p l s m args meth c cL_law RL D dA A) (hNc : zNc s) (hml : c.maxLocals = 7) {b Ls : Nat} {sc : Nat → Int32} (hX : va_X b Ls sc s s.heap) (hbl : b < s.heap.size) (hbA : ¬ A b) {q : Nat} {W : CW} {ad : Adr} {f : Nat → Int64} {ρ : Rho} {ar : Nat → Nat} {t cells slots : Nat} (hR : RelX W ρ t) (hL : 7 * t + 7 ≤ Ls) (hL2 : Ls ≤ 3584) (hI : lwI t (E26 ρ) cells slots)
    (k : ∀ (W' : CW) (ad' : Adr) (f' : Nat → Int64) (ρ' : Rho) (c' s' : Nat), RelX W' ρ' (t + 1) → lwI (t + 1) (E26 ρ') c' s' → zz p l e lwR s m args below meth c A (cx D dA A W'.1 W'.2.1 W'.2.2 ad' ((q, .inl (dA 7, 1, .inr (.inl f'))) :: xR dA ρ' ar)) c' s' Q 2319 [(4, .int (nI (7 * t))), (3, .ref q), (2, .ref (ar 40)), (1, .ref (ad' 11 0)), (0, .ref b)] [] []) : zz p l e lwR s m args below meth c A (cx D dA A W.1 W.2.1 W.2.2 ad ((q, .inl (dA 7, 1, .inr (.inl f))) :: xR dA ρ ar)) cells slots Q 2083 [(4, .int (nI (7 * t))), (3, .ref q), (2, .ref (ar 40)), (1, .ref (ad 11 0)), (0, .ref b)] [] [] := by
  obtain ⟨hI1, hI2⟩ := hI
  have h80 := @E26_le ρ
  obtain ⟨nw, hRel⟩ := hR
  have h11 : 0 < W.2.2 11 := by rw [hRel.r3.1.1]; decide
  obtain ⟨o, ρ', a, W', f', r5, hfc, hcd, hw, hfr, h39, hans, hRX, hE⟩ := OKQ.use (f := f) (f_tag hRel (sc (7 * t + 1)))
  have h81 := @E26_le ρ'
  refine z_aload_n X dL_law_2083 rfl rfl ?_
  refine z_aload_n X dL_law_2084 rfl rfl ?_
  refine z_iload X dL_law_2085 rfl ?_
  refine z_iconst (v := nI 1) X dL_law_2087 (by decide) ?_
  refine z_iadd X dL_law_2088 ?_
  rw [(nI_arg (j := 1) hL hL2 (by decide)).1]
  refine z_sld X hX hbl hbA (nI_arg hL hL2 (by decide)).2 dL_law_2089 ?_
  rw [nI_clamp (by omega)]
  refine z_aload_n X dL_law_2090 rfl rfl ?_
  refine z_callWi (As := [.ref (ad 11 0), .int (sc (7 * t + 1)), .ref q]) (rest := []) (nA := 3) (mc := 1) (ms := 6) (rm := ({ frames := 220, cells := 1, slots := 6, locals := 2200 } : Room)) (S := CW × (Nat → Int64) × Adr) (post := fun r u => wQ W.1 W.2.1 W.2.2 f cd1 o = (u.1, u.2.1, r) ∧ axt W.2.2 ad u.2.2 ∧ ∀ k, W.2.2 k ≤ u.1.2.2 k) (G1 := fun u => cx D dA A u.1.1 u.1.2.1 u.1.2.2 u.2.2 ((q, .inl (dA 7, 1, .inr (.inl u.2.1))) :: xR dA ρ ar)) X hNc (cw_tag l X.2.2.2.2.2.2.2.2 X.2.2.2.2.2.2.1 h11 hcd hfc) g_1229 g_1230 g_0 g_1231 hd_yL_tag.2 ⟨rfl, rfl, Nat.le_of_ble_eq_true rfl, Nat.le_of_ble_eq_true rfl⟩ rfl rfl (Nat.le_of_ble_eq_true rfl) dL_law_2091 ⟨by show _ ≤ 601024; omega, by show _ ≤ 7293034; omega⟩ (fun r u hu => ?_)
  obtain ⟨W2, f2, ad'⟩ := u
  obtain ⟨hu1, hax, hN⟩ := hu
  have e1 := hw.symm.trans hu1
  simp only [Prod.mk.injEq] at e1
  obtain ⟨rfl, rfl, rfl⟩ := e1
  have ha1 : ad' 11 0 = ad 11 0 := hax 11 0 (ex_k (by decide) h11) (by decide)
  rw [← ha1]
  have h11' : 0 < W'.2.2 11 := Nat.lt_of_lt_of_le h11 (hN 11)
  refine z_istore X dL_law_2094 (by rw [hml]; decide) rfl rfl ?_
  refine z_aload_n X dL_law_2096 rfl rfl ?_
  refine z_aload_n X dL_law_2097 rfl rfl ?_
  refine z_iload X dL_law_2098 rfl ?_
  refine z_iconst (v := nI 1) X dL_law_2100 (by decide) ?_
  refine z_iadd X dL_law_2101 ?_
  rw [(nI_arg (j := 1) hL hL2 (by decide)).1]
  refine z_sld X hX hbl hbA (nI_arg hL hL2 (by decide)).2 dL_law_2102 ?_
  rw [nI_clamp (by omega)]
  refine z_callVi (As := [.int (sc (7 * t + 1))]) (rest := []) (nA := 1) (mc := 0) (ms := 0) (rm := ({ frames := 80, cells := 0, slots := 0, locals := 800 } : Room)) (r0 := a) (pu := fun (_ : Unit) => True) (G1 := fun _ => cx D dA A W'.1 W'.2.1 W'.2.2 ad' ((q, .inl (dA 7, 1, .inr (.inl f'))) :: xR dA ρ' ar)) X (met_ref (xs := [(q, .inl (dA 7, 1, .inr (.inl f')))]) X.2.2.2.2.2.2.1 (fun A' n' hA' => cr_tag l X.2.2.2.2.2.2.2.2 hA' hfr)) g_1683 g_1684 g_1685 g_15 g_1686 hd_yX12_tag ⟨rfl, rfl, Nat.le_of_ble_eq_true rfl, Nat.le_of_ble_eq_true rfl⟩ rfl (fun _ hG => cx_recvX X (j := 1) (ci := 15) rfl rfl hG) rfl (Nat.le_of_ble_eq_true rfl) dL_law_2103 ⟨by show _ ≤ 601024; omega, by show _ ≤ 7293034; omega⟩ (fun _ _ => ?_)
  refine z_istore X dL_law_2106 (by rw [hml]; decide) rfl rfl ?_
  refine z_aload_n X dL_law_2108 rfl rfl ?_
  refine z_callVi (As := []) (rest := []) (nA := 0) (mc := 0) (ms := 0) (rm := ({ frames := 20, cells := 0, slots := 0, locals := 200 } : Room)) (r0 := ρ' 39 0) (pu := fun (_ : Unit) => True) (G1 := fun _ => cx D dA A W'.1 W'.2.1 W'.2.2 ad' ((q, .inl (dA 7, 1, .inr (.inl f'))) :: xR dA ρ' ar)) X (met_ref (xs := [(q, .inl (dA 7, 1, .inr (.inl f')))]) X.2.2.2.2.2.2.1 (fun A' n' hA' => cr_thrown l X.2.2.2.2.2.2.2.2 hA' (show fr_thrown ρ' = some (ρ' 39 0) from rfl))) g_1428 g_1429 g_1430 g_15 g_1431 hd_yX12_thrown ⟨rfl, rfl, Nat.le_of_ble_eq_true rfl, Nat.le_of_ble_eq_true rfl⟩ rfl (fun _ hG => cx_recvX X (j := 1) (ci := 15) rfl rfl hG) rfl (Nat.le_of_ble_eq_true rfl) dL_law_2109 ⟨by show _ ≤ 601024; omega, by show _ ≤ 7293034; omega⟩ (fun _ _ => ?_)
  refine z_iload X dL_law_2112 rfl ?_
  refine z_icmp_eq (tgt := 2119) X dL_law_2114 (by decide) (fun _ => ?_) (fun z => absurd h39 z)
  refine z_iload X dL_law_2119 rfl ?_
  have fin : zz p l e lwR s m args below meth c A (cx D dA A W'.1 W'.2.1 W'.2.2 ad' ((q, .inl (dA 7, 1, .inr (.inl f'))) :: xR dA ρ' ar)) (cells + 1 + 0 + 0) (slots + 6 + 0 + 0) Q 2136 [(6, .int a), (5, .int r5), (4, .int (nI (7 * t))), (3, .ref q), (2, .ref (ar 40)), (1, .ref (ad' 11 0)), (0, .ref b)] [] [] := by
    refine z_goto (tgt := 2319) X dL_law_2136 (by decide) ?_
    exact zz.forget (fun x hx => List.mem_cons_of_mem _ (List.mem_cons_of_mem _ hx)) (k W' ad' f' ρ' _ _ hRX.later ⟨by omega, by omega⟩)
  refine z_if_ne (tgt := 2136) X dL_law_2121 (by decide) (fun z => ?_) (fun _ => fin)
  refine z_aload_n X dL_law_2124 rfl rfl ?_
  refine z_iconst (v := 0) X dL_law_2125 (by decide) ?_
  refine c_laldX X 0 (o := a.toInt64) rfl (fun y => y.elim (fun y => absurd y (by decide)) (fun y => absurd y (by decide))) (hans z) dL_law_2126 ?_
  refine z_iload X dL_law_2127 rfl ?_
  refine z_i2l X dL_law_2129 ?_
  refine z_lcmp X dL_law_2130 ?_
  refine z_if_eq (tgt := 2136) X dL_law_2131 (by decide) (fun _ => fin) (fun y => absurd (lg_cmp_self _) y)
-- seal
set_option maxRecDepth 100000 in
set_option maxHeartbeats 8000000 in
theorem lw_seal {p : Program} {l : Launch} {e : Env} {s : State} {m : MethodId} {args : Array Value} {below : List Frame} {meth : Method} {c : Code} {A : Nat → Prop} {Q : State → Prop} {D : va_G} {dA : Nat → ClassId} (X : zc p l s m args meth c cL_law RL D dA A) (hNc : zNc s) (hml : c.maxLocals = 7) {b Ls : Nat} {sc : Nat → Int32} (hX : va_X b Ls sc s s.heap) (hbl : b < s.heap.size) (hbA : ¬ A b) {q : Nat} {W : CW} {ad : Adr} {f : Nat → Int64} {ρ : Rho} {ar : Nat → Nat} {t cells slots : Nat} (hR : RelX W ρ t) (hL : 7 * t + 7 ≤ Ls) (hL2 : Ls ≤ 3584) (hI : lwI t (E26 ρ) cells slots)
    (k : ∀ (W' : CW) (ad' : Adr) (f' : Nat → Int64) (ρ' : Rho) (c' s' : Nat), RelX W' ρ' (t + 1) → lwI (t + 1) (E26 ρ') c' s' → zz p l e lwR s m args below meth c A (cx D dA A W'.1 W'.2.1 W'.2.2 ad' ((q, .inl (dA 7, 1, .inr (.inl f'))) :: xR dA ρ' ar)) c' s' Q 2319 [(4, .int (nI (7 * t))), (3, .ref q), (2, .ref (ar 40)), (1, .ref (ad' 11 0)), (0, .ref b)] [] []) : zz p l e lwR s m args below meth c A (cx D dA A W.1 W.2.1 W.2.2 ad ((q, .inl (dA 7, 1, .inr (.inl f))) :: xR dA ρ ar)) cells slots Q 2139 [(4, .int (nI (7 * t))), (3, .ref q), (2, .ref (ar 40)), (1, .ref (ad 11 0)), (0, .ref b)] [] [] := by
  obtain ⟨hI1, hI2⟩ := hI
  have h80 := @E26_le ρ
  obtain ⟨nw, hRel⟩ := hR
  have h11 : 0 < W.2.2 11 := by rw [hRel.r3.1.1]; decide
  obtain ⟨o, ρ', a, W', f', r5, hfc, hcd, hw, hfr, h39, hans, hRX, hE⟩ := OKQ.use (f := f) (f_seal hRel (by omega) (sc (7 * t + 1)))
  have h81 := @E26_le ρ'
  refine z_aload_n X dL_law_2139 rfl rfl ?_
  refine z_aload_n X dL_law_2140 rfl rfl ?_
  refine z_iload X dL_law_2141 rfl ?_
  refine z_iconst (v := nI 1) X dL_law_2143 (by decide) ?_
  refine z_iadd X dL_law_2144 ?_
  rw [(nI_arg (j := 1) hL hL2 (by decide)).1]
  refine z_sld X hX hbl hbA (nI_arg hL hL2 (by decide)).2 dL_law_2145 ?_
  rw [nI_clamp (by omega)]
  refine z_aload_n X dL_law_2146 rfl rfl ?_
  refine z_callWi (As := [.ref (ad 11 0), .int (sc (7 * t + 1)), .ref q]) (rest := []) (nA := 3) (mc := 1) (ms := 6) (rm := ({ frames := 220, cells := 1, slots := 6, locals := 2200 } : Room)) (S := CW × (Nat → Int64) × Adr) (post := fun r u => wQ W.1 W.2.1 W.2.2 f cd1 o = (u.1, u.2.1, r) ∧ axt W.2.2 ad u.2.2 ∧ ∀ k, W.2.2 k ≤ u.1.2.2 k) (G1 := fun u => cx D dA A u.1.1 u.1.2.1 u.1.2.2 u.2.2 ((q, .inl (dA 7, 1, .inr (.inl u.2.1))) :: xR dA ρ ar)) X hNc (cw_seal l X.2.2.2.2.2.2.2.2 X.2.2.2.2.2.2.1 h11 hcd hfc) g_1236 g_1237 g_0 g_1238 hd_yL_seal.2 ⟨rfl, rfl, Nat.le_of_ble_eq_true rfl, Nat.le_of_ble_eq_true rfl⟩ rfl rfl (Nat.le_of_ble_eq_true rfl) dL_law_2147 ⟨by show _ ≤ 601024; omega, by show _ ≤ 7293034; omega⟩ (fun r u hu => ?_)
  obtain ⟨W2, f2, ad'⟩ := u
  obtain ⟨hu1, hax, hN⟩ := hu
  have e1 := hw.symm.trans hu1
  simp only [Prod.mk.injEq] at e1
  obtain ⟨rfl, rfl, rfl⟩ := e1
  have ha1 : ad' 11 0 = ad 11 0 := hax 11 0 (ex_k (by decide) h11) (by decide)
  rw [← ha1]
  have h11' : 0 < W'.2.2 11 := Nat.lt_of_lt_of_le h11 (hN 11)
  refine z_istore X dL_law_2150 (by rw [hml]; decide) rfl rfl ?_
  refine z_aload_n X dL_law_2152 rfl rfl ?_
  refine z_aload_n X dL_law_2153 rfl rfl ?_
  refine z_iload X dL_law_2154 rfl ?_
  refine z_iconst (v := nI 1) X dL_law_2156 (by decide) ?_
  refine z_iadd X dL_law_2157 ?_
  rw [(nI_arg (j := 1) hL hL2 (by decide)).1]
  refine z_sld X hX hbl hbA (nI_arg hL hL2 (by decide)).2 dL_law_2158 ?_
  rw [nI_clamp (by omega)]
  refine z_callVi (As := [.int (sc (7 * t + 1))]) (rest := []) (nA := 1) (mc := 0) (ms := 0) (rm := ({ frames := 80, cells := 0, slots := 0, locals := 800 } : Room)) (r0 := a) (pu := fun (_ : Unit) => True) (G1 := fun _ => cx D dA A W'.1 W'.2.1 W'.2.2 ad' ((q, .inl (dA 7, 1, .inr (.inl f'))) :: xR dA ρ' ar)) X (met_ref (xs := [(q, .inl (dA 7, 1, .inr (.inl f')))]) X.2.2.2.2.2.2.1 (fun A' n' hA' => cr_seal l X.2.2.2.2.2.2.2.2 hA' hfr)) g_1687 g_1688 g_1689 g_15 g_1690 hd_yX12_seal ⟨rfl, rfl, Nat.le_of_ble_eq_true rfl, Nat.le_of_ble_eq_true rfl⟩ rfl (fun _ hG => cx_recvX X (j := 1) (ci := 15) rfl rfl hG) rfl (Nat.le_of_ble_eq_true rfl) dL_law_2159 ⟨by show _ ≤ 601024; omega, by show _ ≤ 7293034; omega⟩ (fun _ _ => ?_)
  refine z_istore X dL_law_2162 (by rw [hml]; decide) rfl rfl ?_
  refine z_aload_n X dL_law_2164 rfl rfl ?_
  refine z_callVi (As := []) (rest := []) (nA := 0) (mc := 0) (ms := 0) (rm := ({ frames := 20, cells := 0, slots := 0, locals := 200 } : Room)) (r0 := ρ' 39 0) (pu := fun (_ : Unit) => True) (G1 := fun _ => cx D dA A W'.1 W'.2.1 W'.2.2 ad' ((q, .inl (dA 7, 1, .inr (.inl f'))) :: xR dA ρ' ar)) X (met_ref (xs := [(q, .inl (dA 7, 1, .inr (.inl f')))]) X.2.2.2.2.2.2.1 (fun A' n' hA' => cr_thrown l X.2.2.2.2.2.2.2.2 hA' (show fr_thrown ρ' = some (ρ' 39 0) from rfl))) g_1428 g_1429 g_1430 g_15 g_1431 hd_yX12_thrown ⟨rfl, rfl, Nat.le_of_ble_eq_true rfl, Nat.le_of_ble_eq_true rfl⟩ rfl (fun _ hG => cx_recvX X (j := 1) (ci := 15) rfl rfl hG) rfl (Nat.le_of_ble_eq_true rfl) dL_law_2165 ⟨by show _ ≤ 601024; omega, by show _ ≤ 7293034; omega⟩ (fun _ _ => ?_)
  refine z_iload X dL_law_2168 rfl ?_
  refine z_icmp_eq (tgt := 2175) X dL_law_2170 (by decide) (fun _ => ?_) (fun z => absurd h39 z)
  refine z_iload X dL_law_2175 rfl ?_
  have fin : zz p l e lwR s m args below meth c A (cx D dA A W'.1 W'.2.1 W'.2.2 ad' ((q, .inl (dA 7, 1, .inr (.inl f'))) :: xR dA ρ' ar)) (cells + 1 + 0 + 0) (slots + 6 + 0 + 0) Q 2192 [(6, .int a), (5, .int r5), (4, .int (nI (7 * t))), (3, .ref q), (2, .ref (ar 40)), (1, .ref (ad' 11 0)), (0, .ref b)] [] [] := by
    refine z_goto (tgt := 2319) X dL_law_2192 (by decide) ?_
    exact zz.forget (fun x hx => List.mem_cons_of_mem _ (List.mem_cons_of_mem _ hx)) (k W' ad' f' ρ' _ _ hRX.later ⟨by omega, by omega⟩)
  refine z_if_ne (tgt := 2192) X dL_law_2177 (by decide) (fun z => ?_) (fun _ => fin)
  refine z_aload_n X dL_law_2180 rfl rfl ?_
  refine z_iconst (v := 0) X dL_law_2181 (by decide) ?_
  refine c_laldX X 0 (o := a.toInt64) rfl (fun y => y.elim (fun y => absurd y (by decide)) (fun y => absurd y (by decide))) (hans z) dL_law_2182 ?_
  refine z_iload X dL_law_2183 rfl ?_
  refine z_i2l X dL_law_2185 ?_
  refine z_lcmp X dL_law_2186 ?_
  refine z_if_eq (tgt := 2192) X dL_law_2187 (by decide) (fun _ => fin) (fun y => absurd (lg_cmp_self _) y)
-- stamp
set_option maxRecDepth 100000 in
set_option maxHeartbeats 8000000 in
theorem lw_stamp {p : Program} {l : Launch} {e : Env} {s : State} {m : MethodId} {args : Array Value} {below : List Frame} {meth : Method} {c : Code} {A : Nat → Prop} {Q : State → Prop} {D : va_G} {dA : Nat → ClassId} (X : zc p l s m args meth c cL_law RL D dA A) (hNc : zNc s) (hml : c.maxLocals = 7) {b Ls : Nat} {sc : Nat → Int32} (hX : va_X b Ls sc s s.heap) (hbl : b < s.heap.size) (hbA : ¬ A b) {q : Nat} {W : CW} {ad : Adr} {f : Nat → Int64} {ρ : Rho} {ar : Nat → Nat} {t cells slots : Nat} (hR : RelX W ρ t) (hL : 7 * t + 7 ≤ Ls) (hL2 : Ls ≤ 3584) (hI : lwI t (E26 ρ) cells slots)
    (k : ∀ (W' : CW) (ad' : Adr) (f' : Nat → Int64) (ρ' : Rho) (c' s' : Nat), RelX W' ρ' (t + 1) → lwI (t + 1) (E26 ρ') c' s' → zz p l e lwR s m args below meth c A (cx D dA A W'.1 W'.2.1 W'.2.2 ad' ((q, .inl (dA 7, 1, .inr (.inl f'))) :: xR dA ρ' ar)) c' s' Q 2319 [(4, .int (nI (7 * t))), (3, .ref q), (2, .ref (ar 40)), (1, .ref (ad' 11 0)), (0, .ref b)] [] []) : zz p l e lwR s m args below meth c A (cx D dA A W.1 W.2.1 W.2.2 ad ((q, .inl (dA 7, 1, .inr (.inl f))) :: xR dA ρ ar)) cells slots Q 2195 [(4, .int (nI (7 * t))), (3, .ref q), (2, .ref (ar 40)), (1, .ref (ad 11 0)), (0, .ref b)] [] [] := by
  obtain ⟨hI1, hI2⟩ := hI
  have h80 := @E26_le ρ
  obtain ⟨nw, hRel⟩ := hR
  have h11 : 0 < W.2.2 11 := by rw [hRel.r3.1.1]; decide
  obtain ⟨o, ρ', a, W', f', r5, hfc, hcd, hw, hfr, h39, hans, hRX, hE⟩ := OKQ.use (f := f) (f_stamp hRel (by omega) (sc (7 * t + 1)))
  have h81 := @E26_le ρ'
  refine z_aload_n X dL_law_2195 rfl rfl ?_
  refine z_aload_n X dL_law_2196 rfl rfl ?_
  refine z_iload X dL_law_2197 rfl ?_
  refine z_iconst (v := nI 1) X dL_law_2199 (by decide) ?_
  refine z_iadd X dL_law_2200 ?_
  rw [(nI_arg (j := 1) hL hL2 (by decide)).1]
  refine z_sld X hX hbl hbA (nI_arg hL hL2 (by decide)).2 dL_law_2201 ?_
  rw [nI_clamp (by omega)]
  refine z_aload_n X dL_law_2202 rfl rfl ?_
  refine z_callWi (As := [.ref (ad 11 0), .int (sc (7 * t + 1)), .ref q]) (rest := []) (nA := 3) (mc := 1) (ms := 6) (rm := ({ frames := 220, cells := 1, slots := 6, locals := 2200 } : Room)) (S := CW × (Nat → Int64) × Adr) (post := fun r u => wQ W.1 W.2.1 W.2.2 f cd1 o = (u.1, u.2.1, r) ∧ axt W.2.2 ad u.2.2 ∧ ∀ k, W.2.2 k ≤ u.1.2.2 k) (G1 := fun u => cx D dA A u.1.1 u.1.2.1 u.1.2.2 u.2.2 ((q, .inl (dA 7, 1, .inr (.inl u.2.1))) :: xR dA ρ ar)) X hNc (cw_stamp l X.2.2.2.2.2.2.2.2 X.2.2.2.2.2.2.1 h11 hcd hfc) g_1248 g_1249 g_0 g_1250 hd_yL_stamp.2 ⟨rfl, rfl, Nat.le_of_ble_eq_true rfl, Nat.le_of_ble_eq_true rfl⟩ rfl rfl (Nat.le_of_ble_eq_true rfl) dL_law_2203 ⟨by show _ ≤ 601024; omega, by show _ ≤ 7293034; omega⟩ (fun r u hu => ?_)
  obtain ⟨W2, f2, ad'⟩ := u
  obtain ⟨hu1, hax, hN⟩ := hu
  have e1 := hw.symm.trans hu1
  simp only [Prod.mk.injEq] at e1
  obtain ⟨rfl, rfl, rfl⟩ := e1
  have ha1 : ad' 11 0 = ad 11 0 := hax 11 0 (ex_k (by decide) h11) (by decide)
  rw [← ha1]
  have h11' : 0 < W'.2.2 11 := Nat.lt_of_lt_of_le h11 (hN 11)
  refine z_istore X dL_law_2206 (by rw [hml]; decide) rfl rfl ?_
  refine z_aload_n X dL_law_2208 rfl rfl ?_
  refine z_aload_n X dL_law_2209 rfl rfl ?_
  refine z_iload X dL_law_2210 rfl ?_
  refine z_iconst (v := nI 1) X dL_law_2212 (by decide) ?_
  refine z_iadd X dL_law_2213 ?_
  rw [(nI_arg (j := 1) hL hL2 (by decide)).1]
  refine z_sld X hX hbl hbA (nI_arg hL hL2 (by decide)).2 dL_law_2214 ?_
  rw [nI_clamp (by omega)]
  refine z_callVi (As := [.int (sc (7 * t + 1))]) (rest := []) (nA := 1) (mc := 0) (ms := 0) (rm := ({ frames := 60, cells := 0, slots := 0, locals := 600 } : Room)) (r0 := a) (pu := fun (_ : Unit) => True) (G1 := fun _ => cx D dA A W'.1 W'.2.1 W'.2.2 ad' ((q, .inl (dA 7, 1, .inr (.inl f'))) :: xR dA ρ' ar)) X (met_ref (xs := [(q, .inl (dA 7, 1, .inr (.inl f')))]) X.2.2.2.2.2.2.1 (fun A' n' hA' => cr_stamp l X.2.2.2.2.2.2.2.2 hA' hfr)) g_1695 g_1696 g_1697 g_15 g_1698 hd_yX12_stamp ⟨rfl, rfl, Nat.le_of_ble_eq_true rfl, Nat.le_of_ble_eq_true rfl⟩ rfl (fun _ hG => cx_recvX X (j := 1) (ci := 15) rfl rfl hG) rfl (Nat.le_of_ble_eq_true rfl) dL_law_2215 ⟨by show _ ≤ 601024; omega, by show _ ≤ 7293034; omega⟩ (fun _ _ => ?_)
  refine z_istore X dL_law_2218 (by rw [hml]; decide) rfl rfl ?_
  refine z_aload_n X dL_law_2220 rfl rfl ?_
  refine z_callVi (As := []) (rest := []) (nA := 0) (mc := 0) (ms := 0) (rm := ({ frames := 20, cells := 0, slots := 0, locals := 200 } : Room)) (r0 := ρ' 39 0) (pu := fun (_ : Unit) => True) (G1 := fun _ => cx D dA A W'.1 W'.2.1 W'.2.2 ad' ((q, .inl (dA 7, 1, .inr (.inl f'))) :: xR dA ρ' ar)) X (met_ref (xs := [(q, .inl (dA 7, 1, .inr (.inl f')))]) X.2.2.2.2.2.2.1 (fun A' n' hA' => cr_thrown l X.2.2.2.2.2.2.2.2 hA' (show fr_thrown ρ' = some (ρ' 39 0) from rfl))) g_1428 g_1429 g_1430 g_15 g_1431 hd_yX12_thrown ⟨rfl, rfl, Nat.le_of_ble_eq_true rfl, Nat.le_of_ble_eq_true rfl⟩ rfl (fun _ hG => cx_recvX X (j := 1) (ci := 15) rfl rfl hG) rfl (Nat.le_of_ble_eq_true rfl) dL_law_2221 ⟨by show _ ≤ 601024; omega, by show _ ≤ 7293034; omega⟩ (fun _ _ => ?_)
  refine z_iload X dL_law_2224 rfl ?_
  refine z_icmp_eq (tgt := 2231) X dL_law_2226 (by decide) (fun _ => ?_) (fun z => absurd h39 z)
  refine z_iload X dL_law_2231 rfl ?_
  have fin : zz p l e lwR s m args below meth c A (cx D dA A W'.1 W'.2.1 W'.2.2 ad' ((q, .inl (dA 7, 1, .inr (.inl f'))) :: xR dA ρ' ar)) (cells + 1 + 0 + 0) (slots + 6 + 0 + 0) Q 2248 [(6, .int a), (5, .int r5), (4, .int (nI (7 * t))), (3, .ref q), (2, .ref (ar 40)), (1, .ref (ad' 11 0)), (0, .ref b)] [] [] := by
    refine z_goto (tgt := 2319) X dL_law_2248 (by decide) ?_
    exact zz.forget (fun x hx => List.mem_cons_of_mem _ (List.mem_cons_of_mem _ hx)) (k W' ad' f' ρ' _ _ hRX.later ⟨by omega, by omega⟩)
  refine z_if_ne (tgt := 2248) X dL_law_2233 (by decide) (fun z => ?_) (fun _ => fin)
  refine z_aload_n X dL_law_2236 rfl rfl ?_
  refine z_iconst (v := 0) X dL_law_2237 (by decide) ?_
  refine c_laldX X 0 (o := a.toInt64) rfl (fun y => y.elim (fun y => absurd y (by decide)) (fun y => absurd y (by decide))) (hans z) dL_law_2238 ?_
  refine z_iload X dL_law_2239 rfl ?_
  refine z_i2l X dL_law_2241 ?_
  refine z_lcmp X dL_law_2242 ?_
  refine z_if_eq (tgt := 2248) X dL_law_2243 (by decide) (fun _ => fin) (fun y => absurd (lg_cmp_self _) y)
