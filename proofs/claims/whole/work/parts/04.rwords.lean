/-! words -/
theorem g_1306 : Cond.fieldLink RX12 141 "MeshBillerModel" "now" "I" ∈ gT := gT_t 1306 (by decide +kernel) rfl
theorem g_1307 : Cond.fieldLink RX12 7 "MeshBillerModel" "length" "I" ∈ gT := gT_t 1307 (by decide +kernel) rfl
theorem g_1308 : Cond.fieldLink RX12 13 "MeshBillerModel" "zone" "[I" ∈ gT := gT_t 1308 (by decide +kernel) rfl
theorem g_1309 : Cond.fieldLink RX12 17 "MeshBillerModel" "channels" "[I" ∈ gT := gT_t 1309 (by decide +kernel) rfl
theorem g_1310 : Cond.fieldLink RX12 20 "MeshBillerModel" "guarded" "[I" ∈ gT := gT_t 1310 (by decide +kernel) rfl
theorem g_1311 : Cond.fieldLink RX12 23 "MeshBillerModel" "rates" "[I" ∈ gT := gT_t 1311 (by decide +kernel) rfl
theorem g_1312 : Cond.fieldLink RX12 26 "MeshBillerModel" "cell" "[I" ∈ gT := gT_t 1312 (by decide +kernel) rfl
theorem g_1313 : Cond.fieldLink RX12 29 "MeshBillerModel" "walletOf" "[I" ∈ gT := gT_t 1313 (by decide +kernel) rfl
theorem g_1314 : Cond.fieldLink RX12 32 "MeshBillerModel" "cap" "[I" ∈ gT := gT_t 1314 (by decide +kernel) rfl
theorem g_1315 : Cond.fieldLink RX12 35 "MeshBillerModel" "legNow" "[I" ∈ gT := gT_t 1315 (by decide +kernel) rfl
theorem g_1316 : Cond.fieldLink RX12 38 "MeshBillerModel" "cost" "[I" ∈ gT := gT_t 1316 (by decide +kernel) rfl
theorem g_1317 : Cond.fieldLink RX12 41 "MeshBillerModel" "costDay" "[I" ∈ gT := gT_t 1317 (by decide +kernel) rfl
theorem g_1318 : Cond.fieldLink RX12 44 "MeshBillerModel" "free" "[I" ∈ gT := gT_t 1318 (by decide +kernel) rfl
theorem g_1319 : Cond.fieldLink RX12 47 "MeshBillerModel" "spent" "[I" ∈ gT := gT_t 1319 (by decide +kernel) rfl
theorem g_1320 : Cond.fieldLink RX12 144 "MeshBillerModel" "bundles" "I" ∈ gT := gT_t 1320 (by decide +kernel) rfl
theorem g_1321 : Cond.fieldLink RX12 50 "MeshBillerModel" "owner" "[I" ∈ gT := gT_t 1321 (by decide +kernel) rfl
theorem g_1322 : Cond.fieldLink RX12 53 "MeshBillerModel" "covers" "[I" ∈ gT := gT_t 1322 (by decide +kernel) rfl
theorem g_1323 : Cond.fieldLink RX12 56 "MeshBillerModel" "secondsLeft" "[I" ∈ gT := gT_t 1323 (by decide +kernel) rfl
theorem g_1324 : Cond.fieldLink RX12 59 "MeshBillerModel" "overDay" "[I" ∈ gT := gT_t 1324 (by decide +kernel) rfl
theorem g_1325 : Cond.fieldLink RX12 62 "MeshBillerModel" "rank" "[I" ∈ gT := gT_t 1325 (by decide +kernel) rfl
theorem g_1326 : Cond.fieldLink RX12 114 "MeshBillerModel" "calls" "I" ∈ gT := gT_t 1326 (by decide +kernel) rfl
theorem g_1327 : Cond.fieldLink RX12 65 "MeshBillerModel" "host" "[I" ∈ gT := gT_t 1327 (by decide +kernel) rfl
theorem g_1328 : Cond.fieldLink RX12 117 "MeshBillerModel" "legs" "I" ∈ gT := gT_t 1328 (by decide +kernel) rfl
theorem g_1329 : Cond.fieldLink RX12 68 "MeshBillerModel" "phoneOf" "[I" ∈ gT := gT_t 1329 (by decide +kernel) rfl
theorem g_1330 : Cond.fieldLink RX12 71 "MeshBillerModel" "callOf" "[I" ∈ gT := gT_t 1330 (by decide +kernel) rfl
theorem g_1331 : Cond.fieldLink RX12 74 "MeshBillerModel" "payer" "[I" ∈ gT := gT_t 1331 (by decide +kernel) rfl
theorem g_1332 : Cond.fieldLink RX12 77 "MeshBillerModel" "state" "[I" ∈ gT := gT_t 1332 (by decide +kernel) rfl
theorem g_1333 : Cond.fieldLink RX12 80 "MeshBillerModel" "seconds" "[I" ∈ gT := gT_t 1333 (by decide +kernel) rfl
theorem g_1334 : Cond.fieldLink RX12 83 "MeshBillerModel" "charged" "[I" ∈ gT := gT_t 1334 (by decide +kernel) rfl
theorem g_1335 : Cond.fieldLink RX12 86 "MeshBillerModel" "covered" "[I" ∈ gT := gT_t 1335 (by decide +kernel) rfl
theorem g_1336 : Cond.fieldLink RX12 89 "MeshBillerModel" "tag" "[I" ∈ gT := gT_t 1336 (by decide +kernel) rfl
theorem g_1337 : Cond.fieldLink RX12 92 "MeshBillerModel" "seal" "[I" ∈ gT := gT_t 1337 (by decide +kernel) rfl
theorem g_1338 : Cond.fieldLink RX12 95 "MeshBillerModel" "unrated" "[I" ∈ gT := gT_t 1338 (by decide +kernel) rfl
theorem g_1339 : Cond.fieldLink RX12 98 "MeshBillerModel" "sliceFrom" "[I" ∈ gT := gT_t 1339 (by decide +kernel) rfl
theorem g_1340 : Cond.fieldLink RX12 101 "MeshBillerModel" "slice" "[I" ∈ gT := gT_t 1340 (by decide +kernel) rfl
theorem g_1341 : Cond.fieldLink RX12 104 "MeshBillerModel" "sliceRate" "[I" ∈ gT := gT_t 1341 (by decide +kernel) rfl
theorem g_1342 : Cond.fieldLink RX12 184 "MeshBillerModel" "cuts" "I" ∈ gT := gT_t 1342 (by decide +kernel) rfl
theorem g_1343 : Cond.fieldLink RX12 242 "MeshBillerModel" "want" "I" ∈ gT := gT_t 1343 (by decide +kernel) rfl
theorem g_1344 : Cond.fieldLink RX12 245 "MeshBillerModel" "got" "I" ∈ gT := gT_t 1344 (by decide +kernel) rfl
theorem g_1345 : Cond.fieldLink RX12 107 "MeshBillerModel" "thrown" "I" ∈ gT := gT_t 1345 (by decide +kernel) rfl
theorem g_1436 : Cond.methodLink RX12 120 yX12_isCell ∈ gT := gT_t 1436 (by decide +kernel) rfl
theorem g_1437 : Cond.static yX12_isCell ∈ gT := gT_t 1437 (by decide +kernel) rfl
theorem g_1438 : Cond.code yX12_isCell cX12_isCell 1 (some .boolean) ∈ gT := gT_t 1438 (by decide +kernel) rfl
theorem g_1439 : Cond.methodLink RX12 110 yX12_isIn ∈ gT := gT_t 1439 (by decide +kernel) rfl
theorem g_1440 : Cond.static yX12_isIn ∈ gT := gT_t 1440 (by decide +kernel) rfl
theorem g_1441 : Cond.code yX12_isIn cX12_isIn 3 (some .boolean) ∈ gT := gT_t 1441 (by decide +kernel) rfl
theorem g_1442 : Cond.methodLink RX12 124 yX12_isZone ∈ gT := gT_t 1442 (by decide +kernel) rfl
theorem g_1443 : Cond.static yX12_isZone ∈ gT := gT_t 1443 (by decide +kernel) rfl
theorem g_1444 : Cond.code yX12_isZone cX12_isZone 1 (some .boolean) ∈ gT := gT_t 1444 (by decide +kernel) rfl
theorem g_1445 : Cond.methodLink RX12 127 yX12_can ∈ gT := gT_t 1445 (by decide +kernel) rfl
theorem g_1447 : Cond.instanceMethod yX12_can ∈ gT := gT_t 1447 (by decide +kernel) rfl
theorem g_1448 : Cond.code yX12_can cX12_can 2 (some .boolean) ∈ gT := gT_t 1448 (by decide +kernel) rfl
theorem g_1453 : Cond.methodLink RX12 130 yX12_legsIn ∈ gT := gT_t 1453 (by decide +kernel) rfl
theorem g_1455 : Cond.instanceMethod yX12_legsIn ∈ gT := gT_t 1455 (by decide +kernel) rfl
theorem g_1456 : Cond.code yX12_legsIn cX12_legsIn 4 (some .int) ∈ gT := gT_t 1456 (by decide +kernel) rfl
theorem g_1469 : Cond.methodLink RX12 134 yX12_isPhone ∈ gT := gT_t 1469 (by decide +kernel) rfl
theorem g_1470 : Cond.static yX12_isPhone ∈ gT := gT_t 1470 (by decide +kernel) rfl
theorem g_1471 : Cond.code yX12_isPhone cX12_isPhone 1 (some .boolean) ∈ gT := gT_t 1471 (by decide +kernel) rfl
theorem g_1472 : Jvm.Cond.constant RX12 137 1000000 ∈ gT := gT_t 1472 (by decide +kernel) rfl
theorem g_1477 : Cond.methodLink RX12 138 yX12_isWallet ∈ gT := gT_t 1477 (by decide +kernel) rfl
theorem g_1478 : Cond.static yX12_isWallet ∈ gT := gT_t 1478 (by decide +kernel) rfl
theorem g_1479 : Cond.code yX12_isWallet cX12_isWallet 1 (some .boolean) ∈ gT := gT_t 1479 (by decide +kernel) rfl
theorem g_1492 : Cond.methodLink RX12 147 yX12_today ∈ gT := gT_t 1492 (by decide +kernel) rfl
theorem g_1494 : Cond.instanceMethod yX12_today ∈ gT := gT_t 1494 (by decide +kernel) rfl
theorem g_1495 : Cond.code yX12_today cX12_today 1 (some .int) ∈ gT := gT_t 1495 (by decide +kernel) rfl
theorem g_15 : Cond.initialized RX12 ∈ gT := gT_t 15 (by decide +kernel) rfl
theorem g_1504 : Cond.methodLink RX12 151 yX12_moneyIn ∈ gT := gT_t 1504 (by decide +kernel) rfl
theorem g_1506 : Cond.instanceMethod yX12_moneyIn ∈ gT := gT_t 1506 (by decide +kernel) rfl
theorem g_1507 : Cond.code yX12_moneyIn cX12_moneyIn 2 (some .int) ∈ gT := gT_t 1507 (by decide +kernel) rfl
theorem g_1516 : Cond.methodLink RX12 154 yX12_isOver ∈ gT := gT_t 1516 (by decide +kernel) rfl
theorem g_1518 : Cond.instanceMethod yX12_isOver ∈ gT := gT_t 1518 (by decide +kernel) rfl
theorem g_1519 : Cond.code yX12_isOver cX12_isOver 2 (some .boolean) ∈ gT := gT_t 1519 (by decide +kernel) rfl
theorem g_1524 : Cond.methodLink RX12 208 yX12_hasChannels ∈ gT := gT_t 1524 (by decide +kernel) rfl
theorem g_1526 : Cond.instanceMethod yX12_hasChannels ∈ gT := gT_t 1526 (by decide +kernel) rfl
theorem g_1527 : Cond.code yX12_hasChannels cX12_hasChannels 3 (some .boolean) ∈ gT := gT_t 1527 (by decide +kernel) rfl
theorem g_1528 : Cond.methodLink RX12 211 yX12_begins ∈ gT := gT_t 1528 (by decide +kernel) rfl
theorem g_1530 : Cond.instanceMethod yX12_begins ∈ gT := gT_t 1530 (by decide +kernel) rfl
theorem g_1531 : Cond.code yX12_begins cX12_begins 5 (some .int) ∈ gT := gT_t 1531 (by decide +kernel) rfl
theorem g_1532 : Cond.methodLink RX12 204 yX12_notes ∈ gT := gT_t 1532 (by decide +kernel) rfl
theorem g_1534 : Cond.instanceMethod yX12_notes ∈ gT := gT_t 1534 (by decide +kernel) rfl
theorem g_1535 : Cond.code yX12_notes cX12_notes 5 none ∈ gT := gT_t 1535 (by decide +kernel) rfl
theorem g_1536 : Cond.methodLink RX12 191 yX12_turned ∈ gT := gT_t 1536 (by decide +kernel) rfl
theorem g_1537 : Cond.static yX12_turned ∈ gT := gT_t 1537 (by decide +kernel) rfl
theorem g_1538 : Cond.code yX12_turned cX12_turned 1 (some .int) ∈ gT := gT_t 1538 (by decide +kernel) rfl
theorem g_1539 : Cond.methodLink RX12 215 yX12_getsSlice ∈ gT := gT_t 1539 (by decide +kernel) rfl
theorem g_1541 : Cond.instanceMethod yX12_getsSlice ∈ gT := gT_t 1541 (by decide +kernel) rfl
theorem g_1542 : Cond.code yX12_getsSlice cX12_getsSlice 4 none ∈ gT := gT_t 1542 (by decide +kernel) rfl
theorem g_1543 : Cond.methodLink RX12 178 yX12_bundleFor ∈ gT := gT_t 1543 (by decide +kernel) rfl
theorem g_1545 : Cond.instanceMethod yX12_bundleFor ∈ gT := gT_t 1545 (by decide +kernel) rfl
theorem g_1546 : Cond.code yX12_bundleFor cX12_bundleFor 6 (some .int) ∈ gT := gT_t 1546 (by decide +kernel) rfl
theorem g_1547 : Cond.methodLink RX12 161 yX12_isAhead ∈ gT := gT_t 1547 (by decide +kernel) rfl
theorem g_1549 : Cond.instanceMethod yX12_isAhead ∈ gT := gT_t 1549 (by decide +kernel) rfl
theorem g_1550 : Cond.code yX12_isAhead cX12_isAhead 3 (some .boolean) ∈ gT := gT_t 1550 (by decide +kernel) rfl
theorem g_1551 : Cond.methodLink RX12 181 yX12_moneyFor ∈ gT := gT_t 1551 (by decide +kernel) rfl
theorem g_1553 : Cond.instanceMethod yX12_moneyFor ∈ gT := gT_t 1553 (by decide +kernel) rfl
theorem g_1554 : Cond.code yX12_moneyFor cX12_moneyFor 7 (some .int) ∈ gT := gT_t 1554 (by decide +kernel) rfl
theorem g_1555 : Cond.methodLink RX12 168 yX12_rateNow ∈ gT := gT_t 1555 (by decide +kernel) rfl
theorem g_1557 : Cond.instanceMethod yX12_rateNow ∈ gT := gT_t 1557 (by decide +kernel) rfl
theorem g_1558 : Cond.code yX12_rateNow cX12_rateNow 3 (some .int) ∈ gT := gT_t 1558 (by decide +kernel) rfl
theorem g_1559 : Cond.methodLink RX12 171 yX12_lets ∈ gT := gT_t 1559 (by decide +kernel) rfl
theorem g_1561 : Cond.instanceMethod yX12_lets ∈ gT := gT_t 1561 (by decide +kernel) rfl
theorem g_1562 : Cond.code yX12_lets cX12_lets 4 (some .int) ∈ gT := gT_t 1562 (by decide +kernel) rfl
theorem g_1563 : Cond.methodLink RX12 165 yX12_costToday ∈ gT := gT_t 1563 (by decide +kernel) rfl
theorem g_1565 : Cond.instanceMethod yX12_costToday ∈ gT := gT_t 1565 (by decide +kernel) rfl
theorem g_1566 : Cond.code yX12_costToday cX12_costToday 2 (some .int) ∈ gT := gT_t 1566 (by decide +kernel) rfl
theorem g_1567 : Cond.methodLink RX12 175 yX12_giverTo ∈ gT := gT_t 1567 (by decide +kernel) rfl
theorem g_1569 : Cond.instanceMethod yX12_giverTo ∈ gT := gT_t 1569 (by decide +kernel) rfl
theorem g_1570 : Cond.code yX12_giverTo cX12_giverTo 6 (some .int) ∈ gT := gT_t 1570 (by decide +kernel) rfl
theorem g_1571 : Cond.methodLink RX12 157 yX12_goesBack ∈ gT := gT_t 1571 (by decide +kernel) rfl
theorem g_1573 : Cond.instanceMethod yX12_goesBack ∈ gT := gT_t 1573 (by decide +kernel) rfl
theorem g_1574 : Cond.code yX12_goesBack cX12_goesBack 4 none ∈ gT := gT_t 1574 (by decide +kernel) rfl
theorem g_1575 : Cond.methodLink RX12 187 yX12_closes ∈ gT := gT_t 1575 (by decide +kernel) rfl
theorem g_1577 : Cond.instanceMethod yX12_closes ∈ gT := gT_t 1577 (by decide +kernel) rfl
theorem g_1578 : Cond.code yX12_closes cX12_closes 5 none ∈ gT := gT_t 1578 (by decide +kernel) rfl
theorem g_1579 : Cond.methodLink RX12 194 yX12_stops ∈ gT := gT_t 1579 (by decide +kernel) rfl
theorem g_1581 : Cond.instanceMethod yX12_stops ∈ gT := gT_t 1581 (by decide +kernel) rfl
theorem g_1582 : Cond.code yX12_stops cX12_stops 4 none ∈ gT := gT_t 1582 (by decide +kernel) rfl
theorem g_1583 : Cond.methodLink RX12 200 yX12_allGoesBack ∈ gT := gT_t 1583 (by decide +kernel) rfl
theorem g_1585 : Cond.instanceMethod yX12_allGoesBack ∈ gT := gT_t 1585 (by decide +kernel) rfl
theorem g_1586 : Cond.code yX12_allGoesBack cX12_allGoesBack 2 none ∈ gT := gT_t 1586 (by decide +kernel) rfl
theorem g_1587 : Cond.methodLink RX12 197 yX12_partiesOf ∈ gT := gT_t 1587 (by decide +kernel) rfl
theorem g_1589 : Cond.instanceMethod yX12_partiesOf ∈ gT := gT_t 1589 (by decide +kernel) rfl
theorem g_1590 : Cond.code yX12_partiesOf cX12_partiesOf 4 (some .int) ∈ gT := gT_t 1590 (by decide +kernel) rfl
theorem g_1595 : Cond.methodLink RX12 218 yX12_isCall ∈ gT := gT_t 1595 (by decide +kernel) rfl
theorem g_1597 : Cond.instanceMethod yX12_isCall ∈ gT := gT_t 1597 (by decide +kernel) rfl
theorem g_1598 : Cond.code yX12_isCall cX12_isCall 2 (some .boolean) ∈ gT := gT_t 1598 (by decide +kernel) rfl
theorem g_1607 : Cond.methodLink RX12 221 yX12_areNeighbours ∈ gT := gT_t 1607 (by decide +kernel) rfl
theorem g_1608 : Cond.static yX12_areNeighbours ∈ gT := gT_t 1608 (by decide +kernel) rfl
theorem g_1609 : Cond.code yX12_areNeighbours cX12_areNeighbours 2 (some .boolean) ∈ gT := gT_t 1609 (by decide +kernel) rfl
theorem g_1614 : Jvm.Cond.constant RX12 226 50000 ∈ gT := gT_t 1614 (by decide +kernel) rfl
theorem g_1615 : Cond.methodLink RX12 227 yX12_lives ∈ gT := gT_t 1615 (by decide +kernel) rfl
theorem g_1617 : Cond.instanceMethod yX12_lives ∈ gT := gT_t 1617 (by decide +kernel) rfl
theorem g_1618 : Cond.code yX12_lives cX12_lives 5 none ∈ gT := gT_t 1618 (by decide +kernel) rfl
theorem g_1619 : Cond.methodLink RX12 224 yX12_rates ∈ gT := gT_t 1619 (by decide +kernel) rfl
theorem g_1621 : Cond.instanceMethod yX12_rates ∈ gT := gT_t 1621 (by decide +kernel) rfl
theorem g_1622 : Cond.code yX12_rates cX12_rates 4 none ∈ gT := gT_t 1622 (by decide +kernel) rfl
theorem g_1631 : Cond.methodLink RX12 230 yX12_isAsked ∈ gT := gT_t 1631 (by decide +kernel) rfl
theorem g_1633 : Cond.instanceMethod yX12_isAsked ∈ gT := gT_t 1633 (by decide +kernel) rfl
theorem g_1634 : Cond.code yX12_isAsked cX12_isAsked 2 (some .boolean) ∈ gT := gT_t 1634 (by decide +kernel) rfl
theorem g_1659 : Cond.methodLink RX12 236 yX12_isAskedOf ∈ gT := gT_t 1659 (by decide +kernel) rfl
theorem g_1661 : Cond.instanceMethod yX12_isAskedOf ∈ gT := gT_t 1661 (by decide +kernel) rfl
theorem g_1662 : Cond.code yX12_isAskedOf cX12_isAskedOf 2 (some .boolean) ∈ gT := gT_t 1662 (by decide +kernel) rfl
theorem g_1663 : Cond.methodLink RX12 233 yX12_isLeg ∈ gT := gT_t 1663 (by decide +kernel) rfl
theorem g_1665 : Cond.instanceMethod yX12_isLeg ∈ gT := gT_t 1665 (by decide +kernel) rfl
theorem g_1666 : Cond.code yX12_isLeg cX12_isLeg 2 (some .boolean) ∈ gT := gT_t 1666 (by decide +kernel) rfl
theorem g_1691 : Cond.methodLink RX12 239 yX12_sealOf ∈ gT := gT_t 1691 (by decide +kernel) rfl
theorem g_1693 : Cond.instanceMethod yX12_sealOf ∈ gT := gT_t 1693 (by decide +kernel) rfl
theorem g_1694 : Cond.code yX12_sealOf cX12_sealOf 2 (some .int) ∈ gT := gT_t 1694 (by decide +kernel) rfl
theorem g_1703 : Cond.methodLink RX12 248 yX12_sign ∈ gT := gT_t 1703 (by decide +kernel) rfl
theorem g_1705 : Cond.instanceMethod yX12_sign ∈ gT := gT_t 1705 (by decide +kernel) rfl
theorem g_1706 : Cond.code yX12_sign cX12_sign 2 none ∈ gT := gT_t 1706 (by decide +kernel) rfl
theorem g_1707 : Cond.methodLink RX12 251 yX12_number ∈ gT := gT_t 1707 (by decide +kernel) rfl
theorem g_1709 : Cond.instanceMethod yX12_number ∈ gT := gT_t 1709 (by decide +kernel) rfl
theorem g_1710 : Cond.code yX12_number cX12_number 3 none ∈ gT := gT_t 1710 (by decide +kernel) rfl
theorem gs_25 : Cond.selects RX12 yX12_can yX12_can ∈ gT := gT_s 25 (by decide +kernel) rfl
theorem gs_26 : Cond.selects RX12 yX12_legsIn yX12_legsIn ∈ gT := gT_s 26 (by decide +kernel) rfl
theorem gs_27 : Cond.selects RX12 yX12_today yX12_today ∈ gT := gT_s 27 (by decide +kernel) rfl
theorem gs_28 : Cond.selects RX12 yX12_moneyIn yX12_moneyIn ∈ gT := gT_s 28 (by decide +kernel) rfl
theorem gs_29 : Cond.selects RX12 yX12_isOver yX12_isOver ∈ gT := gT_s 29 (by decide +kernel) rfl
theorem gs_30 : Cond.selects RX12 yX12_hasChannels yX12_hasChannels ∈ gT := gT_s 30 (by decide +kernel) rfl
theorem gs_31 : Cond.selects RX12 yX12_begins yX12_begins ∈ gT := gT_s 31 (by decide +kernel) rfl
theorem gs_32 : Cond.selects RX12 yX12_notes yX12_notes ∈ gT := gT_s 32 (by decide +kernel) rfl
theorem gs_33 : Cond.selects RX12 yX12_getsSlice yX12_getsSlice ∈ gT := gT_s 33 (by decide +kernel) rfl
theorem gs_34 : Cond.selects RX12 yX12_bundleFor yX12_bundleFor ∈ gT := gT_s 34 (by decide +kernel) rfl
theorem gs_35 : Cond.selects RX12 yX12_isAhead yX12_isAhead ∈ gT := gT_s 35 (by decide +kernel) rfl
theorem gs_36 : Cond.selects RX12 yX12_moneyFor yX12_moneyFor ∈ gT := gT_s 36 (by decide +kernel) rfl
theorem gs_37 : Cond.selects RX12 yX12_rateNow yX12_rateNow ∈ gT := gT_s 37 (by decide +kernel) rfl
theorem gs_38 : Cond.selects RX12 yX12_lets yX12_lets ∈ gT := gT_s 38 (by decide +kernel) rfl
theorem gs_39 : Cond.selects RX12 yX12_costToday yX12_costToday ∈ gT := gT_s 39 (by decide +kernel) rfl
theorem gs_40 : Cond.selects RX12 yX12_giverTo yX12_giverTo ∈ gT := gT_s 40 (by decide +kernel) rfl
theorem gs_41 : Cond.selects RX12 yX12_goesBack yX12_goesBack ∈ gT := gT_s 41 (by decide +kernel) rfl
theorem gs_42 : Cond.selects RX12 yX12_closes yX12_closes ∈ gT := gT_s 42 (by decide +kernel) rfl
theorem gs_43 : Cond.selects RX12 yX12_stops yX12_stops ∈ gT := gT_s 43 (by decide +kernel) rfl
theorem gs_44 : Cond.selects RX12 yX12_allGoesBack yX12_allGoesBack ∈ gT := gT_s 44 (by decide +kernel) rfl
theorem gs_45 : Cond.selects RX12 yX12_partiesOf yX12_partiesOf ∈ gT := gT_s 45 (by decide +kernel) rfl
theorem gs_46 : Cond.selects RX12 yX12_isCall yX12_isCall ∈ gT := gT_s 46 (by decide +kernel) rfl
theorem gs_47 : Cond.selects RX12 yX12_lives yX12_lives ∈ gT := gT_s 47 (by decide +kernel) rfl
theorem gs_48 : Cond.selects RX12 yX12_rates yX12_rates ∈ gT := gT_s 48 (by decide +kernel) rfl
theorem gs_49 : Cond.selects RX12 yX12_isAsked yX12_isAsked ∈ gT := gT_s 49 (by decide +kernel) rfl
theorem gs_50 : Cond.selects RX12 yX12_isAskedOf yX12_isAskedOf ∈ gT := gT_s 50 (by decide +kernel) rfl
theorem gs_51 : Cond.selects RX12 yX12_isLeg yX12_isLeg ∈ gT := gT_s 51 (by decide +kernel) rfl
theorem gs_52 : Cond.selects RX12 yX12_sealOf yX12_sealOf ∈ gT := gT_s 52 (by decide +kernel) rfl
theorem gs_53 : Cond.selects RX12 yX12_sign yX12_sign ∈ gT := gT_s 53 (by decide +kernel) rfl
theorem gs_54 : Cond.selects RX12 yX12_number yX12_number ∈ gT := gT_s 54 (by decide +kernel) rfl
theorem hd_yX12_allGoesBack : yX12_allGoesBack.cls = RX12 ∧ yX12_allGoesBack.cls ≠ "java/lang/invoke/MethodHandle" ∧ yX12_allGoesBack.cls ≠ "java/lang/invoke/VarHandle" ∧ (parseMethodDescriptor yX12_allGoesBack.desc).map (fun d => d.parameters.length) = some 1 := by decide +kernel
theorem hd_yX12_areNeighbours : yX12_areNeighbours.cls = RX12 ∧ yX12_areNeighbours.cls ≠ "java/lang/invoke/MethodHandle" ∧ yX12_areNeighbours.cls ≠ "java/lang/invoke/VarHandle" ∧ (parseMethodDescriptor yX12_areNeighbours.desc).map (fun d => d.parameters.length) = some 2 := by decide +kernel
theorem hd_yX12_begins : yX12_begins.cls = RX12 ∧ yX12_begins.cls ≠ "java/lang/invoke/MethodHandle" ∧ yX12_begins.cls ≠ "java/lang/invoke/VarHandle" ∧ (parseMethodDescriptor yX12_begins.desc).map (fun d => d.parameters.length) = some 3 := by decide +kernel
theorem hd_yX12_bundleFor : yX12_bundleFor.cls = RX12 ∧ yX12_bundleFor.cls ≠ "java/lang/invoke/MethodHandle" ∧ yX12_bundleFor.cls ≠ "java/lang/invoke/VarHandle" ∧ (parseMethodDescriptor yX12_bundleFor.desc).map (fun d => d.parameters.length) = some 1 := by decide +kernel
theorem hd_yX12_can : yX12_can.cls = RX12 ∧ yX12_can.cls ≠ "java/lang/invoke/MethodHandle" ∧ yX12_can.cls ≠ "java/lang/invoke/VarHandle" ∧ (parseMethodDescriptor yX12_can.desc).map (fun d => d.parameters.length) = some 1 := by decide +kernel
theorem hd_yX12_closes : yX12_closes.cls = RX12 ∧ yX12_closes.cls ≠ "java/lang/invoke/MethodHandle" ∧ yX12_closes.cls ≠ "java/lang/invoke/VarHandle" ∧ (parseMethodDescriptor yX12_closes.desc).map (fun d => d.parameters.length) = some 3 := by decide +kernel
theorem hd_yX12_costToday : yX12_costToday.cls = RX12 ∧ yX12_costToday.cls ≠ "java/lang/invoke/MethodHandle" ∧ yX12_costToday.cls ≠ "java/lang/invoke/VarHandle" ∧ (parseMethodDescriptor yX12_costToday.desc).map (fun d => d.parameters.length) = some 1 := by decide +kernel
theorem hd_yX12_getsSlice : yX12_getsSlice.cls = RX12 ∧ yX12_getsSlice.cls ≠ "java/lang/invoke/MethodHandle" ∧ yX12_getsSlice.cls ≠ "java/lang/invoke/VarHandle" ∧ (parseMethodDescriptor yX12_getsSlice.desc).map (fun d => d.parameters.length) = some 1 := by decide +kernel
theorem hd_yX12_giverTo : yX12_giverTo.cls = RX12 ∧ yX12_giverTo.cls ≠ "java/lang/invoke/MethodHandle" ∧ yX12_giverTo.cls ≠ "java/lang/invoke/VarHandle" ∧ (parseMethodDescriptor yX12_giverTo.desc).map (fun d => d.parameters.length) = some 1 := by decide +kernel
theorem hd_yX12_goesBack : yX12_goesBack.cls = RX12 ∧ yX12_goesBack.cls ≠ "java/lang/invoke/MethodHandle" ∧ yX12_goesBack.cls ≠ "java/lang/invoke/VarHandle" ∧ (parseMethodDescriptor yX12_goesBack.desc).map (fun d => d.parameters.length) = some 2 := by decide +kernel
theorem hd_yX12_hasChannels : yX12_hasChannels.cls = RX12 ∧ yX12_hasChannels.cls ≠ "java/lang/invoke/MethodHandle" ∧ yX12_hasChannels.cls ≠ "java/lang/invoke/VarHandle" ∧ (parseMethodDescriptor yX12_hasChannels.desc).map (fun d => d.parameters.length) = some 2 := by decide +kernel
theorem hd_yX12_isAhead : yX12_isAhead.cls = RX12 ∧ yX12_isAhead.cls ≠ "java/lang/invoke/MethodHandle" ∧ yX12_isAhead.cls ≠ "java/lang/invoke/VarHandle" ∧ (parseMethodDescriptor yX12_isAhead.desc).map (fun d => d.parameters.length) = some 2 := by decide +kernel
theorem hd_yX12_isAsked : yX12_isAsked.cls = RX12 ∧ yX12_isAsked.cls ≠ "java/lang/invoke/MethodHandle" ∧ yX12_isAsked.cls ≠ "java/lang/invoke/VarHandle" ∧ (parseMethodDescriptor yX12_isAsked.desc).map (fun d => d.parameters.length) = some 1 := by decide +kernel
theorem hd_yX12_isAskedOf : yX12_isAskedOf.cls = RX12 ∧ yX12_isAskedOf.cls ≠ "java/lang/invoke/MethodHandle" ∧ yX12_isAskedOf.cls ≠ "java/lang/invoke/VarHandle" ∧ (parseMethodDescriptor yX12_isAskedOf.desc).map (fun d => d.parameters.length) = some 1 := by decide +kernel
theorem hd_yX12_isCall : yX12_isCall.cls = RX12 ∧ yX12_isCall.cls ≠ "java/lang/invoke/MethodHandle" ∧ yX12_isCall.cls ≠ "java/lang/invoke/VarHandle" ∧ (parseMethodDescriptor yX12_isCall.desc).map (fun d => d.parameters.length) = some 1 := by decide +kernel
theorem hd_yX12_isCell : yX12_isCell.cls = RX12 ∧ yX12_isCell.cls ≠ "java/lang/invoke/MethodHandle" ∧ yX12_isCell.cls ≠ "java/lang/invoke/VarHandle" ∧ (parseMethodDescriptor yX12_isCell.desc).map (fun d => d.parameters.length) = some 1 := by decide +kernel
theorem hd_yX12_isIn : yX12_isIn.cls = RX12 ∧ yX12_isIn.cls ≠ "java/lang/invoke/MethodHandle" ∧ yX12_isIn.cls ≠ "java/lang/invoke/VarHandle" ∧ (parseMethodDescriptor yX12_isIn.desc).map (fun d => d.parameters.length) = some 3 := by decide +kernel
theorem hd_yX12_isLeg : yX12_isLeg.cls = RX12 ∧ yX12_isLeg.cls ≠ "java/lang/invoke/MethodHandle" ∧ yX12_isLeg.cls ≠ "java/lang/invoke/VarHandle" ∧ (parseMethodDescriptor yX12_isLeg.desc).map (fun d => d.parameters.length) = some 1 := by decide +kernel
theorem hd_yX12_isOver : yX12_isOver.cls = RX12 ∧ yX12_isOver.cls ≠ "java/lang/invoke/MethodHandle" ∧ yX12_isOver.cls ≠ "java/lang/invoke/VarHandle" ∧ (parseMethodDescriptor yX12_isOver.desc).map (fun d => d.parameters.length) = some 1 := by decide +kernel
theorem hd_yX12_isPhone : yX12_isPhone.cls = RX12 ∧ yX12_isPhone.cls ≠ "java/lang/invoke/MethodHandle" ∧ yX12_isPhone.cls ≠ "java/lang/invoke/VarHandle" ∧ (parseMethodDescriptor yX12_isPhone.desc).map (fun d => d.parameters.length) = some 1 := by decide +kernel
theorem hd_yX12_isWallet : yX12_isWallet.cls = RX12 ∧ yX12_isWallet.cls ≠ "java/lang/invoke/MethodHandle" ∧ yX12_isWallet.cls ≠ "java/lang/invoke/VarHandle" ∧ (parseMethodDescriptor yX12_isWallet.desc).map (fun d => d.parameters.length) = some 1 := by decide +kernel
theorem hd_yX12_isZone : yX12_isZone.cls = RX12 ∧ yX12_isZone.cls ≠ "java/lang/invoke/MethodHandle" ∧ yX12_isZone.cls ≠ "java/lang/invoke/VarHandle" ∧ (parseMethodDescriptor yX12_isZone.desc).map (fun d => d.parameters.length) = some 1 := by decide +kernel
theorem hd_yX12_legsIn : yX12_legsIn.cls = RX12 ∧ yX12_legsIn.cls ≠ "java/lang/invoke/MethodHandle" ∧ yX12_legsIn.cls ≠ "java/lang/invoke/VarHandle" ∧ (parseMethodDescriptor yX12_legsIn.desc).map (fun d => d.parameters.length) = some 1 := by decide +kernel
theorem hd_yX12_lets : yX12_lets.cls = RX12 ∧ yX12_lets.cls ≠ "java/lang/invoke/MethodHandle" ∧ yX12_lets.cls ≠ "java/lang/invoke/VarHandle" ∧ (parseMethodDescriptor yX12_lets.desc).map (fun d => d.parameters.length) = some 2 := by decide +kernel
theorem hd_yX12_lives : yX12_lives.cls = RX12 ∧ yX12_lives.cls ≠ "java/lang/invoke/MethodHandle" ∧ yX12_lives.cls ≠ "java/lang/invoke/VarHandle" ∧ (parseMethodDescriptor yX12_lives.desc).map (fun d => d.parameters.length) = some 1 := by decide +kernel
theorem hd_yX12_moneyFor : yX12_moneyFor.cls = RX12 ∧ yX12_moneyFor.cls ≠ "java/lang/invoke/MethodHandle" ∧ yX12_moneyFor.cls ≠ "java/lang/invoke/VarHandle" ∧ (parseMethodDescriptor yX12_moneyFor.desc).map (fun d => d.parameters.length) = some 1 := by decide +kernel
theorem hd_yX12_moneyIn : yX12_moneyIn.cls = RX12 ∧ yX12_moneyIn.cls ≠ "java/lang/invoke/MethodHandle" ∧ yX12_moneyIn.cls ≠ "java/lang/invoke/VarHandle" ∧ (parseMethodDescriptor yX12_moneyIn.desc).map (fun d => d.parameters.length) = some 1 := by decide +kernel
theorem hd_yX12_notes : yX12_notes.cls = RX12 ∧ yX12_notes.cls ≠ "java/lang/invoke/MethodHandle" ∧ yX12_notes.cls ≠ "java/lang/invoke/VarHandle" ∧ (parseMethodDescriptor yX12_notes.desc).map (fun d => d.parameters.length) = some 4 := by decide +kernel
theorem hd_yX12_number : yX12_number.cls = RX12 ∧ yX12_number.cls ≠ "java/lang/invoke/MethodHandle" ∧ yX12_number.cls ≠ "java/lang/invoke/VarHandle" ∧ (parseMethodDescriptor yX12_number.desc).map (fun d => d.parameters.length) = some 1 := by decide +kernel
theorem hd_yX12_partiesOf : yX12_partiesOf.cls = RX12 ∧ yX12_partiesOf.cls ≠ "java/lang/invoke/MethodHandle" ∧ yX12_partiesOf.cls ≠ "java/lang/invoke/VarHandle" ∧ (parseMethodDescriptor yX12_partiesOf.desc).map (fun d => d.parameters.length) = some 1 := by decide +kernel
theorem hd_yX12_rateNow : yX12_rateNow.cls = RX12 ∧ yX12_rateNow.cls ≠ "java/lang/invoke/MethodHandle" ∧ yX12_rateNow.cls ≠ "java/lang/invoke/VarHandle" ∧ (parseMethodDescriptor yX12_rateNow.desc).map (fun d => d.parameters.length) = some 1 := by decide +kernel
theorem hd_yX12_rates : yX12_rates.cls = RX12 ∧ yX12_rates.cls ≠ "java/lang/invoke/MethodHandle" ∧ yX12_rates.cls ≠ "java/lang/invoke/VarHandle" ∧ (parseMethodDescriptor yX12_rates.desc).map (fun d => d.parameters.length) = some 1 := by decide +kernel
theorem hd_yX12_sealOf : yX12_sealOf.cls = RX12 ∧ yX12_sealOf.cls ≠ "java/lang/invoke/MethodHandle" ∧ yX12_sealOf.cls ≠ "java/lang/invoke/VarHandle" ∧ (parseMethodDescriptor yX12_sealOf.desc).map (fun d => d.parameters.length) = some 1 := by decide +kernel
theorem hd_yX12_sign : yX12_sign.cls = RX12 ∧ yX12_sign.cls ≠ "java/lang/invoke/MethodHandle" ∧ yX12_sign.cls ≠ "java/lang/invoke/VarHandle" ∧ (parseMethodDescriptor yX12_sign.desc).map (fun d => d.parameters.length) = some 1 := by decide +kernel
theorem hd_yX12_stops : yX12_stops.cls = RX12 ∧ yX12_stops.cls ≠ "java/lang/invoke/MethodHandle" ∧ yX12_stops.cls ≠ "java/lang/invoke/VarHandle" ∧ (parseMethodDescriptor yX12_stops.desc).map (fun d => d.parameters.length) = some 3 := by decide +kernel
theorem hd_yX12_today : yX12_today.cls = RX12 ∧ yX12_today.cls ≠ "java/lang/invoke/MethodHandle" ∧ yX12_today.cls ≠ "java/lang/invoke/VarHandle" ∧ (parseMethodDescriptor yX12_today.desc).map (fun d => d.parameters.length) = some 0 := by decide +kernel
theorem hd_yX12_turned : yX12_turned.cls = RX12 ∧ yX12_turned.cls ≠ "java/lang/invoke/MethodHandle" ∧ yX12_turned.cls ≠ "java/lang/invoke/VarHandle" ∧ (parseMethodDescriptor yX12_turned.desc).map (fun d => d.parameters.length) = some 1 := by decide +kernel
