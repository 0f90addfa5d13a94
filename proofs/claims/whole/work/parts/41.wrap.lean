theorem t_830 : Cond.castable "java/lang/IllegalArgumentException" "java/lang/IllegalArgumentException" ∈ lw_tbl := List.mem_of_getElem? (i := 830) (by decide +kernel)
theorem b_1031 : Cond.classLink "YarnMillLaw" 13 "java/lang/IllegalArgumentException" ∈ lw_good := bB 1031 (by decide +kernel) (by decide +kernel)
theorem b_1032 : Cond.classLink "YarnMillLaw" 15 "java/lang/IllegalStateException" ∈ lw_good := bB 1032 (by decide +kernel) (by decide +kernel)
theorem b_1033 : Cond.classLink "YarnMillLaw" 17 "java/lang/UnsupportedOperationException" ∈ lw_good := bB 1033 (by decide +kernel) (by decide +kernel)
theorem b_1034 : Cond.methodLink "YarnMillLaw" 7 yX12_buyBale ∈ lw_good := bB 1034 (by decide +kernel) (by decide +kernel)
theorem b_1035 : Cond.instanceMethod yX12_buyBale ∈ lw_good := bB 1035 (by decide +kernel) (by decide +kernel)
theorem b_1036 : Cond.selects "YarnMill" yX12_buyBale yX12_buyBale ∈ lw_good := bB 1036 (by decide +kernel) (by decide +kernel)
theorem b_1037 : Cond.code yX12_buyBale cX12_buyBale 4 (some .int) ∈ lw_good := bB 1037 (by decide +kernel) (by decide +kernel)
theorem t_1143 : Cond.castable "java/lang/IllegalStateException" "java/lang/IllegalStateException" ∈ lw_tbl := List.mem_of_getElem? (i := 1143) (by decide +kernel)
theorem t_1159 : Cond.castable "java/lang/UnsupportedOperationException" "java/lang/UnsupportedOperationException" ∈ lw_tbl := List.mem_of_getElem? (i := 1159) (by decide +kernel)
theorem t_1175 : Cond.castable "java/util/NoSuchElementException" "java/util/NoSuchElementException" ∈ lw_tbl := List.mem_of_getElem? (i := 1175) (by decide +kernel)
theorem t_1191 : Cond.castable "java/lang/IndexOutOfBoundsException" "java/lang/IndexOutOfBoundsException" ∈ lw_tbl := List.mem_of_getElem? (i := 1191) (by decide +kernel)
theorem b_1283 : Cond.methodLink "YarnMillLaw" 19 yX12_blend ∈ lw_good := bB 1283 (by decide +kernel) (by decide +kernel)
theorem b_1284 : Cond.instanceMethod yX12_blend ∈ lw_good := bB 1284 (by decide +kernel) (by decide +kernel)
theorem b_1285 : Cond.selects "YarnMill" yX12_blend yX12_blend ∈ lw_good := bB 1285 (by decide +kernel) (by decide +kernel)
theorem b_1286 : Cond.code yX12_blend cX12_blend 3 (some .int) ∈ lw_good := bB 1286 (by decide +kernel) (by decide +kernel)
theorem b_1292 : Cond.methodLink "YarnMillLaw" 23 yX12_addOrder ∈ lw_good := bB 1292 (by decide +kernel) (by decide +kernel)
theorem b_1293 : Cond.instanceMethod yX12_addOrder ∈ lw_good := bB 1293 (by decide +kernel) (by decide +kernel)
theorem b_1294 : Cond.selects "YarnMill" yX12_addOrder yX12_addOrder ∈ lw_good := bB 1294 (by decide +kernel) (by decide +kernel)
theorem b_1295 : Cond.code yX12_addOrder cX12_addOrder 3 (some .int) ∈ lw_good := bB 1295 (by decide +kernel) (by decide +kernel)
theorem b_1301 : Cond.classLink "YarnMillLaw" 30 "java/util/NoSuchElementException" ∈ lw_good := bB 1301 (by decide +kernel) (by decide +kernel)
theorem b_1302 : Cond.methodLink "YarnMillLaw" 26 yX12_cancelOrder ∈ lw_good := bB 1302 (by decide +kernel) (by decide +kernel)
theorem b_1303 : Cond.instanceMethod yX12_cancelOrder ∈ lw_good := bB 1303 (by decide +kernel) (by decide +kernel)
theorem b_1304 : Cond.selects "YarnMill" yX12_cancelOrder yX12_cancelOrder ∈ lw_good := bB 1304 (by decide +kernel) (by decide +kernel)
theorem b_1305 : Cond.code yX12_cancelOrder cX12_cancelOrder 2 (some .int) ∈ lw_good := bB 1305 (by decide +kernel) (by decide +kernel)
theorem b_1311 : Cond.methodLink "YarnMillLaw" 32 yX12_setMachines ∈ lw_good := bB 1311 (by decide +kernel) (by decide +kernel)
theorem b_1312 : Cond.instanceMethod yX12_setMachines ∈ lw_good := bB 1312 (by decide +kernel) (by decide +kernel)
theorem b_1313 : Cond.selects "YarnMill" yX12_setMachines yX12_setMachines ∈ lw_good := bB 1313 (by decide +kernel) (by decide +kernel)
theorem b_1314 : Cond.code yX12_setMachines cX12_setMachines 2 (some .int) ∈ lw_good := bB 1314 (by decide +kernel) (by decide +kernel)
theorem b_1320 : Cond.methodLink "YarnMillLaw" 35 yX12_spin ∈ lw_good := bB 1320 (by decide +kernel) (by decide +kernel)
theorem b_1321 : Cond.instanceMethod yX12_spin ∈ lw_good := bB 1321 (by decide +kernel) (by decide +kernel)
theorem b_1322 : Cond.selects "YarnMill" yX12_spin yX12_spin ∈ lw_good := bB 1322 (by decide +kernel) (by decide +kernel)
theorem b_1323 : Cond.code yX12_spin cX12_spin 2 (some .int) ∈ lw_good := bB 1323 (by decide +kernel) (by decide +kernel)
theorem b_1329 : Cond.classLink "YarnMillLaw" 41 "java/lang/IndexOutOfBoundsException" ∈ lw_good := bB 1329 (by decide +kernel) (by decide +kernel)
theorem b_1332 : Cond.methodLink "YarnMillLaw" 38 yX12_splice ∈ lw_good := bB 1332 (by decide +kernel) (by decide +kernel)
theorem b_1333 : Cond.instanceMethod yX12_splice ∈ lw_good := bB 1333 (by decide +kernel) (by decide +kernel)
theorem b_1334 : Cond.selects "YarnMill" yX12_splice yX12_splice ∈ lw_good := bB 1334 (by decide +kernel) (by decide +kernel)
theorem b_1335 : Cond.code yX12_splice cX12_splice 2 (some .int) ∈ lw_good := bB 1335 (by decide +kernel) (by decide +kernel)
theorem b_1341 : Cond.methodLink "YarnMillLaw" 43 yX12_spliceAll ∈ lw_good := bB 1341 (by decide +kernel) (by decide +kernel)
theorem b_1342 : Cond.instanceMethod yX12_spliceAll ∈ lw_good := bB 1342 (by decide +kernel) (by decide +kernel)
theorem b_1343 : Cond.selects "YarnMill" yX12_spliceAll yX12_spliceAll ∈ lw_good := bB 1343 (by decide +kernel) (by decide +kernel)
theorem b_1344 : Cond.code yX12_spliceAll cX12_spliceAll 1 (some .int) ∈ lw_good := bB 1344 (by decide +kernel) (by decide +kernel)
theorem b_1350 : Cond.methodLink "YarnMillLaw" 47 yX12_sell ∈ lw_good := bB 1350 (by decide +kernel) (by decide +kernel)
theorem b_1351 : Cond.instanceMethod yX12_sell ∈ lw_good := bB 1351 (by decide +kernel) (by decide +kernel)
theorem b_1352 : Cond.selects "YarnMill" yX12_sell yX12_sell ∈ lw_good := bB 1352 (by decide +kernel) (by decide +kernel)
theorem b_1353 : Cond.code yX12_sell cX12_sell 2 (some .int) ∈ lw_good := bB 1353 (by decide +kernel) (by decide +kernel)
theorem b_1359 : Cond.methodLink "YarnMillLaw" 50 yX12_baleAt ∈ lw_good := bB 1359 (by decide +kernel) (by decide +kernel)
theorem b_1360 : Cond.instanceMethod yX12_baleAt ∈ lw_good := bB 1360 (by decide +kernel) (by decide +kernel)
theorem b_1361 : Cond.selects "YarnMill" yX12_baleAt yX12_baleAt ∈ lw_good := bB 1361 (by decide +kernel) (by decide +kernel)
theorem b_1362 : Cond.code yX12_baleAt cX12_baleAt 2 (some .int) ∈ lw_good := bB 1362 (by decide +kernel) (by decide +kernel)
theorem b_1367 : Cond.methodLink "YarnMillLaw" 53 yX12_weight ∈ lw_good := bB 1367 (by decide +kernel) (by decide +kernel)
theorem b_1368 : Cond.instanceMethod yX12_weight ∈ lw_good := bB 1368 (by decide +kernel) (by decide +kernel)
theorem b_1369 : Cond.selects "YarnMill" yX12_weight yX12_weight ∈ lw_good := bB 1369 (by decide +kernel) (by decide +kernel)
theorem b_1370 : Cond.code yX12_weight cX12_weight 2 (some .int) ∈ lw_good := bB 1370 (by decide +kernel) (by decide +kernel)
theorem b_1379 : Cond.methodLink "YarnMillLaw" 56 yX12_staple ∈ lw_good := bB 1379 (by decide +kernel) (by decide +kernel)
theorem b_1380 : Cond.instanceMethod yX12_staple ∈ lw_good := bB 1380 (by decide +kernel) (by decide +kernel)
theorem b_1381 : Cond.selects "YarnMill" yX12_staple yX12_staple ∈ lw_good := bB 1381 (by decide +kernel) (by decide +kernel)
theorem b_1382 : Cond.code yX12_staple cX12_staple 2 (some .int) ∈ lw_good := bB 1382 (by decide +kernel) (by decide +kernel)
theorem b_1386 : Cond.methodLink "YarnMillLaw" 59 yX12_price ∈ lw_good := bB 1386 (by decide +kernel) (by decide +kernel)
theorem b_1387 : Cond.instanceMethod yX12_price ∈ lw_good := bB 1387 (by decide +kernel) (by decide +kernel)
theorem b_1388 : Cond.selects "YarnMill" yX12_price yX12_price ∈ lw_good := bB 1388 (by decide +kernel) (by decide +kernel)
theorem b_1389 : Cond.code yX12_price cX12_price 2 (some .int) ∈ lw_good := bB 1389 (by decide +kernel) (by decide +kernel)
theorem b_1393 : Cond.methodLink "YarnMillLaw" 62 yX12_baleByValue ∈ lw_good := bB 1393 (by decide +kernel) (by decide +kernel)
theorem b_1394 : Cond.instanceMethod yX12_baleByValue ∈ lw_good := bB 1394 (by decide +kernel) (by decide +kernel)
theorem b_1395 : Cond.selects "YarnMill" yX12_baleByValue yX12_baleByValue ∈ lw_good := bB 1395 (by decide +kernel) (by decide +kernel)
theorem b_1396 : Cond.code yX12_baleByValue cX12_baleByValue 2 (some .int) ∈ lw_good := bB 1396 (by decide +kernel) (by decide +kernel)
theorem b_1418 : Cond.methodLink "YarnMillLaw" 65 yX12_blendValue ∈ lw_good := bB 1418 (by decide +kernel) (by decide +kernel)
theorem b_1419 : Cond.instanceMethod yX12_blendValue ∈ lw_good := bB 1419 (by decide +kernel) (by decide +kernel)
theorem b_1420 : Cond.selects "YarnMill" yX12_blendValue yX12_blendValue ∈ lw_good := bB 1420 (by decide +kernel) (by decide +kernel)
theorem b_1421 : Cond.code yX12_blendValue cX12_blendValue 3 (some .int) ∈ lw_good := bB 1421 (by decide +kernel) (by decide +kernel)
theorem b_1433 : Cond.methodLink "YarnMillLaw" 68 yX12_blendValueBySearch ∈ lw_good := bB 1433 (by decide +kernel) (by decide +kernel)
theorem b_1434 : Cond.instanceMethod yX12_blendValueBySearch ∈ lw_good := bB 1434 (by decide +kernel) (by decide +kernel)
theorem b_1435 : Cond.selects "YarnMill" yX12_blendValueBySearch yX12_blendValueBySearch ∈ lw_good := bB 1435 (by decide +kernel) (by decide +kernel)
theorem b_1436 : Cond.code yX12_blendValueBySearch cX12_blendValueBySearch 3 (some .int) ∈ lw_good := bB 1436 (by decide +kernel) (by decide +kernel)
theorem b_1440 : Cond.methodLink "YarnMillLaw" 71 yX12_isInBlend ∈ lw_good := bB 1440 (by decide +kernel) (by decide +kernel)
theorem b_1441 : Cond.instanceMethod yX12_isInBlend ∈ lw_good := bB 1441 (by decide +kernel) (by decide +kernel)
theorem b_1442 : Cond.selects "YarnMill" yX12_isInBlend yX12_isInBlend ∈ lw_good := bB 1442 (by decide +kernel) (by decide +kernel)
theorem b_1443 : Cond.code yX12_isInBlend cX12_isInBlend 6 (some .boolean) ∈ lw_good := bB 1443 (by decide +kernel) (by decide +kernel)
theorem b_1447 : Cond.methodLink "YarnMillLaw" 75 yX12_orderAt ∈ lw_good := bB 1447 (by decide +kernel) (by decide +kernel)
theorem b_1448 : Cond.instanceMethod yX12_orderAt ∈ lw_good := bB 1448 (by decide +kernel) (by decide +kernel)
theorem b_1449 : Cond.selects "YarnMill" yX12_orderAt yX12_orderAt ∈ lw_good := bB 1449 (by decide +kernel) (by decide +kernel)
theorem b_1450 : Cond.code yX12_orderAt cX12_orderAt 2 (some .int) ∈ lw_good := bB 1450 (by decide +kernel) (by decide +kernel)
theorem b_1455 : Cond.methodLink "YarnMillLaw" 78 yX12_lengthOf ∈ lw_good := bB 1455 (by decide +kernel) (by decide +kernel)
theorem b_1456 : Cond.instanceMethod yX12_lengthOf ∈ lw_good := bB 1456 (by decide +kernel) (by decide +kernel)
theorem b_1457 : Cond.selects "YarnMill" yX12_lengthOf yX12_lengthOf ∈ lw_good := bB 1457 (by decide +kernel) (by decide +kernel)
theorem b_1458 : Cond.code yX12_lengthOf cX12_lengthOf 2 (some .int) ∈ lw_good := bB 1458 (by decide +kernel) (by decide +kernel)
theorem b_1466 : Cond.methodLink "YarnMillLaw" 81 yX12_twistOf ∈ lw_good := bB 1466 (by decide +kernel) (by decide +kernel)
theorem b_1467 : Cond.instanceMethod yX12_twistOf ∈ lw_good := bB 1467 (by decide +kernel) (by decide +kernel)
theorem b_1468 : Cond.selects "YarnMill" yX12_twistOf yX12_twistOf ∈ lw_good := bB 1468 (by decide +kernel) (by decide +kernel)
theorem b_1469 : Cond.code yX12_twistOf cX12_twistOf 2 (some .int) ∈ lw_good := bB 1469 (by decide +kernel) (by decide +kernel)
theorem b_1473 : Cond.methodLink "YarnMillLaw" 84 yX12_minutesOf ∈ lw_good := bB 1473 (by decide +kernel) (by decide +kernel)
theorem b_1474 : Cond.instanceMethod yX12_minutesOf ∈ lw_good := bB 1474 (by decide +kernel) (by decide +kernel)
theorem b_1475 : Cond.selects "YarnMill" yX12_minutesOf yX12_minutesOf ∈ lw_good := bB 1475 (by decide +kernel) (by decide +kernel)
theorem b_1476 : Cond.code yX12_minutesOf cX12_minutesOf 2 (some .int) ∈ lw_good := bB 1476 (by decide +kernel) (by decide +kernel)
theorem b_1480 : Cond.methodLink "YarnMillLaw" 87 yX12_canSpin ∈ lw_good := bB 1480 (by decide +kernel) (by decide +kernel)
theorem b_1481 : Cond.instanceMethod yX12_canSpin ∈ lw_good := bB 1481 (by decide +kernel) (by decide +kernel)
theorem b_1482 : Cond.selects "YarnMill" yX12_canSpin yX12_canSpin ∈ lw_good := bB 1482 (by decide +kernel) (by decide +kernel)
theorem b_1483 : Cond.code yX12_canSpin cX12_canSpin 2 (some .boolean) ∈ lw_good := bB 1483 (by decide +kernel) (by decide +kernel)
theorem b_1487 : Cond.methodLink "YarnMillLaw" 91 yX12_orderByTime ∈ lw_good := bB 1487 (by decide +kernel) (by decide +kernel)
theorem b_1488 : Cond.instanceMethod yX12_orderByTime ∈ lw_good := bB 1488 (by decide +kernel) (by decide +kernel)
theorem b_1489 : Cond.selects "YarnMill" yX12_orderByTime yX12_orderByTime ∈ lw_good := bB 1489 (by decide +kernel) (by decide +kernel)
theorem b_1490 : Cond.code yX12_orderByTime cX12_orderByTime 2 (some .int) ∈ lw_good := bB 1490 (by decide +kernel) (by decide +kernel)
theorem b_1499 : Cond.methodLink "YarnMillLaw" 94 yX12_pieceLength ∈ lw_good := bB 1499 (by decide +kernel) (by decide +kernel)
theorem b_1500 : Cond.instanceMethod yX12_pieceLength ∈ lw_good := bB 1500 (by decide +kernel) (by decide +kernel)
theorem b_1501 : Cond.selects "YarnMill" yX12_pieceLength yX12_pieceLength ∈ lw_good := bB 1501 (by decide +kernel) (by decide +kernel)
theorem b_1502 : Cond.code yX12_pieceLength cX12_pieceLength 2 (some .int) ∈ lw_good := bB 1502 (by decide +kernel) (by decide +kernel)
theorem b_1510 : Cond.methodLink "YarnMillLaw" 97 yX12_longestPiece ∈ lw_good := bB 1510 (by decide +kernel) (by decide +kernel)
theorem b_1511 : Cond.instanceMethod yX12_longestPiece ∈ lw_good := bB 1511 (by decide +kernel) (by decide +kernel)
theorem b_1512 : Cond.selects "YarnMill" yX12_longestPiece yX12_longestPiece ∈ lw_good := bB 1512 (by decide +kernel) (by decide +kernel)
theorem b_1513 : Cond.code yX12_longestPiece cX12_longestPiece 1 (some .int) ∈ lw_good := bB 1513 (by decide +kernel) (by decide +kernel)
theorem b_1522 : Cond.methodLink "YarnMillLaw" 100 yX12_pieceByLength ∈ lw_good := bB 1522 (by decide +kernel) (by decide +kernel)
theorem b_1523 : Cond.instanceMethod yX12_pieceByLength ∈ lw_good := bB 1523 (by decide +kernel) (by decide +kernel)
theorem b_1524 : Cond.selects "YarnMill" yX12_pieceByLength yX12_pieceByLength ∈ lw_good := bB 1524 (by decide +kernel) (by decide +kernel)
theorem b_1525 : Cond.code yX12_pieceByLength cX12_pieceByLength 2 (some .int) ∈ lw_good := bB 1525 (by decide +kernel) (by decide +kernel)
theorem b_1529 : Cond.methodLink "YarnMillLaw" 103 yX12_worthOf ∈ lw_good := bB 1529 (by decide +kernel) (by decide +kernel)
theorem b_1530 : Cond.instanceMethod yX12_worthOf ∈ lw_good := bB 1530 (by decide +kernel) (by decide +kernel)
theorem b_1531 : Cond.selects "YarnMill" yX12_worthOf yX12_worthOf ∈ lw_good := bB 1531 (by decide +kernel) (by decide +kernel)
theorem b_1532 : Cond.code yX12_worthOf cX12_worthOf 2 (some .int) ∈ lw_good := bB 1532 (by decide +kernel) (by decide +kernel)
theorem b_1537 : Cond.classLink "YarnMillLaw" 110 "java/lang/ArithmeticException" ∈ lw_good := bB 1537 (by decide +kernel) (by decide +kernel)
theorem t_1549 : Cond.castable "java/lang/ArithmeticException" "java/lang/ArithmeticException" ∈ lw_tbl := List.mem_of_getElem? (i := 1549) (by decide +kernel)
theorem b_1551 : Cond.methodLink "YarnMillLaw" 106 yX12_meanLength ∈ lw_good := bB 1551 (by decide +kernel) (by decide +kernel)
theorem b_1552 : Cond.instanceMethod yX12_meanLength ∈ lw_good := bB 1552 (by decide +kernel) (by decide +kernel)
theorem b_1553 : Cond.selects "YarnMill" yX12_meanLength yX12_meanLength ∈ lw_good := bB 1553 (by decide +kernel) (by decide +kernel)
theorem b_1554 : Cond.code yX12_meanLength cX12_meanLength 1 (some .double) ∈ lw_good := bB 1554 (by decide +kernel) (by decide +kernel)
theorem b_1564 : Cond.methodLink "YarnMillLaw" 112 yX12_longShare ∈ lw_good := bB 1564 (by decide +kernel) (by decide +kernel)
theorem b_1565 : Cond.instanceMethod yX12_longShare ∈ lw_good := bB 1565 (by decide +kernel) (by decide +kernel)
theorem b_1566 : Cond.selects "YarnMill" yX12_longShare yX12_longShare ∈ lw_good := bB 1566 (by decide +kernel) (by decide +kernel)
theorem b_1567 : Cond.code yX12_longShare cX12_longShare 1 (some .float) ∈ lw_good := bB 1567 (by decide +kernel) (by decide +kernel)
theorem b_1575 : Cond.methodLink "YarnMillLaw" 116 yX12_renderOrder ∈ lw_good := bB 1575 (by decide +kernel) (by decide +kernel)
theorem b_1576 : Cond.instanceMethod yX12_renderOrder ∈ lw_good := bB 1576 (by decide +kernel) (by decide +kernel)
theorem b_1577 : Cond.selects "YarnMill" yX12_renderOrder yX12_renderOrder ∈ lw_good := bB 1577 (by decide +kernel) (by decide +kernel)
theorem b_1578 : Cond.code yX12_renderOrder cX12_renderOrder 3 (some .int) ∈ lw_good := bB 1578 (by decide +kernel) (by decide +kernel)
theorem b_1584 : Cond.methodLink "YarnMillLaw" 119 yX12_outputAt ∈ lw_good := bB 1584 (by decide +kernel) (by decide +kernel)
theorem b_1585 : Cond.instanceMethod yX12_outputAt ∈ lw_good := bB 1585 (by decide +kernel) (by decide +kernel)
theorem b_1586 : Cond.selects "YarnMill" yX12_outputAt yX12_outputAt ∈ lw_good := bB 1586 (by decide +kernel) (by decide +kernel)
theorem b_1587 : Cond.code yX12_outputAt cX12_outputAt 2 (some .char) ∈ lw_good := bB 1587 (by decide +kernel) (by decide +kernel)
theorem b_1602 : Cond.methodLink "YarnMillLaw" 123 yX12_type ∈ lw_good := bB 1602 (by decide +kernel) (by decide +kernel)
theorem b_1603 : Cond.instanceMethod yX12_type ∈ lw_good := bB 1603 (by decide +kernel) (by decide +kernel)
theorem b_1604 : Cond.selects "YarnMill" yX12_type yX12_type ∈ lw_good := bB 1604 (by decide +kernel) (by decide +kernel)
theorem b_1605 : Cond.code yX12_type cX12_type 2 (some .int) ∈ lw_good := bB 1605 (by decide +kernel) (by decide +kernel)
theorem b_1621 : Cond.methodLink "YarnMillLaw" 127 yX12_runScript ∈ lw_good := bB 1621 (by decide +kernel) (by decide +kernel)
theorem b_1622 : Cond.instanceMethod yX12_runScript ∈ lw_good := bB 1622 (by decide +kernel) (by decide +kernel)
theorem b_1623 : Cond.selects "YarnMill" yX12_runScript yX12_runScript ∈ lw_good := bB 1623 (by decide +kernel) (by decide +kernel)
theorem b_1624 : Cond.code yX12_runScript cX12_runScript 3 (some .int) ∈ lw_good := bB 1624 (by decide +kernel) (by decide +kernel)
theorem b_1703 : Cond.methodLink "YarnMillLaw" 130 yX12_errorPosition ∈ lw_good := bB 1703 (by decide +kernel) (by decide +kernel)
theorem b_1704 : Cond.instanceMethod yX12_errorPosition ∈ lw_good := bB 1704 (by decide +kernel) (by decide +kernel)
theorem b_1705 : Cond.selects "YarnMill" yX12_errorPosition yX12_errorPosition ∈ lw_good := bB 1705 (by decide +kernel) (by decide +kernel)
theorem b_1706 : Cond.code yX12_errorPosition cX12_errorPosition 1 (some .int) ∈ lw_good := bB 1706 (by decide +kernel) (by decide +kernel)
theorem b_1711 : Cond.methodLink "YarnMillLaw" 133 yX12_failedCommand ∈ lw_good := bB 1711 (by decide +kernel) (by decide +kernel)
theorem b_1712 : Cond.instanceMethod yX12_failedCommand ∈ lw_good := bB 1712 (by decide +kernel) (by decide +kernel)
theorem b_1713 : Cond.selects "YarnMill" yX12_failedCommand yX12_failedCommand ∈ lw_good := bB 1713 (by decide +kernel) (by decide +kernel)
theorem b_1714 : Cond.code yX12_failedCommand cX12_failedCommand 1 (some .int) ∈ lw_good := bB 1714 (by decide +kernel) (by decide +kernel)
theorem b_1719 : Cond.methodLink "YarnMillLaw" 136 yX12_undo ∈ lw_good := bB 1719 (by decide +kernel) (by decide +kernel)
theorem b_1720 : Cond.instanceMethod yX12_undo ∈ lw_good := bB 1720 (by decide +kernel) (by decide +kernel)
theorem b_1721 : Cond.selects "YarnMill" yX12_undo yX12_undo ∈ lw_good := bB 1721 (by decide +kernel) (by decide +kernel)
theorem b_1722 : Cond.code yX12_undo cX12_undo 1 (some .int) ∈ lw_good := bB 1722 (by decide +kernel) (by decide +kernel)
theorem b_1735 : Cond.methodLink "YarnMillLaw" 139 yX12_restore ∈ lw_good := bB 1735 (by decide +kernel) (by decide +kernel)
theorem b_1736 : Cond.instanceMethod yX12_restore ∈ lw_good := bB 1736 (by decide +kernel) (by decide +kernel)
theorem b_1737 : Cond.selects "YarnMill" yX12_restore yX12_restore ∈ lw_good := bB 1737 (by decide +kernel) (by decide +kernel)
theorem b_1738 : Cond.code yX12_restore cX12_restore 1 (some .int) ∈ lw_good := bB 1738 (by decide +kernel) (by decide +kernel)
def wL_buyBale (a1 : Int32) (a2 : Int32) (a3 : Int32) (s0 : Mem) (Q : Int32 → Mem → Prop) : Prop := wX12_buyBale a1 a2 a3 s0 (fun (r : Int32) τ => Q 0 (wrL τ r.toInt64)) (fun E τ => (E = "java/lang/IllegalArgumentException" ∧ Q 1 τ) ∨ (E = "java/lang/IllegalStateException" ∧ Q 2 τ) ∨ (E = "java/lang/UnsupportedOperationException" ∧ Q 3 τ))
set_option maxRecDepth 20000 in
theorem oL_buyBale {l : Launch} {x : Ctx} (hl : l.stackTraces = false) (a1 : Int32) (a2 : Int32) (a3 : Int32) (s0 : Mem) (Q : Int32 → Mem → Prop) (h : wL_buyBale a1 a2 a3 s0 Q) : MetH l x yL_buyBale cL_buyBale 6 [(0, 12, 15, 13), (0, 12, 19, 15), (0, 12, 23, 17)] 9 192 1 6 [.ref (xad x 14 0), .int a1, .int a2, .int a3, .ref (xad x 17 0)] s0 (RI Q) := by
  refine MetH.of hl (by decide) (Nat.le_of_ble_eq_true rfl) [some (.ref (xad x 14 0)), some (.int a1), some (.int a2), some (.int a3), some (.ref (xad x 17 0)), none] rfl (fun K B hx _ => ?_)
  subst hx
  unfold wL_buyBale at h
  refine g_aload (np := 2) B.1 dL_buyBale_0 rfl rfl ?_
  refine g_iconst (v := 0) (np := 3) B.1 dL_buyBale_2 (by decide) rfl ?_
  refine g_aload_n (np := 4) B.1 dL_buyBale_3 rfl rfl ?_
  refine g_iload_n (np := 5) B.1 dL_buyBale_4 rfl rfl ?_
  refine g_iload_n (np := 6) B.1 dL_buyBale_5 rfl rfl ?_
  refine g_iload_n (np := 7) B.1 dL_buyBale_6 rfl rfl ?_
  refine g_callX (np := 10) B (n := 3) (As := [.int a1, .int a2, .int a3]) (oX12_buyBale B.1.tr a1 a2 a3 s0 _ _ h) b_1037 b_1034 b_1035 b_1036 b_70 (by decide +kernel) rfl (Nat.le_of_ble_eq_true rfl) (Nat.le_of_ble_eq_true rfl) (Nat.le_of_ble_eq_true rfl) dL_buyBale_7 (Nat.le_of_ble_eq_true rfl) (Nat.le_of_ble_eq_true rfl) rfl (fun r s2 hr => ?_) (fun E s2 he => ?_)
  · obtain ⟨i, rfl, h⟩ := hr
    show Go K _ _ s2 10 [some (.ref (xad (fX K) 14 0)), some (.int a1), some (.int a2), some (.int a3), some (.ref (xad (fX K) 17 0)), none] (.int i :: .int 0 :: .ref (xad (fX K) 17 0) :: [])
    refine g_i2l (np := 11) B.1 dL_buyBale_10 rfl ?_
    refine g_last (np := 12) B.1 dL_buyBale_11 rfl ?_
    refine g_goto (tgt := 27) B.1 dL_buyBale_12 (by decide) ?_
    refine g_iconst (v := 0) (np := 28) B.1 dL_buyBale_27 (by decide) rfl ?_
    exact g_iretH B (Nat.le_of_ble_eq_true rfl) (Nat.le_of_ble_eq_true rfl) dL_buyBale_28 ⟨_, rfl, h⟩
  · rcases he with ⟨rfl, h⟩ | ⟨rfl, h⟩ | ⟨rfl, h⟩
    · refine ⟨[], ⟨0, 12, 15, 13⟩, [⟨0, 12, 19, 15⟩, ⟨0, 12, 23, 17⟩], "java/lang/IllegalArgumentException", rfl, (fun z hz => absurd hz List.not_mem_nil), rfl, by decide, b_1031, t_830, fun q => ?_⟩
      refine g_astore (np := 17) (lv' := [some (.ref (xad (fX K) 14 0)), some (.int a1), some (.int a2), some (.int a3), some (.ref (xad (fX K) 17 0)), some (.ref q)]) B.1 dL_buyBale_15 (by decide) rfl rfl rfl ?_
      refine g_iconst (v := 1) (np := 18) B.1 dL_buyBale_17 (by decide) rfl ?_
      exact g_iretH B (Nat.le_of_ble_eq_true rfl) (Nat.le_of_ble_eq_true rfl) dL_buyBale_18 ⟨_, rfl, h⟩
    · refine ⟨[⟨0, 12, 15, 13⟩], ⟨0, 12, 19, 15⟩, [⟨0, 12, 23, 17⟩], "java/lang/IllegalStateException", rfl, (fun z hz => by
          rcases List.mem_cons.mp hz with e | hz
          · subst e
            exact Or.inr ⟨by decide, "java/lang/IllegalArgumentException", b_1031, B.2.2.2.2.2 "java/lang/IllegalStateException" (by decide) "java/lang/IllegalArgumentException" (by decide) (by decide)⟩
          exact absurd hz List.not_mem_nil), rfl, by decide, b_1032, t_1143, fun q => ?_⟩
      refine g_astore (np := 21) (lv' := [some (.ref (xad (fX K) 14 0)), some (.int a1), some (.int a2), some (.int a3), some (.ref (xad (fX K) 17 0)), some (.ref q)]) B.1 dL_buyBale_19 (by decide) rfl rfl rfl ?_
      refine g_iconst (v := 2) (np := 22) B.1 dL_buyBale_21 (by decide) rfl ?_
      exact g_iretH B (Nat.le_of_ble_eq_true rfl) (Nat.le_of_ble_eq_true rfl) dL_buyBale_22 ⟨_, rfl, h⟩
    · refine ⟨[⟨0, 12, 15, 13⟩, ⟨0, 12, 19, 15⟩], ⟨0, 12, 23, 17⟩, [], "java/lang/UnsupportedOperationException", rfl, (fun z hz => by
          rcases List.mem_cons.mp hz with e | hz
          · subst e
            exact Or.inr ⟨by decide, "java/lang/IllegalArgumentException", b_1031, B.2.2.2.2.2 "java/lang/UnsupportedOperationException" (by decide) "java/lang/IllegalArgumentException" (by decide) (by decide)⟩
          rcases List.mem_cons.mp hz with e | hz
          · subst e
            exact Or.inr ⟨by decide, "java/lang/IllegalStateException", b_1032, B.2.2.2.2.2 "java/lang/UnsupportedOperationException" (by decide) "java/lang/IllegalStateException" (by decide) (by decide)⟩
          exact absurd hz List.not_mem_nil), rfl, by decide, b_1033, t_1159, fun q => ?_⟩
      refine g_astore (np := 25) (lv' := [some (.ref (xad (fX K) 14 0)), some (.int a1), some (.int a2), some (.int a3), some (.ref (xad (fX K) 17 0)), some (.ref q)]) B.1 dL_buyBale_23 (by decide) rfl rfl rfl ?_
      refine g_iconst (v := 3) (np := 26) B.1 dL_buyBale_25 (by decide) rfl ?_
      exact g_iretH B (Nat.le_of_ble_eq_true rfl) (Nat.le_of_ble_eq_true rfl) dL_buyBale_26 ⟨_, rfl, h⟩
def wL_blend (a1 : Int32) (a2 : Int32) (s0 : Mem) (Q : Int32 → Mem → Prop) : Prop := wX12_blend a1 a2 s0 (fun (r : Int32) τ => Q 0 (wrL τ r.toInt64)) (fun E τ => (E = "java/lang/IllegalArgumentException" ∧ Q 1 τ) ∨ (E = "java/lang/UnsupportedOperationException" ∧ Q 2 τ) ∨ (E = "java/lang/IllegalStateException" ∧ Q 3 τ))
set_option maxRecDepth 20000 in
theorem oL_blend {l : Launch} {x : Ctx} (hl : l.stackTraces = false) (a1 : Int32) (a2 : Int32) (s0 : Mem) (Q : Int32 → Mem → Prop) (h : wL_blend a1 a2 s0 Q) : MetH l x yL_blend cL_blend 5 [(0, 10, 13, 13), (0, 10, 17, 17), (0, 10, 21, 15)] 9 191 1 6 [.ref (xad x 14 0), .int a1, .int a2, .ref (xad x 17 0)] s0 (RI Q) := by
  refine MetH.of hl (by decide) (Nat.le_of_ble_eq_true rfl) [some (.ref (xad x 14 0)), some (.int a1), some (.int a2), some (.ref (xad x 17 0)), none] rfl (fun K B hx _ => ?_)
  subst hx
  unfold wL_blend at h
  refine g_aload_n (np := 1) B.1 dL_blend_0 rfl rfl ?_
  refine g_iconst (v := 0) (np := 2) B.1 dL_blend_1 (by decide) rfl ?_
  refine g_aload_n (np := 3) B.1 dL_blend_2 rfl rfl ?_
  refine g_iload_n (np := 4) B.1 dL_blend_3 rfl rfl ?_
  refine g_iload_n (np := 5) B.1 dL_blend_4 rfl rfl ?_
  refine g_callX (np := 8) B (n := 2) (As := [.int a1, .int a2]) (oX12_blend B.1.tr a1 a2 s0 _ _ h) b_1286 b_1283 b_1284 b_1285 b_70 (by decide +kernel) rfl (Nat.le_of_ble_eq_true rfl) (Nat.le_of_ble_eq_true rfl) (Nat.le_of_ble_eq_true rfl) dL_blend_5 (Nat.le_of_ble_eq_true rfl) (Nat.le_of_ble_eq_true rfl) rfl (fun r s2 hr => ?_) (fun E s2 he => ?_)
  · obtain ⟨i, rfl, h⟩ := hr
    show Go K _ _ s2 8 [some (.ref (xad (fX K) 14 0)), some (.int a1), some (.int a2), some (.ref (xad (fX K) 17 0)), none] (.int i :: .int 0 :: .ref (xad (fX K) 17 0) :: [])
    refine g_i2l (np := 9) B.1 dL_blend_8 rfl ?_
    refine g_last (np := 10) B.1 dL_blend_9 rfl ?_
    refine g_goto (tgt := 25) B.1 dL_blend_10 (by decide) ?_
    refine g_iconst (v := 0) (np := 26) B.1 dL_blend_25 (by decide) rfl ?_
    exact g_iretH B (Nat.le_of_ble_eq_true rfl) (Nat.le_of_ble_eq_true rfl) dL_blend_26 ⟨_, rfl, h⟩
  · rcases he with ⟨rfl, h⟩ | ⟨rfl, h⟩ | ⟨rfl, h⟩
    · refine ⟨[], ⟨0, 10, 13, 13⟩, [⟨0, 10, 17, 17⟩, ⟨0, 10, 21, 15⟩], "java/lang/IllegalArgumentException", rfl, (fun z hz => absurd hz List.not_mem_nil), rfl, by decide, b_1031, t_830, fun q => ?_⟩
      refine g_astore (np := 15) (lv' := [some (.ref (xad (fX K) 14 0)), some (.int a1), some (.int a2), some (.ref (xad (fX K) 17 0)), some (.ref q)]) B.1 dL_blend_13 (by decide) rfl rfl rfl ?_
      refine g_iconst (v := 1) (np := 16) B.1 dL_blend_15 (by decide) rfl ?_
      exact g_iretH B (Nat.le_of_ble_eq_true rfl) (Nat.le_of_ble_eq_true rfl) dL_blend_16 ⟨_, rfl, h⟩
    · refine ⟨[⟨0, 10, 13, 13⟩], ⟨0, 10, 17, 17⟩, [⟨0, 10, 21, 15⟩], "java/lang/UnsupportedOperationException", rfl, (fun z hz => by
          rcases List.mem_cons.mp hz with e | hz
          · subst e
            exact Or.inr ⟨by decide, "java/lang/IllegalArgumentException", b_1031, B.2.2.2.2.2 "java/lang/UnsupportedOperationException" (by decide) "java/lang/IllegalArgumentException" (by decide) (by decide)⟩
          exact absurd hz List.not_mem_nil), rfl, by decide, b_1033, t_1159, fun q => ?_⟩
      refine g_astore (np := 19) (lv' := [some (.ref (xad (fX K) 14 0)), some (.int a1), some (.int a2), some (.ref (xad (fX K) 17 0)), some (.ref q)]) B.1 dL_blend_17 (by decide) rfl rfl rfl ?_
      refine g_iconst (v := 2) (np := 20) B.1 dL_blend_19 (by decide) rfl ?_
      exact g_iretH B (Nat.le_of_ble_eq_true rfl) (Nat.le_of_ble_eq_true rfl) dL_blend_20 ⟨_, rfl, h⟩
    · refine ⟨[⟨0, 10, 13, 13⟩, ⟨0, 10, 17, 17⟩], ⟨0, 10, 21, 15⟩, [], "java/lang/IllegalStateException", rfl, (fun z hz => by
          rcases List.mem_cons.mp hz with e | hz
          · subst e
            exact Or.inr ⟨by decide, "java/lang/IllegalArgumentException", b_1031, B.2.2.2.2.2 "java/lang/IllegalStateException" (by decide) "java/lang/IllegalArgumentException" (by decide) (by decide)⟩
          rcases List.mem_cons.mp hz with e | hz
          · subst e
            exact Or.inr ⟨by decide, "java/lang/UnsupportedOperationException", b_1033, B.2.2.2.2.2 "java/lang/IllegalStateException" (by decide) "java/lang/UnsupportedOperationException" (by decide) (by decide)⟩
          exact absurd hz List.not_mem_nil), rfl, by decide, b_1032, t_1143, fun q => ?_⟩
      refine g_astore (np := 23) (lv' := [some (.ref (xad (fX K) 14 0)), some (.int a1), some (.int a2), some (.ref (xad (fX K) 17 0)), some (.ref q)]) B.1 dL_blend_21 (by decide) rfl rfl rfl ?_
      refine g_iconst (v := 3) (np := 24) B.1 dL_blend_23 (by decide) rfl ?_
      exact g_iretH B (Nat.le_of_ble_eq_true rfl) (Nat.le_of_ble_eq_true rfl) dL_blend_24 ⟨_, rfl, h⟩
def wL_addOrder (a1 : Int32) (a2 : Int32) (s0 : Mem) (Q : Int32 → Mem → Prop) : Prop := wX12_addOrder a1 a2 s0 (fun (r : Int32) τ => Q 0 (wrL τ r.toInt64)) (fun E τ => (E = "java/lang/IllegalArgumentException" ∧ Q 1 τ) ∨ (E = "java/lang/IllegalStateException" ∧ Q 2 τ))
set_option maxRecDepth 20000 in
theorem oL_addOrder {l : Launch} {x : Ctx} (hl : l.stackTraces = false) (a1 : Int32) (a2 : Int32) (s0 : Mem) (Q : Int32 → Mem → Prop) (h : wL_addOrder a1 a2 s0 Q) : MetH l x yL_addOrder cL_addOrder 5 [(0, 10, 13, 13), (0, 10, 17, 15)] 9 191 1 6 [.ref (xad x 14 0), .int a1, .int a2, .ref (xad x 17 0)] s0 (RI Q) := by
  refine MetH.of hl (by decide) (Nat.le_of_ble_eq_true rfl) [some (.ref (xad x 14 0)), some (.int a1), some (.int a2), some (.ref (xad x 17 0)), none] rfl (fun K B hx _ => ?_)
  subst hx
  unfold wL_addOrder at h
  refine g_aload_n (np := 1) B.1 dL_addOrder_0 rfl rfl ?_
  refine g_iconst (v := 0) (np := 2) B.1 dL_addOrder_1 (by decide) rfl ?_
  refine g_aload_n (np := 3) B.1 dL_addOrder_2 rfl rfl ?_
  refine g_iload_n (np := 4) B.1 dL_addOrder_3 rfl rfl ?_
  refine g_iload_n (np := 5) B.1 dL_addOrder_4 rfl rfl ?_
  refine g_callX (np := 8) B (n := 2) (As := [.int a1, .int a2]) (oX12_addOrder B.1.tr a1 a2 s0 _ _ h) b_1295 b_1292 b_1293 b_1294 b_70 (by decide +kernel) rfl (Nat.le_of_ble_eq_true rfl) (Nat.le_of_ble_eq_true rfl) (Nat.le_of_ble_eq_true rfl) dL_addOrder_5 (Nat.le_of_ble_eq_true rfl) (Nat.le_of_ble_eq_true rfl) rfl (fun r s2 hr => ?_) (fun E s2 he => ?_)
  · obtain ⟨i, rfl, h⟩ := hr
    show Go K _ _ s2 8 [some (.ref (xad (fX K) 14 0)), some (.int a1), some (.int a2), some (.ref (xad (fX K) 17 0)), none] (.int i :: .int 0 :: .ref (xad (fX K) 17 0) :: [])
    refine g_i2l (np := 9) B.1 dL_addOrder_8 rfl ?_
    refine g_last (np := 10) B.1 dL_addOrder_9 rfl ?_
    refine g_goto (tgt := 21) B.1 dL_addOrder_10 (by decide) ?_
    refine g_iconst (v := 0) (np := 22) B.1 dL_addOrder_21 (by decide) rfl ?_
    exact g_iretH B (Nat.le_of_ble_eq_true rfl) (Nat.le_of_ble_eq_true rfl) dL_addOrder_22 ⟨_, rfl, h⟩
  · rcases he with ⟨rfl, h⟩ | ⟨rfl, h⟩
    · refine ⟨[], ⟨0, 10, 13, 13⟩, [⟨0, 10, 17, 15⟩], "java/lang/IllegalArgumentException", rfl, (fun z hz => absurd hz List.not_mem_nil), rfl, by decide, b_1031, t_830, fun q => ?_⟩
      refine g_astore (np := 15) (lv' := [some (.ref (xad (fX K) 14 0)), some (.int a1), some (.int a2), some (.ref (xad (fX K) 17 0)), some (.ref q)]) B.1 dL_addOrder_13 (by decide) rfl rfl rfl ?_
      refine g_iconst (v := 1) (np := 16) B.1 dL_addOrder_15 (by decide) rfl ?_
      exact g_iretH B (Nat.le_of_ble_eq_true rfl) (Nat.le_of_ble_eq_true rfl) dL_addOrder_16 ⟨_, rfl, h⟩
    · refine ⟨[⟨0, 10, 13, 13⟩], ⟨0, 10, 17, 15⟩, [], "java/lang/IllegalStateException", rfl, (fun z hz => by
          rcases List.mem_cons.mp hz with e | hz
          · subst e
            exact Or.inr ⟨by decide, "java/lang/IllegalArgumentException", b_1031, B.2.2.2.2.2 "java/lang/IllegalStateException" (by decide) "java/lang/IllegalArgumentException" (by decide) (by decide)⟩
          exact absurd hz List.not_mem_nil), rfl, by decide, b_1032, t_1143, fun q => ?_⟩
      refine g_astore (np := 19) (lv' := [some (.ref (xad (fX K) 14 0)), some (.int a1), some (.int a2), some (.ref (xad (fX K) 17 0)), some (.ref q)]) B.1 dL_addOrder_17 (by decide) rfl rfl rfl ?_
      refine g_iconst (v := 2) (np := 20) B.1 dL_addOrder_19 (by decide) rfl ?_
      exact g_iretH B (Nat.le_of_ble_eq_true rfl) (Nat.le_of_ble_eq_true rfl) dL_addOrder_20 ⟨_, rfl, h⟩
def wL_cancelOrder (a1 : Int32) (s0 : Mem) (Q : Int32 → Mem → Prop) : Prop := wX12_cancelOrder a1 s0 (fun (r : Int32) τ => Q 0 (wrL τ r.toInt64)) (fun E τ => (E = "java/util/NoSuchElementException" ∧ Q 1 τ))
set_option maxRecDepth 20000 in
theorem oL_cancelOrder {l : Launch} {x : Ctx} (hl : l.stackTraces = false) (a1 : Int32) (s0 : Mem) (Q : Int32 → Mem → Prop) (h : wL_cancelOrder a1 s0 Q) : MetH l x yL_cancelOrder cL_cancelOrder 4 [(0, 9, 12, 30)] 9 190 1 6 [.ref (xad x 14 0), .int a1, .ref (xad x 17 0)] s0 (RI Q) := by
  refine MetH.of hl (by decide) (Nat.le_of_ble_eq_true rfl) [some (.ref (xad x 14 0)), some (.int a1), some (.ref (xad x 17 0)), none] rfl (fun K B hx _ => ?_)
  subst hx
  unfold wL_cancelOrder at h
  refine g_aload_n (np := 1) B.1 dL_cancelOrder_0 rfl rfl ?_
  refine g_iconst (v := 0) (np := 2) B.1 dL_cancelOrder_1 (by decide) rfl ?_
  refine g_aload_n (np := 3) B.1 dL_cancelOrder_2 rfl rfl ?_
  refine g_iload_n (np := 4) B.1 dL_cancelOrder_3 rfl rfl ?_
  refine g_callX (np := 7) B (n := 1) (As := [.int a1]) (oX12_cancelOrder B.1.tr a1 s0 _ _ h) b_1305 b_1302 b_1303 b_1304 b_70 (by decide +kernel) rfl (Nat.le_of_ble_eq_true rfl) (Nat.le_of_ble_eq_true rfl) (Nat.le_of_ble_eq_true rfl) dL_cancelOrder_4 (Nat.le_of_ble_eq_true rfl) (Nat.le_of_ble_eq_true rfl) rfl (fun r s2 hr => ?_) (fun E s2 he => ?_)
  · obtain ⟨i, rfl, h⟩ := hr
    show Go K _ _ s2 7 [some (.ref (xad (fX K) 14 0)), some (.int a1), some (.ref (xad (fX K) 17 0)), none] (.int i :: .int 0 :: .ref (xad (fX K) 17 0) :: [])
    refine g_i2l (np := 8) B.1 dL_cancelOrder_7 rfl ?_
    refine g_last (np := 9) B.1 dL_cancelOrder_8 rfl ?_
    refine g_goto (tgt := 15) B.1 dL_cancelOrder_9 (by decide) ?_
    refine g_iconst (v := 0) (np := 16) B.1 dL_cancelOrder_15 (by decide) rfl ?_
    exact g_iretH B (Nat.le_of_ble_eq_true rfl) (Nat.le_of_ble_eq_true rfl) dL_cancelOrder_16 ⟨_, rfl, h⟩
  · obtain ⟨rfl, h⟩ := he
    refine ⟨[], ⟨0, 9, 12, 30⟩, [], "java/util/NoSuchElementException", rfl, (fun z hz => absurd hz List.not_mem_nil), rfl, by decide, b_1301, t_1175, fun q => ?_⟩
    refine g_astore_n (np := 13) (lv' := [some (.ref (xad (fX K) 14 0)), some (.int a1), some (.ref (xad (fX K) 17 0)), some (.ref q)]) B.1 dL_cancelOrder_12 (by decide) rfl rfl rfl ?_
    refine g_iconst (v := 1) (np := 14) B.1 dL_cancelOrder_13 (by decide) rfl ?_
    exact g_iretH B (Nat.le_of_ble_eq_true rfl) (Nat.le_of_ble_eq_true rfl) dL_cancelOrder_14 ⟨_, rfl, h⟩
def wL_setMachines (a1 : Int32) (s0 : Mem) (Q : Int32 → Mem → Prop) : Prop := wX12_setMachines a1 s0 (fun (r : Int32) τ => Q 0 (wrL τ r.toInt64)) (fun E τ => (E = "java/lang/IllegalArgumentException" ∧ Q 1 τ))
set_option maxRecDepth 20000 in
theorem oL_setMachines {l : Launch} {x : Ctx} (hl : l.stackTraces = false) (a1 : Int32) (s0 : Mem) (Q : Int32 → Mem → Prop) (h : wL_setMachines a1 s0 Q) : MetH l x yL_setMachines cL_setMachines 4 [(0, 9, 12, 13)] 9 190 1 6 [.ref (xad x 14 0), .int a1, .ref (xad x 17 0)] s0 (RI Q) := by
  refine MetH.of hl (by decide) (Nat.le_of_ble_eq_true rfl) [some (.ref (xad x 14 0)), some (.int a1), some (.ref (xad x 17 0)), none] rfl (fun K B hx _ => ?_)
  subst hx
  unfold wL_setMachines at h
  refine g_aload_n (np := 1) B.1 dL_setMachines_0 rfl rfl ?_
  refine g_iconst (v := 0) (np := 2) B.1 dL_setMachines_1 (by decide) rfl ?_
  refine g_aload_n (np := 3) B.1 dL_setMachines_2 rfl rfl ?_
  refine g_iload_n (np := 4) B.1 dL_setMachines_3 rfl rfl ?_
  refine g_callX (np := 7) B (n := 1) (As := [.int a1]) (oX12_setMachines B.1.tr a1 s0 _ _ h) b_1314 b_1311 b_1312 b_1313 b_70 (by decide +kernel) rfl (Nat.le_of_ble_eq_true rfl) (Nat.le_of_ble_eq_true rfl) (Nat.le_of_ble_eq_true rfl) dL_setMachines_4 (Nat.le_of_ble_eq_true rfl) (Nat.le_of_ble_eq_true rfl) rfl (fun r s2 hr => ?_) (fun E s2 he => ?_)
  · obtain ⟨i, rfl, h⟩ := hr
    show Go K _ _ s2 7 [some (.ref (xad (fX K) 14 0)), some (.int a1), some (.ref (xad (fX K) 17 0)), none] (.int i :: .int 0 :: .ref (xad (fX K) 17 0) :: [])
    refine g_i2l (np := 8) B.1 dL_setMachines_7 rfl ?_
    refine g_last (np := 9) B.1 dL_setMachines_8 rfl ?_
    refine g_goto (tgt := 15) B.1 dL_setMachines_9 (by decide) ?_
    refine g_iconst (v := 0) (np := 16) B.1 dL_setMachines_15 (by decide) rfl ?_
    exact g_iretH B (Nat.le_of_ble_eq_true rfl) (Nat.le_of_ble_eq_true rfl) dL_setMachines_16 ⟨_, rfl, h⟩
  · obtain ⟨rfl, h⟩ := he
    refine ⟨[], ⟨0, 9, 12, 13⟩, [], "java/lang/IllegalArgumentException", rfl, (fun z hz => absurd hz List.not_mem_nil), rfl, by decide, b_1031, t_830, fun q => ?_⟩
    refine g_astore_n (np := 13) (lv' := [some (.ref (xad (fX K) 14 0)), some (.int a1), some (.ref (xad (fX K) 17 0)), some (.ref q)]) B.1 dL_setMachines_12 (by decide) rfl rfl rfl ?_
    refine g_iconst (v := 1) (np := 14) B.1 dL_setMachines_13 (by decide) rfl ?_
    exact g_iretH B (Nat.le_of_ble_eq_true rfl) (Nat.le_of_ble_eq_true rfl) dL_setMachines_14 ⟨_, rfl, h⟩
def wL_spin (a1 : Int32) (s0 : Mem) (Q : Int32 → Mem → Prop) : Prop := wX12_spin a1 s0 (fun (r : Int32) τ => Q 0 (wrL τ r.toInt64)) (fun E τ => (E = "java/util/NoSuchElementException" ∧ Q 1 τ) ∨ (E = "java/lang/UnsupportedOperationException" ∧ Q 2 τ) ∨ (E = "java/lang/IllegalStateException" ∧ Q 3 τ))
set_option maxRecDepth 20000 in
theorem oL_spin {l : Launch} {x : Ctx} (hl : l.stackTraces = false) (a1 : Int32) (s0 : Mem) (Q : Int32 → Mem → Prop) (h : wL_spin a1 s0 Q) : MetH l x yL_spin cL_spin 4 [(0, 9, 12, 30), (0, 9, 15, 17), (0, 9, 18, 15)] 9 190 1 6 [.ref (xad x 14 0), .int a1, .ref (xad x 17 0)] s0 (RI Q) := by
  refine MetH.of hl (by decide) (Nat.le_of_ble_eq_true rfl) [some (.ref (xad x 14 0)), some (.int a1), some (.ref (xad x 17 0)), none] rfl (fun K B hx _ => ?_)
  subst hx
  unfold wL_spin at h
  refine g_aload_n (np := 1) B.1 dL_spin_0 rfl rfl ?_
  refine g_iconst (v := 0) (np := 2) B.1 dL_spin_1 (by decide) rfl ?_
  refine g_aload_n (np := 3) B.1 dL_spin_2 rfl rfl ?_
  refine g_iload_n (np := 4) B.1 dL_spin_3 rfl rfl ?_
  refine g_callX (np := 7) B (n := 1) (As := [.int a1]) (oX12_spin B.1.tr a1 s0 _ _ h) b_1323 b_1320 b_1321 b_1322 b_70 (by decide +kernel) rfl (Nat.le_of_ble_eq_true rfl) (Nat.le_of_ble_eq_true rfl) (Nat.le_of_ble_eq_true rfl) dL_spin_4 (Nat.le_of_ble_eq_true rfl) (Nat.le_of_ble_eq_true rfl) rfl (fun r s2 hr => ?_) (fun E s2 he => ?_)
  · obtain ⟨i, rfl, h⟩ := hr
    show Go K _ _ s2 7 [some (.ref (xad (fX K) 14 0)), some (.int a1), some (.ref (xad (fX K) 17 0)), none] (.int i :: .int 0 :: .ref (xad (fX K) 17 0) :: [])
    refine g_i2l (np := 8) B.1 dL_spin_7 rfl ?_
    refine g_last (np := 9) B.1 dL_spin_8 rfl ?_
    refine g_goto (tgt := 21) B.1 dL_spin_9 (by decide) ?_
    refine g_iconst (v := 0) (np := 22) B.1 dL_spin_21 (by decide) rfl ?_
    exact g_iretH B (Nat.le_of_ble_eq_true rfl) (Nat.le_of_ble_eq_true rfl) dL_spin_22 ⟨_, rfl, h⟩
  · rcases he with ⟨rfl, h⟩ | ⟨rfl, h⟩ | ⟨rfl, h⟩
    · refine ⟨[], ⟨0, 9, 12, 30⟩, [⟨0, 9, 15, 17⟩, ⟨0, 9, 18, 15⟩], "java/util/NoSuchElementException", rfl, (fun z hz => absurd hz List.not_mem_nil), rfl, by decide, b_1301, t_1175, fun q => ?_⟩
      refine g_astore_n (np := 13) (lv' := [some (.ref (xad (fX K) 14 0)), some (.int a1), some (.ref (xad (fX K) 17 0)), some (.ref q)]) B.1 dL_spin_12 (by decide) rfl rfl rfl ?_
      refine g_iconst (v := 1) (np := 14) B.1 dL_spin_13 (by decide) rfl ?_
      exact g_iretH B (Nat.le_of_ble_eq_true rfl) (Nat.le_of_ble_eq_true rfl) dL_spin_14 ⟨_, rfl, h⟩
    · refine ⟨[⟨0, 9, 12, 30⟩], ⟨0, 9, 15, 17⟩, [⟨0, 9, 18, 15⟩], "java/lang/UnsupportedOperationException", rfl, (fun z hz => by
          rcases List.mem_cons.mp hz with e | hz
          · subst e
            exact Or.inr ⟨by decide, "java/util/NoSuchElementException", b_1301, B.2.2.2.2.2 "java/lang/UnsupportedOperationException" (by decide) "java/util/NoSuchElementException" (by decide) (by decide)⟩
          exact absurd hz List.not_mem_nil), rfl, by decide, b_1033, t_1159, fun q => ?_⟩
      refine g_astore_n (np := 16) (lv' := [some (.ref (xad (fX K) 14 0)), some (.int a1), some (.ref (xad (fX K) 17 0)), some (.ref q)]) B.1 dL_spin_15 (by decide) rfl rfl rfl ?_
      refine g_iconst (v := 2) (np := 17) B.1 dL_spin_16 (by decide) rfl ?_
      exact g_iretH B (Nat.le_of_ble_eq_true rfl) (Nat.le_of_ble_eq_true rfl) dL_spin_17 ⟨_, rfl, h⟩
    · refine ⟨[⟨0, 9, 12, 30⟩, ⟨0, 9, 15, 17⟩], ⟨0, 9, 18, 15⟩, [], "java/lang/IllegalStateException", rfl, (fun z hz => by
          rcases List.mem_cons.mp hz with e | hz
          · subst e
            exact Or.inr ⟨by decide, "java/util/NoSuchElementException", b_1301, B.2.2.2.2.2 "java/lang/IllegalStateException" (by decide) "java/util/NoSuchElementException" (by decide) (by decide)⟩
          rcases List.mem_cons.mp hz with e | hz
          · subst e
            exact Or.inr ⟨by decide, "java/lang/UnsupportedOperationException", b_1033, B.2.2.2.2.2 "java/lang/IllegalStateException" (by decide) "java/lang/UnsupportedOperationException" (by decide) (by decide)⟩
          exact absurd hz List.not_mem_nil), rfl, by decide, b_1032, t_1143, fun q => ?_⟩
      refine g_astore_n (np := 19) (lv' := [some (.ref (xad (fX K) 14 0)), some (.int a1), some (.ref (xad (fX K) 17 0)), some (.ref q)]) B.1 dL_spin_18 (by decide) rfl rfl rfl ?_
      refine g_iconst (v := 3) (np := 20) B.1 dL_spin_19 (by decide) rfl ?_
      exact g_iretH B (Nat.le_of_ble_eq_true rfl) (Nat.le_of_ble_eq_true rfl) dL_spin_20 ⟨_, rfl, h⟩
def wL_splice (a1 : Int32) (s0 : Mem) (Q : Int32 → Mem → Prop) : Prop := wX12_splice a1 s0 (fun (r : Int32) τ => Q 0 (wrL τ r.toInt64)) (fun E τ => (E = "java/lang/IndexOutOfBoundsException" ∧ Q 1 τ))
set_option maxRecDepth 20000 in
theorem oL_splice {l : Launch} {x : Ctx} (hl : l.stackTraces = false) (a1 : Int32) (s0 : Mem) (Q : Int32 → Mem → Prop) (h : wL_splice a1 s0 Q) : MetH l x yL_splice cL_splice 4 [(0, 9, 12, 41)] 9 190 1 6 [.ref (xad x 14 0), .int a1, .ref (xad x 17 0)] s0 (RI Q) := by
  refine MetH.of hl (by decide) (Nat.le_of_ble_eq_true rfl) [some (.ref (xad x 14 0)), some (.int a1), some (.ref (xad x 17 0)), none] rfl (fun K B hx _ => ?_)
  subst hx
  unfold wL_splice at h
  refine g_aload_n (np := 1) B.1 dL_splice_0 rfl rfl ?_
  refine g_iconst (v := 0) (np := 2) B.1 dL_splice_1 (by decide) rfl ?_
  refine g_aload_n (np := 3) B.1 dL_splice_2 rfl rfl ?_
  refine g_iload_n (np := 4) B.1 dL_splice_3 rfl rfl ?_
  refine g_callX (np := 7) B (n := 1) (As := [.int a1]) (oX12_splice B.1.tr a1 s0 _ _ h) b_1335 b_1332 b_1333 b_1334 b_70 (by decide +kernel) rfl (Nat.le_of_ble_eq_true rfl) (Nat.le_of_ble_eq_true rfl) (Nat.le_of_ble_eq_true rfl) dL_splice_4 (Nat.le_of_ble_eq_true rfl) (Nat.le_of_ble_eq_true rfl) rfl (fun r s2 hr => ?_) (fun E s2 he => ?_)
  · obtain ⟨i, rfl, h⟩ := hr
    show Go K _ _ s2 7 [some (.ref (xad (fX K) 14 0)), some (.int a1), some (.ref (xad (fX K) 17 0)), none] (.int i :: .int 0 :: .ref (xad (fX K) 17 0) :: [])
    refine g_i2l (np := 8) B.1 dL_splice_7 rfl ?_
    refine g_last (np := 9) B.1 dL_splice_8 rfl ?_
    refine g_goto (tgt := 15) B.1 dL_splice_9 (by decide) ?_
    refine g_iconst (v := 0) (np := 16) B.1 dL_splice_15 (by decide) rfl ?_
    exact g_iretH B (Nat.le_of_ble_eq_true rfl) (Nat.le_of_ble_eq_true rfl) dL_splice_16 ⟨_, rfl, h⟩
  · obtain ⟨rfl, h⟩ := he
    refine ⟨[], ⟨0, 9, 12, 41⟩, [], "java/lang/IndexOutOfBoundsException", rfl, (fun z hz => absurd hz List.not_mem_nil), rfl, by decide, b_1329, t_1191, fun q => ?_⟩
    refine g_astore_n (np := 13) (lv' := [some (.ref (xad (fX K) 14 0)), some (.int a1), some (.ref (xad (fX K) 17 0)), some (.ref q)]) B.1 dL_splice_12 (by decide) rfl rfl rfl ?_
    refine g_iconst (v := 1) (np := 14) B.1 dL_splice_13 (by decide) rfl ?_
    exact g_iretH B (Nat.le_of_ble_eq_true rfl) (Nat.le_of_ble_eq_true rfl) dL_splice_14 ⟨_, rfl, h⟩
def wL_spliceAll  (s0 : Mem) (Q : Int32 → Mem → Prop) : Prop := wX12_spliceAll  s0 (fun (r : Int32) τ => Q 0 (wrL τ r.toInt64)) (fun E τ => (E = "java/lang/IllegalStateException" ∧ Q 1 τ))
set_option maxRecDepth 20000 in
theorem oL_spliceAll {l : Launch} {x : Ctx} (hl : l.stackTraces = false)  (s0 : Mem) (Q : Int32 → Mem → Prop) (h : wL_spliceAll  s0 Q) : MetH l x yL_spliceAll cL_spliceAll 3 [(0, 8, 11, 15)] 9 189 1 6 [.ref (xad x 14 0), .ref (xad x 17 0)] s0 (RI Q) := by
  refine MetH.of hl (by decide) (Nat.le_of_ble_eq_true rfl) [some (.ref (xad x 14 0)), some (.ref (xad x 17 0)), none] rfl (fun K B hx _ => ?_)
  subst hx
  unfold wL_spliceAll at h
  refine g_aload_n (np := 1) B.1 dL_spliceAll_0 rfl rfl ?_
  refine g_iconst (v := 0) (np := 2) B.1 dL_spliceAll_1 (by decide) rfl ?_
  refine g_aload_n (np := 3) B.1 dL_spliceAll_2 rfl rfl ?_
  refine g_callX (np := 6) B (n := 0) (As := []) (oX12_spliceAll B.1.tr  s0 _ _ h) b_1344 b_1341 b_1342 b_1343 b_70 (by decide +kernel) rfl (Nat.le_of_ble_eq_true rfl) (Nat.le_of_ble_eq_true rfl) (Nat.le_of_ble_eq_true rfl) dL_spliceAll_3 (Nat.le_of_ble_eq_true rfl) (Nat.le_of_ble_eq_true rfl) rfl (fun r s2 hr => ?_) (fun E s2 he => ?_)
  · obtain ⟨i, rfl, h⟩ := hr
    show Go K _ _ s2 6 [some (.ref (xad (fX K) 14 0)), some (.ref (xad (fX K) 17 0)), none] (.int i :: .int 0 :: .ref (xad (fX K) 17 0) :: [])
    refine g_i2l (np := 7) B.1 dL_spliceAll_6 rfl ?_
    refine g_last (np := 8) B.1 dL_spliceAll_7 rfl ?_
    refine g_goto (tgt := 14) B.1 dL_spliceAll_8 (by decide) ?_
    refine g_iconst (v := 0) (np := 15) B.1 dL_spliceAll_14 (by decide) rfl ?_
    exact g_iretH B (Nat.le_of_ble_eq_true rfl) (Nat.le_of_ble_eq_true rfl) dL_spliceAll_15 ⟨_, rfl, h⟩
  · obtain ⟨rfl, h⟩ := he
    refine ⟨[], ⟨0, 8, 11, 15⟩, [], "java/lang/IllegalStateException", rfl, (fun z hz => absurd hz List.not_mem_nil), rfl, by decide, b_1032, t_1143, fun q => ?_⟩
    refine g_astore_n (np := 12) (lv' := [some (.ref (xad (fX K) 14 0)), some (.ref (xad (fX K) 17 0)), some (.ref q)]) B.1 dL_spliceAll_11 (by decide) rfl rfl rfl ?_
    refine g_iconst (v := 1) (np := 13) B.1 dL_spliceAll_12 (by decide) rfl ?_
    exact g_iretH B (Nat.le_of_ble_eq_true rfl) (Nat.le_of_ble_eq_true rfl) dL_spliceAll_13 ⟨_, rfl, h⟩
def wL_sell (a1 : Int32) (s0 : Mem) (Q : Int32 → Mem → Prop) : Prop := wX12_sell a1 s0 (fun (r : Int32) τ => Q 0 (wrL τ r.toInt64)) (fun E τ => (E = "java/lang/IndexOutOfBoundsException" ∧ Q 1 τ))
set_option maxRecDepth 20000 in
theorem oL_sell {l : Launch} {x : Ctx} (hl : l.stackTraces = false) (a1 : Int32) (s0 : Mem) (Q : Int32 → Mem → Prop) (h : wL_sell a1 s0 Q) : MetH l x yL_sell cL_sell 4 [(0, 9, 12, 41)] 9 190 1 6 [.ref (xad x 14 0), .int a1, .ref (xad x 17 0)] s0 (RI Q) := by
  refine MetH.of hl (by decide) (Nat.le_of_ble_eq_true rfl) [some (.ref (xad x 14 0)), some (.int a1), some (.ref (xad x 17 0)), none] rfl (fun K B hx _ => ?_)
  subst hx
  unfold wL_sell at h
  refine g_aload_n (np := 1) B.1 dL_sell_0 rfl rfl ?_
  refine g_iconst (v := 0) (np := 2) B.1 dL_sell_1 (by decide) rfl ?_
  refine g_aload_n (np := 3) B.1 dL_sell_2 rfl rfl ?_
  refine g_iload_n (np := 4) B.1 dL_sell_3 rfl rfl ?_
  refine g_callX (np := 7) B (n := 1) (As := [.int a1]) (oX12_sell B.1.tr a1 s0 _ _ h) b_1353 b_1350 b_1351 b_1352 b_70 (by decide +kernel) rfl (Nat.le_of_ble_eq_true rfl) (Nat.le_of_ble_eq_true rfl) (Nat.le_of_ble_eq_true rfl) dL_sell_4 (Nat.le_of_ble_eq_true rfl) (Nat.le_of_ble_eq_true rfl) rfl (fun r s2 hr => ?_) (fun E s2 he => ?_)
  · obtain ⟨i, rfl, h⟩ := hr
    show Go K _ _ s2 7 [some (.ref (xad (fX K) 14 0)), some (.int a1), some (.ref (xad (fX K) 17 0)), none] (.int i :: .int 0 :: .ref (xad (fX K) 17 0) :: [])
    refine g_i2l (np := 8) B.1 dL_sell_7 rfl ?_
    refine g_last (np := 9) B.1 dL_sell_8 rfl ?_
    refine g_goto (tgt := 15) B.1 dL_sell_9 (by decide) ?_
    refine g_iconst (v := 0) (np := 16) B.1 dL_sell_15 (by decide) rfl ?_
    exact g_iretH B (Nat.le_of_ble_eq_true rfl) (Nat.le_of_ble_eq_true rfl) dL_sell_16 ⟨_, rfl, h⟩
  · obtain ⟨rfl, h⟩ := he
    refine ⟨[], ⟨0, 9, 12, 41⟩, [], "java/lang/IndexOutOfBoundsException", rfl, (fun z hz => absurd hz List.not_mem_nil), rfl, by decide, b_1329, t_1191, fun q => ?_⟩
    refine g_astore_n (np := 13) (lv' := [some (.ref (xad (fX K) 14 0)), some (.int a1), some (.ref (xad (fX K) 17 0)), some (.ref q)]) B.1 dL_sell_12 (by decide) rfl rfl rfl ?_
    refine g_iconst (v := 1) (np := 14) B.1 dL_sell_13 (by decide) rfl ?_
    exact g_iretH B (Nat.le_of_ble_eq_true rfl) (Nat.le_of_ble_eq_true rfl) dL_sell_14 ⟨_, rfl, h⟩
def wL_baleAt (a1 : Int32) (s0 : Mem) (Q : Int32 → Mem → Prop) : Prop := wX12_baleAt a1 s0 (fun (r : Int32) τ => Q 0 (wrL τ r.toInt64)) (fun E τ => (E = "java/util/NoSuchElementException" ∧ Q 1 τ))
set_option maxRecDepth 20000 in
theorem oL_baleAt {l : Launch} {x : Ctx} (hl : l.stackTraces = false) (a1 : Int32) (s0 : Mem) (Q : Int32 → Mem → Prop) (h : wL_baleAt a1 s0 Q) : MetH l x yL_baleAt cL_baleAt 4 [(0, 9, 12, 30)] 7 103 1 6 [.ref (xad x 14 0), .int a1, .ref (xad x 17 0)] s0 (RI Q) := by
  refine MetH.of hl (by decide) (Nat.le_of_ble_eq_true rfl) [some (.ref (xad x 14 0)), some (.int a1), some (.ref (xad x 17 0)), none] rfl (fun K B hx _ => ?_)
  subst hx
  unfold wL_baleAt at h
  refine g_aload_n (np := 1) B.1 dL_baleAt_0 rfl rfl ?_
  refine g_iconst (v := 0) (np := 2) B.1 dL_baleAt_1 (by decide) rfl ?_
  refine g_aload_n (np := 3) B.1 dL_baleAt_2 rfl rfl ?_
  refine g_iload_n (np := 4) B.1 dL_baleAt_3 rfl rfl ?_
  refine g_callX (np := 7) B (n := 1) (As := [.int a1]) (oX12_baleAt B.1.tr a1 s0 _ _ h) b_1362 b_1359 b_1360 b_1361 b_70 (by decide +kernel) rfl (Nat.le_of_ble_eq_true rfl) (Nat.le_of_ble_eq_true rfl) (Nat.le_of_ble_eq_true rfl) dL_baleAt_4 (Nat.le_of_ble_eq_true rfl) (Nat.le_of_ble_eq_true rfl) rfl (fun r s2 hr => ?_) (fun E s2 he => ?_)
  · obtain ⟨i, rfl, h⟩ := hr
    show Go K _ _ s2 7 [some (.ref (xad (fX K) 14 0)), some (.int a1), some (.ref (xad (fX K) 17 0)), none] (.int i :: .int 0 :: .ref (xad (fX K) 17 0) :: [])
    refine g_i2l (np := 8) B.1 dL_baleAt_7 rfl ?_
    refine g_last (np := 9) B.1 dL_baleAt_8 rfl ?_
    refine g_goto (tgt := 15) B.1 dL_baleAt_9 (by decide) ?_
    refine g_iconst (v := 0) (np := 16) B.1 dL_baleAt_15 (by decide) rfl ?_
    exact g_iretH B (Nat.le_of_ble_eq_true rfl) (Nat.le_of_ble_eq_true rfl) dL_baleAt_16 ⟨_, rfl, h⟩
  · obtain ⟨rfl, h⟩ := he
    refine ⟨[], ⟨0, 9, 12, 30⟩, [], "java/util/NoSuchElementException", rfl, (fun z hz => absurd hz List.not_mem_nil), rfl, by decide, b_1301, t_1175, fun q => ?_⟩
    refine g_astore_n (np := 13) (lv' := [some (.ref (xad (fX K) 14 0)), some (.int a1), some (.ref (xad (fX K) 17 0)), some (.ref q)]) B.1 dL_baleAt_12 (by decide) rfl rfl rfl ?_
    refine g_iconst (v := 1) (np := 14) B.1 dL_baleAt_13 (by decide) rfl ?_
    exact g_iretH B (Nat.le_of_ble_eq_true rfl) (Nat.le_of_ble_eq_true rfl) dL_baleAt_14 ⟨_, rfl, h⟩
def wL_weight (a1 : Int32) (s0 : Mem) (Q : Int32 → Mem → Prop) : Prop := wX12_weight a1 s0 (fun (r : Int32) τ => Q 0 (wrL τ r.toInt64)) (fun E τ => (E = "java/util/NoSuchElementException" ∧ Q 1 τ))
set_option maxRecDepth 20000 in
theorem oL_weight {l : Launch} {x : Ctx} (hl : l.stackTraces = false) (a1 : Int32) (s0 : Mem) (Q : Int32 → Mem → Prop) (h : wL_weight a1 s0 Q) : MetH l x yL_weight cL_weight 4 [(0, 9, 12, 30)] 8 125 1 6 [.ref (xad x 14 0), .int a1, .ref (xad x 17 0)] s0 (RI Q) := by
  refine MetH.of hl (by decide) (Nat.le_of_ble_eq_true rfl) [some (.ref (xad x 14 0)), some (.int a1), some (.ref (xad x 17 0)), none] rfl (fun K B hx _ => ?_)
  subst hx
  unfold wL_weight at h
  refine g_aload_n (np := 1) B.1 dL_weight_0 rfl rfl ?_
  refine g_iconst (v := 0) (np := 2) B.1 dL_weight_1 (by decide) rfl ?_
  refine g_aload_n (np := 3) B.1 dL_weight_2 rfl rfl ?_
  refine g_iload_n (np := 4) B.1 dL_weight_3 rfl rfl ?_
  refine g_callX (np := 7) B (n := 1) (As := [.int a1]) (oX12_weight B.1.tr a1 s0 _ _ h) b_1370 b_1367 b_1368 b_1369 b_70 (by decide +kernel) rfl (Nat.le_of_ble_eq_true rfl) (Nat.le_of_ble_eq_true rfl) (Nat.le_of_ble_eq_true rfl) dL_weight_4 (Nat.le_of_ble_eq_true rfl) (Nat.le_of_ble_eq_true rfl) rfl (fun r s2 hr => ?_) (fun E s2 he => ?_)
  · obtain ⟨i, rfl, h⟩ := hr
    show Go K _ _ s2 7 [some (.ref (xad (fX K) 14 0)), some (.int a1), some (.ref (xad (fX K) 17 0)), none] (.int i :: .int 0 :: .ref (xad (fX K) 17 0) :: [])
    refine g_i2l (np := 8) B.1 dL_weight_7 rfl ?_
    refine g_last (np := 9) B.1 dL_weight_8 rfl ?_
    refine g_goto (tgt := 15) B.1 dL_weight_9 (by decide) ?_
    refine g_iconst (v := 0) (np := 16) B.1 dL_weight_15 (by decide) rfl ?_
    exact g_iretH B (Nat.le_of_ble_eq_true rfl) (Nat.le_of_ble_eq_true rfl) dL_weight_16 ⟨_, rfl, h⟩
  · obtain ⟨rfl, h⟩ := he
    refine ⟨[], ⟨0, 9, 12, 30⟩, [], "java/util/NoSuchElementException", rfl, (fun z hz => absurd hz List.not_mem_nil), rfl, by decide, b_1301, t_1175, fun q => ?_⟩
    refine g_astore_n (np := 13) (lv' := [some (.ref (xad (fX K) 14 0)), some (.int a1), some (.ref (xad (fX K) 17 0)), some (.ref q)]) B.1 dL_weight_12 (by decide) rfl rfl rfl ?_
    refine g_iconst (v := 1) (np := 14) B.1 dL_weight_13 (by decide) rfl ?_
    exact g_iretH B (Nat.le_of_ble_eq_true rfl) (Nat.le_of_ble_eq_true rfl) dL_weight_14 ⟨_, rfl, h⟩
def wL_staple (a1 : Int32) (s0 : Mem) (Q : Int32 → Mem → Prop) : Prop := wX12_staple a1 s0 (fun (r : Int32) τ => Q 0 (wrL τ r.toInt64)) (fun E τ => (E = "java/util/NoSuchElementException" ∧ Q 1 τ))
set_option maxRecDepth 20000 in
theorem oL_staple {l : Launch} {x : Ctx} (hl : l.stackTraces = false) (a1 : Int32) (s0 : Mem) (Q : Int32 → Mem → Prop) (h : wL_staple a1 s0 Q) : MetH l x yL_staple cL_staple 4 [(0, 9, 12, 30)] 8 125 1 6 [.ref (xad x 14 0), .int a1, .ref (xad x 17 0)] s0 (RI Q) := by
  refine MetH.of hl (by decide) (Nat.le_of_ble_eq_true rfl) [some (.ref (xad x 14 0)), some (.int a1), some (.ref (xad x 17 0)), none] rfl (fun K B hx _ => ?_)
  subst hx
  unfold wL_staple at h
  refine g_aload_n (np := 1) B.1 dL_staple_0 rfl rfl ?_
  refine g_iconst (v := 0) (np := 2) B.1 dL_staple_1 (by decide) rfl ?_
  refine g_aload_n (np := 3) B.1 dL_staple_2 rfl rfl ?_
  refine g_iload_n (np := 4) B.1 dL_staple_3 rfl rfl ?_
  refine g_callX (np := 7) B (n := 1) (As := [.int a1]) (oX12_staple B.1.tr a1 s0 _ _ h) b_1382 b_1379 b_1380 b_1381 b_70 (by decide +kernel) rfl (Nat.le_of_ble_eq_true rfl) (Nat.le_of_ble_eq_true rfl) (Nat.le_of_ble_eq_true rfl) dL_staple_4 (Nat.le_of_ble_eq_true rfl) (Nat.le_of_ble_eq_true rfl) rfl (fun r s2 hr => ?_) (fun E s2 he => ?_)
  · obtain ⟨i, rfl, h⟩ := hr
    show Go K _ _ s2 7 [some (.ref (xad (fX K) 14 0)), some (.int a1), some (.ref (xad (fX K) 17 0)), none] (.int i :: .int 0 :: .ref (xad (fX K) 17 0) :: [])
    refine g_i2l (np := 8) B.1 dL_staple_7 rfl ?_
    refine g_last (np := 9) B.1 dL_staple_8 rfl ?_
    refine g_goto (tgt := 15) B.1 dL_staple_9 (by decide) ?_
    refine g_iconst (v := 0) (np := 16) B.1 dL_staple_15 (by decide) rfl ?_
    exact g_iretH B (Nat.le_of_ble_eq_true rfl) (Nat.le_of_ble_eq_true rfl) dL_staple_16 ⟨_, rfl, h⟩
  · obtain ⟨rfl, h⟩ := he
    refine ⟨[], ⟨0, 9, 12, 30⟩, [], "java/util/NoSuchElementException", rfl, (fun z hz => absurd hz List.not_mem_nil), rfl, by decide, b_1301, t_1175, fun q => ?_⟩
    refine g_astore_n (np := 13) (lv' := [some (.ref (xad (fX K) 14 0)), some (.int a1), some (.ref (xad (fX K) 17 0)), some (.ref q)]) B.1 dL_staple_12 (by decide) rfl rfl rfl ?_
    refine g_iconst (v := 1) (np := 14) B.1 dL_staple_13 (by decide) rfl ?_
    exact g_iretH B (Nat.le_of_ble_eq_true rfl) (Nat.le_of_ble_eq_true rfl) dL_staple_14 ⟨_, rfl, h⟩
def wL_price (a1 : Int32) (s0 : Mem) (Q : Int32 → Mem → Prop) : Prop := wX12_price a1 s0 (fun (r : Int32) τ => Q 0 (wrL τ r.toInt64)) (fun E τ => (E = "java/util/NoSuchElementException" ∧ Q 1 τ))
set_option maxRecDepth 20000 in
theorem oL_price {l : Launch} {x : Ctx} (hl : l.stackTraces = false) (a1 : Int32) (s0 : Mem) (Q : Int32 → Mem → Prop) (h : wL_price a1 s0 Q) : MetH l x yL_price cL_price 4 [(0, 9, 12, 30)] 8 125 1 6 [.ref (xad x 14 0), .int a1, .ref (xad x 17 0)] s0 (RI Q) := by
  refine MetH.of hl (by decide) (Nat.le_of_ble_eq_true rfl) [some (.ref (xad x 14 0)), some (.int a1), some (.ref (xad x 17 0)), none] rfl (fun K B hx _ => ?_)
  subst hx
  unfold wL_price at h
  refine g_aload_n (np := 1) B.1 dL_price_0 rfl rfl ?_
  refine g_iconst (v := 0) (np := 2) B.1 dL_price_1 (by decide) rfl ?_
  refine g_aload_n (np := 3) B.1 dL_price_2 rfl rfl ?_
  refine g_iload_n (np := 4) B.1 dL_price_3 rfl rfl ?_
  refine g_callX (np := 7) B (n := 1) (As := [.int a1]) (oX12_price B.1.tr a1 s0 _ _ h) b_1389 b_1386 b_1387 b_1388 b_70 (by decide +kernel) rfl (Nat.le_of_ble_eq_true rfl) (Nat.le_of_ble_eq_true rfl) (Nat.le_of_ble_eq_true rfl) dL_price_4 (Nat.le_of_ble_eq_true rfl) (Nat.le_of_ble_eq_true rfl) rfl (fun r s2 hr => ?_) (fun E s2 he => ?_)
  · obtain ⟨i, rfl, h⟩ := hr
    show Go K _ _ s2 7 [some (.ref (xad (fX K) 14 0)), some (.int a1), some (.ref (xad (fX K) 17 0)), none] (.int i :: .int 0 :: .ref (xad (fX K) 17 0) :: [])
    refine g_i2l (np := 8) B.1 dL_price_7 rfl ?_
    refine g_last (np := 9) B.1 dL_price_8 rfl ?_
    refine g_goto (tgt := 15) B.1 dL_price_9 (by decide) ?_
    refine g_iconst (v := 0) (np := 16) B.1 dL_price_15 (by decide) rfl ?_
    exact g_iretH B (Nat.le_of_ble_eq_true rfl) (Nat.le_of_ble_eq_true rfl) dL_price_16 ⟨_, rfl, h⟩
  · obtain ⟨rfl, h⟩ := he
    refine ⟨[], ⟨0, 9, 12, 30⟩, [], "java/util/NoSuchElementException", rfl, (fun z hz => absurd hz List.not_mem_nil), rfl, by decide, b_1301, t_1175, fun q => ?_⟩
    refine g_astore_n (np := 13) (lv' := [some (.ref (xad (fX K) 14 0)), some (.int a1), some (.ref (xad (fX K) 17 0)), some (.ref q)]) B.1 dL_price_12 (by decide) rfl rfl rfl ?_
    refine g_iconst (v := 1) (np := 14) B.1 dL_price_13 (by decide) rfl ?_
    exact g_iretH B (Nat.le_of_ble_eq_true rfl) (Nat.le_of_ble_eq_true rfl) dL_price_14 ⟨_, rfl, h⟩
def wL_baleByValue (a1 : Int32) (s0 : Mem) (Q : Int32 → Mem → Prop) : Prop := wX12_baleByValue a1 s0 (fun (r : Int32) τ => Q 0 (wrL τ r.toInt64)) (fun E τ => (E = "java/util/NoSuchElementException" ∧ Q 1 τ))
set_option maxRecDepth 20000 in
theorem oL_baleByValue {l : Launch} {x : Ctx} (hl : l.stackTraces = false) (a1 : Int32) (s0 : Mem) (Q : Int32 → Mem → Prop) (h : wL_baleByValue a1 s0 Q) : MetH l x yL_baleByValue cL_baleByValue 4 [(0, 9, 12, 30)] 8 125 1 6 [.ref (xad x 14 0), .int a1, .ref (xad x 17 0)] s0 (RI Q) := by
  refine MetH.of hl (by decide) (Nat.le_of_ble_eq_true rfl) [some (.ref (xad x 14 0)), some (.int a1), some (.ref (xad x 17 0)), none] rfl (fun K B hx _ => ?_)
  subst hx
  unfold wL_baleByValue at h
  refine g_aload_n (np := 1) B.1 dL_baleByValue_0 rfl rfl ?_
  refine g_iconst (v := 0) (np := 2) B.1 dL_baleByValue_1 (by decide) rfl ?_
  refine g_aload_n (np := 3) B.1 dL_baleByValue_2 rfl rfl ?_
  refine g_iload_n (np := 4) B.1 dL_baleByValue_3 rfl rfl ?_
  refine g_callX (np := 7) B (n := 1) (As := [.int a1]) (oX12_baleByValue B.1.tr a1 s0 _ _ h) b_1396 b_1393 b_1394 b_1395 b_70 (by decide +kernel) rfl (Nat.le_of_ble_eq_true rfl) (Nat.le_of_ble_eq_true rfl) (Nat.le_of_ble_eq_true rfl) dL_baleByValue_4 (Nat.le_of_ble_eq_true rfl) (Nat.le_of_ble_eq_true rfl) rfl (fun r s2 hr => ?_) (fun E s2 he => ?_)
  · obtain ⟨i, rfl, h⟩ := hr
    show Go K _ _ s2 7 [some (.ref (xad (fX K) 14 0)), some (.int a1), some (.ref (xad (fX K) 17 0)), none] (.int i :: .int 0 :: .ref (xad (fX K) 17 0) :: [])
    refine g_i2l (np := 8) B.1 dL_baleByValue_7 rfl ?_
    refine g_last (np := 9) B.1 dL_baleByValue_8 rfl ?_
    refine g_goto (tgt := 15) B.1 dL_baleByValue_9 (by decide) ?_
    refine g_iconst (v := 0) (np := 16) B.1 dL_baleByValue_15 (by decide) rfl ?_
    exact g_iretH B (Nat.le_of_ble_eq_true rfl) (Nat.le_of_ble_eq_true rfl) dL_baleByValue_16 ⟨_, rfl, h⟩
  · obtain ⟨rfl, h⟩ := he
    refine ⟨[], ⟨0, 9, 12, 30⟩, [], "java/util/NoSuchElementException", rfl, (fun z hz => absurd hz List.not_mem_nil), rfl, by decide, b_1301, t_1175, fun q => ?_⟩
    refine g_astore_n (np := 13) (lv' := [some (.ref (xad (fX K) 14 0)), some (.int a1), some (.ref (xad (fX K) 17 0)), some (.ref q)]) B.1 dL_baleByValue_12 (by decide) rfl rfl rfl ?_
    refine g_iconst (v := 1) (np := 14) B.1 dL_baleByValue_13 (by decide) rfl ?_
    exact g_iretH B (Nat.le_of_ble_eq_true rfl) (Nat.le_of_ble_eq_true rfl) dL_baleByValue_14 ⟨_, rfl, h⟩
def wL_blendValue (a1 : Int32) (a2 : Int32) (s0 : Mem) (Q : Int32 → Mem → Prop) : Prop := wX12_blendValue a1 a2 s0 (fun (r : Int32) τ => Q 0 (wrL τ r.toInt64)) (fun E τ => (E = "java/lang/IllegalArgumentException" ∧ Q 1 τ) ∨ (E = "java/util/NoSuchElementException" ∧ Q 2 τ))
set_option maxRecDepth 20000 in
theorem oL_blendValue {l : Launch} {x : Ctx} (hl : l.stackTraces = false) (a1 : Int32) (a2 : Int32) (s0 : Mem) (Q : Int32 → Mem → Prop) (h : wL_blendValue a1 a2 s0 Q) : MetH l x yL_blendValue cL_blendValue 5 [(0, 10, 13, 13), (0, 10, 17, 30)] 8 125 2 12 [.ref (xad x 14 0), .int a1, .int a2, .ref (xad x 17 0)] s0 (RI Q) := by
  refine MetH.of hl (by decide) (Nat.le_of_ble_eq_true rfl) [some (.ref (xad x 14 0)), some (.int a1), some (.int a2), some (.ref (xad x 17 0)), none] rfl (fun K B hx _ => ?_)
  subst hx
  unfold wL_blendValue at h
  refine g_aload_n (np := 1) B.1 dL_blendValue_0 rfl rfl ?_
  refine g_iconst (v := 0) (np := 2) B.1 dL_blendValue_1 (by decide) rfl ?_
  refine g_aload_n (np := 3) B.1 dL_blendValue_2 rfl rfl ?_
  refine g_iload_n (np := 4) B.1 dL_blendValue_3 rfl rfl ?_
  refine g_iload_n (np := 5) B.1 dL_blendValue_4 rfl rfl ?_
  refine g_callX (np := 8) B (n := 2) (As := [.int a1, .int a2]) (oX12_blendValue B.1.tr a1 a2 s0 _ _ h) b_1421 b_1418 b_1419 b_1420 b_70 (by decide +kernel) rfl (Nat.le_of_ble_eq_true rfl) (Nat.le_of_ble_eq_true rfl) (Nat.le_of_ble_eq_true rfl) dL_blendValue_5 (Nat.le_of_ble_eq_true rfl) (Nat.le_of_ble_eq_true rfl) rfl (fun r s2 hr => ?_) (fun E s2 he => ?_)
  · obtain ⟨i, rfl, h⟩ := hr
    show Go K _ _ s2 8 [some (.ref (xad (fX K) 14 0)), some (.int a1), some (.int a2), some (.ref (xad (fX K) 17 0)), none] (.int i :: .int 0 :: .ref (xad (fX K) 17 0) :: [])
    refine g_i2l (np := 9) B.1 dL_blendValue_8 rfl ?_
    refine g_last (np := 10) B.1 dL_blendValue_9 rfl ?_
    refine g_goto (tgt := 21) B.1 dL_blendValue_10 (by decide) ?_
    refine g_iconst (v := 0) (np := 22) B.1 dL_blendValue_21 (by decide) rfl ?_
    exact g_iretH B (Nat.le_of_ble_eq_true rfl) (Nat.le_of_ble_eq_true rfl) dL_blendValue_22 ⟨_, rfl, h⟩
  · rcases he with ⟨rfl, h⟩ | ⟨rfl, h⟩
    · refine ⟨[], ⟨0, 10, 13, 13⟩, [⟨0, 10, 17, 30⟩], "java/lang/IllegalArgumentException", rfl, (fun z hz => absurd hz List.not_mem_nil), rfl, by decide, b_1031, t_830, fun q => ?_⟩
      refine g_astore (np := 15) (lv' := [some (.ref (xad (fX K) 14 0)), some (.int a1), some (.int a2), some (.ref (xad (fX K) 17 0)), some (.ref q)]) B.1 dL_blendValue_13 (by decide) rfl rfl rfl ?_
      refine g_iconst (v := 1) (np := 16) B.1 dL_blendValue_15 (by decide) rfl ?_
      exact g_iretH B (Nat.le_of_ble_eq_true rfl) (Nat.le_of_ble_eq_true rfl) dL_blendValue_16 ⟨_, rfl, h⟩
    · refine ⟨[⟨0, 10, 13, 13⟩], ⟨0, 10, 17, 30⟩, [], "java/util/NoSuchElementException", rfl, (fun z hz => by
          rcases List.mem_cons.mp hz with e | hz
          · subst e
            exact Or.inr ⟨by decide, "java/lang/IllegalArgumentException", b_1031, B.2.2.2.2.2 "java/util/NoSuchElementException" (by decide) "java/lang/IllegalArgumentException" (by decide) (by decide)⟩
          exact absurd hz List.not_mem_nil), rfl, by decide, b_1301, t_1175, fun q => ?_⟩
      refine g_astore (np := 19) (lv' := [some (.ref (xad (fX K) 14 0)), some (.int a1), some (.int a2), some (.ref (xad (fX K) 17 0)), some (.ref q)]) B.1 dL_blendValue_17 (by decide) rfl rfl rfl ?_
      refine g_iconst (v := 2) (np := 20) B.1 dL_blendValue_19 (by decide) rfl ?_
      exact g_iretH B (Nat.le_of_ble_eq_true rfl) (Nat.le_of_ble_eq_true rfl) dL_blendValue_20 ⟨_, rfl, h⟩
def wL_blendValueBySearch (a1 : Int32) (a2 : Int32) (s0 : Mem) (Q : Int32 → Mem → Prop) : Prop := wX12_blendValueBySearch a1 a2 s0 (fun (r : Int32) τ => Q 0 (wrL τ r.toInt64)) (fun E τ => (E = "java/lang/IllegalArgumentException" ∧ Q 1 τ) ∨ (E = "java/util/NoSuchElementException" ∧ Q 2 τ))
set_option maxRecDepth 20000 in
theorem oL_blendValueBySearch {l : Launch} {x : Ctx} (hl : l.stackTraces = false) (a1 : Int32) (a2 : Int32) (s0 : Mem) (Q : Int32 → Mem → Prop) (h : wL_blendValueBySearch a1 a2 s0 Q) : MetH l x yL_blendValueBySearch cL_blendValueBySearch 5 [(0, 10, 13, 13), (0, 10, 17, 30)] 16 404 2 12 [.ref (xad x 14 0), .int a1, .int a2, .ref (xad x 17 0)] s0 (RI Q) := by
  refine MetH.of hl (by decide) (Nat.le_of_ble_eq_true rfl) [some (.ref (xad x 14 0)), some (.int a1), some (.int a2), some (.ref (xad x 17 0)), none] rfl (fun K B hx _ => ?_)
  subst hx
  unfold wL_blendValueBySearch at h
  refine g_aload_n (np := 1) B.1 dL_blendValueBySearch_0 rfl rfl ?_
  refine g_iconst (v := 0) (np := 2) B.1 dL_blendValueBySearch_1 (by decide) rfl ?_
  refine g_aload_n (np := 3) B.1 dL_blendValueBySearch_2 rfl rfl ?_
  refine g_iload_n (np := 4) B.1 dL_blendValueBySearch_3 rfl rfl ?_
  refine g_iload_n (np := 5) B.1 dL_blendValueBySearch_4 rfl rfl ?_
  refine g_callX (np := 8) B (n := 2) (As := [.int a1, .int a2]) (oX12_blendValueBySearch B.1.tr a1 a2 s0 _ _ h) b_1436 b_1433 b_1434 b_1435 b_70 (by decide +kernel) rfl (Nat.le_of_ble_eq_true rfl) (Nat.le_of_ble_eq_true rfl) (Nat.le_of_ble_eq_true rfl) dL_blendValueBySearch_5 (Nat.le_of_ble_eq_true rfl) (Nat.le_of_ble_eq_true rfl) rfl (fun r s2 hr => ?_) (fun E s2 he => ?_)
  · obtain ⟨i, rfl, h⟩ := hr
    show Go K _ _ s2 8 [some (.ref (xad (fX K) 14 0)), some (.int a1), some (.int a2), some (.ref (xad (fX K) 17 0)), none] (.int i :: .int 0 :: .ref (xad (fX K) 17 0) :: [])
    refine g_i2l (np := 9) B.1 dL_blendValueBySearch_8 rfl ?_
    refine g_last (np := 10) B.1 dL_blendValueBySearch_9 rfl ?_
    refine g_goto (tgt := 21) B.1 dL_blendValueBySearch_10 (by decide) ?_
    refine g_iconst (v := 0) (np := 22) B.1 dL_blendValueBySearch_21 (by decide) rfl ?_
    exact g_iretH B (Nat.le_of_ble_eq_true rfl) (Nat.le_of_ble_eq_true rfl) dL_blendValueBySearch_22 ⟨_, rfl, h⟩
  · rcases he with ⟨rfl, h⟩ | ⟨rfl, h⟩
    · refine ⟨[], ⟨0, 10, 13, 13⟩, [⟨0, 10, 17, 30⟩], "java/lang/IllegalArgumentException", rfl, (fun z hz => absurd hz List.not_mem_nil), rfl, by decide, b_1031, t_830, fun q => ?_⟩
      refine g_astore (np := 15) (lv' := [some (.ref (xad (fX K) 14 0)), some (.int a1), some (.int a2), some (.ref (xad (fX K) 17 0)), some (.ref q)]) B.1 dL_blendValueBySearch_13 (by decide) rfl rfl rfl ?_
      refine g_iconst (v := 1) (np := 16) B.1 dL_blendValueBySearch_15 (by decide) rfl ?_
      exact g_iretH B (Nat.le_of_ble_eq_true rfl) (Nat.le_of_ble_eq_true rfl) dL_blendValueBySearch_16 ⟨_, rfl, h⟩
    · refine ⟨[⟨0, 10, 13, 13⟩], ⟨0, 10, 17, 30⟩, [], "java/util/NoSuchElementException", rfl, (fun z hz => by
          rcases List.mem_cons.mp hz with e | hz
          · subst e
            exact Or.inr ⟨by decide, "java/lang/IllegalArgumentException", b_1031, B.2.2.2.2.2 "java/util/NoSuchElementException" (by decide) "java/lang/IllegalArgumentException" (by decide) (by decide)⟩
          exact absurd hz List.not_mem_nil), rfl, by decide, b_1301, t_1175, fun q => ?_⟩
      refine g_astore (np := 19) (lv' := [some (.ref (xad (fX K) 14 0)), some (.int a1), some (.int a2), some (.ref (xad (fX K) 17 0)), some (.ref q)]) B.1 dL_blendValueBySearch_17 (by decide) rfl rfl rfl ?_
      refine g_iconst (v := 2) (np := 20) B.1 dL_blendValueBySearch_19 (by decide) rfl ?_
      exact g_iretH B (Nat.le_of_ble_eq_true rfl) (Nat.le_of_ble_eq_true rfl) dL_blendValueBySearch_20 ⟨_, rfl, h⟩
def wL_isInBlend (a1 : Int32) (a2 : Int32) (a3 : Int32) (s0 : Mem) (Q : Int32 → Mem → Prop) : Prop := wX12_isInBlend a1 a2 a3 s0 (fun (r : Int32) τ => (r = 0 → Q 0 (wrL τ 0)) ∧ (¬ r = 0 → Q 0 (wrL τ 1))) (fun E τ => (E = "java/util/NoSuchElementException" ∧ Q 1 τ) ∨ (E = "java/lang/IllegalArgumentException" ∧ Q 2 τ) ∨ (E = "java/lang/UnsupportedOperationException" ∧ Q 3 τ))
set_option maxRecDepth 20000 in
theorem oL_isInBlend {l : Launch} {x : Ctx} (hl : l.stackTraces = false) (a1 : Int32) (a2 : Int32) (a3 : Int32) (s0 : Mem) (Q : Int32 → Mem → Prop) (h : wL_isInBlend a1 a2 a3 s0 Q) : MetH l x yL_isInBlend cL_isInBlend 6 [(0, 19, 22, 30), (0, 19, 26, 13), (0, 19, 30, 17)] 8 129 3 18 [.ref (xad x 14 0), .int a1, .int a2, .int a3, .ref (xad x 17 0)] s0 (RI Q) := by
  refine MetH.of hl (by decide) (Nat.le_of_ble_eq_true rfl) [some (.ref (xad x 14 0)), some (.int a1), some (.int a2), some (.int a3), some (.ref (xad x 17 0)), none] rfl (fun K B hx _ => ?_)
  subst hx
  unfold wL_isInBlend at h
  refine g_aload (np := 2) B.1 dL_isInBlend_0 rfl rfl ?_
  refine g_iconst (v := 0) (np := 3) B.1 dL_isInBlend_2 (by decide) rfl ?_
  refine g_aload_n (np := 4) B.1 dL_isInBlend_3 rfl rfl ?_
  refine g_iload_n (np := 5) B.1 dL_isInBlend_4 rfl rfl ?_
  refine g_iload_n (np := 6) B.1 dL_isInBlend_5 rfl rfl ?_
  refine g_iload_n (np := 7) B.1 dL_isInBlend_6 rfl rfl ?_
  refine g_callX (np := 10) B (n := 3) (As := [.int a1, .int a2, .int a3]) (oX12_isInBlend B.1.tr a1 a2 a3 s0 _ _ h) b_1443 b_1440 b_1441 b_1442 b_70 (by decide +kernel) rfl (Nat.le_of_ble_eq_true rfl) (Nat.le_of_ble_eq_true rfl) (Nat.le_of_ble_eq_true rfl) dL_isInBlend_7 (Nat.le_of_ble_eq_true rfl) (Nat.le_of_ble_eq_true rfl) rfl (fun r s2 hr => ?_) (fun E s2 he => ?_)
  · obtain ⟨i, rfl, h⟩ := hr
    show Go K _ _ s2 10 [some (.ref (xad (fX K) 14 0)), some (.int a1), some (.int a2), some (.int a3), some (.ref (xad (fX K) 17 0)), none] (.int i :: .int 0 :: .ref (xad (fX K) 17 0) :: [])
    refine g_if_eq (np := 13) (tgt := 17) B.1 dL_isInBlend_10 (by decide) rfl (fun q => ?_) (fun q => ?_)
    · replace h := h.1 q
      refine g_lconst (v := 0) (np := 18) B.1 dL_isInBlend_17 (by decide) rfl ?_
      refine g_last (np := 19) B.1 dL_isInBlend_18 rfl ?_
      refine g_goto (tgt := 34) B.1 dL_isInBlend_19 (by decide) ?_
      refine g_iconst (v := 0) (np := 35) B.1 dL_isInBlend_34 (by decide) rfl ?_
      exact g_iretH B (Nat.le_of_ble_eq_true rfl) (Nat.le_of_ble_eq_true rfl) dL_isInBlend_35 ⟨_, rfl, h⟩
    · replace h := h.2 q
      refine g_lconst (v := 1) (np := 14) B.1 dL_isInBlend_13 (by decide) rfl ?_
      refine g_goto (tgt := 18) B.1 dL_isInBlend_14 (by decide) ?_
      refine g_last (np := 19) B.1 dL_isInBlend_18 rfl ?_
      refine g_goto (tgt := 34) B.1 dL_isInBlend_19 (by decide) ?_
      refine g_iconst (v := 0) (np := 35) B.1 dL_isInBlend_34 (by decide) rfl ?_
      exact g_iretH B (Nat.le_of_ble_eq_true rfl) (Nat.le_of_ble_eq_true rfl) dL_isInBlend_35 ⟨_, rfl, h⟩
  · rcases he with ⟨rfl, h⟩ | ⟨rfl, h⟩ | ⟨rfl, h⟩
    · refine ⟨[], ⟨0, 19, 22, 30⟩, [⟨0, 19, 26, 13⟩, ⟨0, 19, 30, 17⟩], "java/util/NoSuchElementException", rfl, (fun z hz => absurd hz List.not_mem_nil), rfl, by decide, b_1301, t_1175, fun q => ?_⟩
      refine g_astore (np := 24) (lv' := [some (.ref (xad (fX K) 14 0)), some (.int a1), some (.int a2), some (.int a3), some (.ref (xad (fX K) 17 0)), some (.ref q)]) B.1 dL_isInBlend_22 (by decide) rfl rfl rfl ?_
      refine g_iconst (v := 1) (np := 25) B.1 dL_isInBlend_24 (by decide) rfl ?_
      exact g_iretH B (Nat.le_of_ble_eq_true rfl) (Nat.le_of_ble_eq_true rfl) dL_isInBlend_25 ⟨_, rfl, h⟩
    · refine ⟨[⟨0, 19, 22, 30⟩], ⟨0, 19, 26, 13⟩, [⟨0, 19, 30, 17⟩], "java/lang/IllegalArgumentException", rfl, (fun z hz => by
          rcases List.mem_cons.mp hz with e | hz
          · subst e
            exact Or.inr ⟨by decide, "java/util/NoSuchElementException", b_1301, B.2.2.2.2.2 "java/lang/IllegalArgumentException" (by decide) "java/util/NoSuchElementException" (by decide) (by decide)⟩
          exact absurd hz List.not_mem_nil), rfl, by decide, b_1031, t_830, fun q => ?_⟩
      refine g_astore (np := 28) (lv' := [some (.ref (xad (fX K) 14 0)), some (.int a1), some (.int a2), some (.int a3), some (.ref (xad (fX K) 17 0)), some (.ref q)]) B.1 dL_isInBlend_26 (by decide) rfl rfl rfl ?_
      refine g_iconst (v := 2) (np := 29) B.1 dL_isInBlend_28 (by decide) rfl ?_
      exact g_iretH B (Nat.le_of_ble_eq_true rfl) (Nat.le_of_ble_eq_true rfl) dL_isInBlend_29 ⟨_, rfl, h⟩
    · refine ⟨[⟨0, 19, 22, 30⟩, ⟨0, 19, 26, 13⟩], ⟨0, 19, 30, 17⟩, [], "java/lang/UnsupportedOperationException", rfl, (fun z hz => by
          rcases List.mem_cons.mp hz with e | hz
          · subst e
            exact Or.inr ⟨by decide, "java/util/NoSuchElementException", b_1301, B.2.2.2.2.2 "java/lang/UnsupportedOperationException" (by decide) "java/util/NoSuchElementException" (by decide) (by decide)⟩
          rcases List.mem_cons.mp hz with e | hz
          · subst e
            exact Or.inr ⟨by decide, "java/lang/IllegalArgumentException", b_1031, B.2.2.2.2.2 "java/lang/UnsupportedOperationException" (by decide) "java/lang/IllegalArgumentException" (by decide) (by decide)⟩
          exact absurd hz List.not_mem_nil), rfl, by decide, b_1033, t_1159, fun q => ?_⟩
      refine g_astore (np := 32) (lv' := [some (.ref (xad (fX K) 14 0)), some (.int a1), some (.int a2), some (.int a3), some (.ref (xad (fX K) 17 0)), some (.ref q)]) B.1 dL_isInBlend_30 (by decide) rfl rfl rfl ?_
      refine g_iconst (v := 3) (np := 33) B.1 dL_isInBlend_32 (by decide) rfl ?_
      exact g_iretH B (Nat.le_of_ble_eq_true rfl) (Nat.le_of_ble_eq_true rfl) dL_isInBlend_33 ⟨_, rfl, h⟩
def wL_orderAt (a1 : Int32) (s0 : Mem) (Q : Int32 → Mem → Prop) : Prop := wX12_orderAt a1 s0 (fun (r : Int32) τ => Q 0 (wrL τ r.toInt64)) (fun E τ => (E = "java/util/NoSuchElementException" ∧ Q 1 τ))
set_option maxRecDepth 20000 in
theorem oL_orderAt {l : Launch} {x : Ctx} (hl : l.stackTraces = false) (a1 : Int32) (s0 : Mem) (Q : Int32 → Mem → Prop) (h : wL_orderAt a1 s0 Q) : MetH l x yL_orderAt cL_orderAt 4 [(0, 9, 12, 30)] 7 103 1 6 [.ref (xad x 14 0), .int a1, .ref (xad x 17 0)] s0 (RI Q) := by
  refine MetH.of hl (by decide) (Nat.le_of_ble_eq_true rfl) [some (.ref (xad x 14 0)), some (.int a1), some (.ref (xad x 17 0)), none] rfl (fun K B hx _ => ?_)
  subst hx
  unfold wL_orderAt at h
  refine g_aload_n (np := 1) B.1 dL_orderAt_0 rfl rfl ?_
  refine g_iconst (v := 0) (np := 2) B.1 dL_orderAt_1 (by decide) rfl ?_
  refine g_aload_n (np := 3) B.1 dL_orderAt_2 rfl rfl ?_
  refine g_iload_n (np := 4) B.1 dL_orderAt_3 rfl rfl ?_
  refine g_callX (np := 7) B (n := 1) (As := [.int a1]) (oX12_orderAt B.1.tr a1 s0 _ _ h) b_1450 b_1447 b_1448 b_1449 b_70 (by decide +kernel) rfl (Nat.le_of_ble_eq_true rfl) (Nat.le_of_ble_eq_true rfl) (Nat.le_of_ble_eq_true rfl) dL_orderAt_4 (Nat.le_of_ble_eq_true rfl) (Nat.le_of_ble_eq_true rfl) rfl (fun r s2 hr => ?_) (fun E s2 he => ?_)
  · obtain ⟨i, rfl, h⟩ := hr
    show Go K _ _ s2 7 [some (.ref (xad (fX K) 14 0)), some (.int a1), some (.ref (xad (fX K) 17 0)), none] (.int i :: .int 0 :: .ref (xad (fX K) 17 0) :: [])
    refine g_i2l (np := 8) B.1 dL_orderAt_7 rfl ?_
    refine g_last (np := 9) B.1 dL_orderAt_8 rfl ?_
    refine g_goto (tgt := 15) B.1 dL_orderAt_9 (by decide) ?_
    refine g_iconst (v := 0) (np := 16) B.1 dL_orderAt_15 (by decide) rfl ?_
    exact g_iretH B (Nat.le_of_ble_eq_true rfl) (Nat.le_of_ble_eq_true rfl) dL_orderAt_16 ⟨_, rfl, h⟩
  · obtain ⟨rfl, h⟩ := he
    refine ⟨[], ⟨0, 9, 12, 30⟩, [], "java/util/NoSuchElementException", rfl, (fun z hz => absurd hz List.not_mem_nil), rfl, by decide, b_1301, t_1175, fun q => ?_⟩
    refine g_astore_n (np := 13) (lv' := [some (.ref (xad (fX K) 14 0)), some (.int a1), some (.ref (xad (fX K) 17 0)), some (.ref q)]) B.1 dL_orderAt_12 (by decide) rfl rfl rfl ?_
    refine g_iconst (v := 1) (np := 14) B.1 dL_orderAt_13 (by decide) rfl ?_
    exact g_iretH B (Nat.le_of_ble_eq_true rfl) (Nat.le_of_ble_eq_true rfl) dL_orderAt_14 ⟨_, rfl, h⟩
def wL_lengthOf (a1 : Int32) (s0 : Mem) (Q : Int32 → Mem → Prop) : Prop := wX12_lengthOf a1 s0 (fun (r : Int32) τ => Q 0 (wrL τ r.toInt64)) (fun E τ => (E = "java/util/NoSuchElementException" ∧ Q 1 τ))
set_option maxRecDepth 20000 in
theorem oL_lengthOf {l : Launch} {x : Ctx} (hl : l.stackTraces = false) (a1 : Int32) (s0 : Mem) (Q : Int32 → Mem → Prop) (h : wL_lengthOf a1 s0 Q) : MetH l x yL_lengthOf cL_lengthOf 4 [(0, 9, 12, 30)] 8 125 1 6 [.ref (xad x 14 0), .int a1, .ref (xad x 17 0)] s0 (RI Q) := by
  refine MetH.of hl (by decide) (Nat.le_of_ble_eq_true rfl) [some (.ref (xad x 14 0)), some (.int a1), some (.ref (xad x 17 0)), none] rfl (fun K B hx _ => ?_)
  subst hx
  unfold wL_lengthOf at h
  refine g_aload_n (np := 1) B.1 dL_lengthOf_0 rfl rfl ?_
  refine g_iconst (v := 0) (np := 2) B.1 dL_lengthOf_1 (by decide) rfl ?_
  refine g_aload_n (np := 3) B.1 dL_lengthOf_2 rfl rfl ?_
  refine g_iload_n (np := 4) B.1 dL_lengthOf_3 rfl rfl ?_
  refine g_callX (np := 7) B (n := 1) (As := [.int a1]) (oX12_lengthOf B.1.tr a1 s0 _ _ h) b_1458 b_1455 b_1456 b_1457 b_70 (by decide +kernel) rfl (Nat.le_of_ble_eq_true rfl) (Nat.le_of_ble_eq_true rfl) (Nat.le_of_ble_eq_true rfl) dL_lengthOf_4 (Nat.le_of_ble_eq_true rfl) (Nat.le_of_ble_eq_true rfl) rfl (fun r s2 hr => ?_) (fun E s2 he => ?_)
  · obtain ⟨i, rfl, h⟩ := hr
    show Go K _ _ s2 7 [some (.ref (xad (fX K) 14 0)), some (.int a1), some (.ref (xad (fX K) 17 0)), none] (.int i :: .int 0 :: .ref (xad (fX K) 17 0) :: [])
    refine g_i2l (np := 8) B.1 dL_lengthOf_7 rfl ?_
    refine g_last (np := 9) B.1 dL_lengthOf_8 rfl ?_
    refine g_goto (tgt := 15) B.1 dL_lengthOf_9 (by decide) ?_
    refine g_iconst (v := 0) (np := 16) B.1 dL_lengthOf_15 (by decide) rfl ?_
    exact g_iretH B (Nat.le_of_ble_eq_true rfl) (Nat.le_of_ble_eq_true rfl) dL_lengthOf_16 ⟨_, rfl, h⟩
  · obtain ⟨rfl, h⟩ := he
    refine ⟨[], ⟨0, 9, 12, 30⟩, [], "java/util/NoSuchElementException", rfl, (fun z hz => absurd hz List.not_mem_nil), rfl, by decide, b_1301, t_1175, fun q => ?_⟩
    refine g_astore_n (np := 13) (lv' := [some (.ref (xad (fX K) 14 0)), some (.int a1), some (.ref (xad (fX K) 17 0)), some (.ref q)]) B.1 dL_lengthOf_12 (by decide) rfl rfl rfl ?_
    refine g_iconst (v := 1) (np := 14) B.1 dL_lengthOf_13 (by decide) rfl ?_
    exact g_iretH B (Nat.le_of_ble_eq_true rfl) (Nat.le_of_ble_eq_true rfl) dL_lengthOf_14 ⟨_, rfl, h⟩
def wL_twistOf (a1 : Int32) (s0 : Mem) (Q : Int32 → Mem → Prop) : Prop := wX12_twistOf a1 s0 (fun (r : Int32) τ => Q 0 (wrL τ r.toInt64)) (fun E τ => (E = "java/util/NoSuchElementException" ∧ Q 1 τ))
set_option maxRecDepth 20000 in
theorem oL_twistOf {l : Launch} {x : Ctx} (hl : l.stackTraces = false) (a1 : Int32) (s0 : Mem) (Q : Int32 → Mem → Prop) (h : wL_twistOf a1 s0 Q) : MetH l x yL_twistOf cL_twistOf 4 [(0, 9, 12, 30)] 8 125 1 6 [.ref (xad x 14 0), .int a1, .ref (xad x 17 0)] s0 (RI Q) := by
  refine MetH.of hl (by decide) (Nat.le_of_ble_eq_true rfl) [some (.ref (xad x 14 0)), some (.int a1), some (.ref (xad x 17 0)), none] rfl (fun K B hx _ => ?_)
  subst hx
  unfold wL_twistOf at h
  refine g_aload_n (np := 1) B.1 dL_twistOf_0 rfl rfl ?_
  refine g_iconst (v := 0) (np := 2) B.1 dL_twistOf_1 (by decide) rfl ?_
  refine g_aload_n (np := 3) B.1 dL_twistOf_2 rfl rfl ?_
  refine g_iload_n (np := 4) B.1 dL_twistOf_3 rfl rfl ?_
  refine g_callX (np := 7) B (n := 1) (As := [.int a1]) (oX12_twistOf B.1.tr a1 s0 _ _ h) b_1469 b_1466 b_1467 b_1468 b_70 (by decide +kernel) rfl (Nat.le_of_ble_eq_true rfl) (Nat.le_of_ble_eq_true rfl) (Nat.le_of_ble_eq_true rfl) dL_twistOf_4 (Nat.le_of_ble_eq_true rfl) (Nat.le_of_ble_eq_true rfl) rfl (fun r s2 hr => ?_) (fun E s2 he => ?_)
  · obtain ⟨i, rfl, h⟩ := hr
    show Go K _ _ s2 7 [some (.ref (xad (fX K) 14 0)), some (.int a1), some (.ref (xad (fX K) 17 0)), none] (.int i :: .int 0 :: .ref (xad (fX K) 17 0) :: [])
    refine g_i2l (np := 8) B.1 dL_twistOf_7 rfl ?_
    refine g_last (np := 9) B.1 dL_twistOf_8 rfl ?_
    refine g_goto (tgt := 15) B.1 dL_twistOf_9 (by decide) ?_
    refine g_iconst (v := 0) (np := 16) B.1 dL_twistOf_15 (by decide) rfl ?_
    exact g_iretH B (Nat.le_of_ble_eq_true rfl) (Nat.le_of_ble_eq_true rfl) dL_twistOf_16 ⟨_, rfl, h⟩
  · obtain ⟨rfl, h⟩ := he
    refine ⟨[], ⟨0, 9, 12, 30⟩, [], "java/util/NoSuchElementException", rfl, (fun z hz => absurd hz List.not_mem_nil), rfl, by decide, b_1301, t_1175, fun q => ?_⟩
    refine g_astore_n (np := 13) (lv' := [some (.ref (xad (fX K) 14 0)), some (.int a1), some (.ref (xad (fX K) 17 0)), some (.ref q)]) B.1 dL_twistOf_12 (by decide) rfl rfl rfl ?_
    refine g_iconst (v := 1) (np := 14) B.1 dL_twistOf_13 (by decide) rfl ?_
    exact g_iretH B (Nat.le_of_ble_eq_true rfl) (Nat.le_of_ble_eq_true rfl) dL_twistOf_14 ⟨_, rfl, h⟩
def wL_minutesOf (a1 : Int32) (s0 : Mem) (Q : Int32 → Mem → Prop) : Prop := wX12_minutesOf a1 s0 (fun (r : Int32) τ => Q 0 (wrL τ r.toInt64)) (fun E τ => (E = "java/util/NoSuchElementException" ∧ Q 1 τ))
set_option maxRecDepth 20000 in
theorem oL_minutesOf {l : Launch} {x : Ctx} (hl : l.stackTraces = false) (a1 : Int32) (s0 : Mem) (Q : Int32 → Mem → Prop) (h : wL_minutesOf a1 s0 Q) : MetH l x yL_minutesOf cL_minutesOf 4 [(0, 9, 12, 30)] 8 125 1 6 [.ref (xad x 14 0), .int a1, .ref (xad x 17 0)] s0 (RI Q) := by
  refine MetH.of hl (by decide) (Nat.le_of_ble_eq_true rfl) [some (.ref (xad x 14 0)), some (.int a1), some (.ref (xad x 17 0)), none] rfl (fun K B hx _ => ?_)
  subst hx
  unfold wL_minutesOf at h
  refine g_aload_n (np := 1) B.1 dL_minutesOf_0 rfl rfl ?_
  refine g_iconst (v := 0) (np := 2) B.1 dL_minutesOf_1 (by decide) rfl ?_
  refine g_aload_n (np := 3) B.1 dL_minutesOf_2 rfl rfl ?_
  refine g_iload_n (np := 4) B.1 dL_minutesOf_3 rfl rfl ?_
  refine g_callX (np := 7) B (n := 1) (As := [.int a1]) (oX12_minutesOf B.1.tr a1 s0 _ _ h) b_1476 b_1473 b_1474 b_1475 b_70 (by decide +kernel) rfl (Nat.le_of_ble_eq_true rfl) (Nat.le_of_ble_eq_true rfl) (Nat.le_of_ble_eq_true rfl) dL_minutesOf_4 (Nat.le_of_ble_eq_true rfl) (Nat.le_of_ble_eq_true rfl) rfl (fun r s2 hr => ?_) (fun E s2 he => ?_)
  · obtain ⟨i, rfl, h⟩ := hr
    show Go K _ _ s2 7 [some (.ref (xad (fX K) 14 0)), some (.int a1), some (.ref (xad (fX K) 17 0)), none] (.int i :: .int 0 :: .ref (xad (fX K) 17 0) :: [])
    refine g_i2l (np := 8) B.1 dL_minutesOf_7 rfl ?_
    refine g_last (np := 9) B.1 dL_minutesOf_8 rfl ?_
    refine g_goto (tgt := 15) B.1 dL_minutesOf_9 (by decide) ?_
    refine g_iconst (v := 0) (np := 16) B.1 dL_minutesOf_15 (by decide) rfl ?_
    exact g_iretH B (Nat.le_of_ble_eq_true rfl) (Nat.le_of_ble_eq_true rfl) dL_minutesOf_16 ⟨_, rfl, h⟩
  · obtain ⟨rfl, h⟩ := he
    refine ⟨[], ⟨0, 9, 12, 30⟩, [], "java/util/NoSuchElementException", rfl, (fun z hz => absurd hz List.not_mem_nil), rfl, by decide, b_1301, t_1175, fun q => ?_⟩
    refine g_astore_n (np := 13) (lv' := [some (.ref (xad (fX K) 14 0)), some (.int a1), some (.ref (xad (fX K) 17 0)), some (.ref q)]) B.1 dL_minutesOf_12 (by decide) rfl rfl rfl ?_
    refine g_iconst (v := 1) (np := 14) B.1 dL_minutesOf_13 (by decide) rfl ?_
    exact g_iretH B (Nat.le_of_ble_eq_true rfl) (Nat.le_of_ble_eq_true rfl) dL_minutesOf_14 ⟨_, rfl, h⟩
def wL_canSpin (a1 : Int32) (s0 : Mem) (Q : Int32 → Mem → Prop) : Prop := wX12_canSpin a1 s0 (fun (r : Int32) τ => (r = 0 → Q 0 (wrL τ 0)) ∧ (¬ r = 0 → Q 0 (wrL τ 1))) (fun E τ => (E = "java/util/NoSuchElementException" ∧ Q 1 τ))
set_option maxRecDepth 20000 in
theorem oL_canSpin {l : Launch} {x : Ctx} (hl : l.stackTraces = false) (a1 : Int32) (s0 : Mem) (Q : Int32 → Mem → Prop) (h : wL_canSpin a1 s0 Q) : MetH l x yL_canSpin cL_canSpin 4 [(0, 16, 19, 30)] 8 125 1 6 [.ref (xad x 14 0), .int a1, .ref (xad x 17 0)] s0 (RI Q) := by
  refine MetH.of hl (by decide) (Nat.le_of_ble_eq_true rfl) [some (.ref (xad x 14 0)), some (.int a1), some (.ref (xad x 17 0)), none] rfl (fun K B hx _ => ?_)
  subst hx
  unfold wL_canSpin at h
  refine g_aload_n (np := 1) B.1 dL_canSpin_0 rfl rfl ?_
  refine g_iconst (v := 0) (np := 2) B.1 dL_canSpin_1 (by decide) rfl ?_
  refine g_aload_n (np := 3) B.1 dL_canSpin_2 rfl rfl ?_
  refine g_iload_n (np := 4) B.1 dL_canSpin_3 rfl rfl ?_
  refine g_callX (np := 7) B (n := 1) (As := [.int a1]) (oX12_canSpin B.1.tr a1 s0 _ _ h) b_1483 b_1480 b_1481 b_1482 b_70 (by decide +kernel) rfl (Nat.le_of_ble_eq_true rfl) (Nat.le_of_ble_eq_true rfl) (Nat.le_of_ble_eq_true rfl) dL_canSpin_4 (Nat.le_of_ble_eq_true rfl) (Nat.le_of_ble_eq_true rfl) rfl (fun r s2 hr => ?_) (fun E s2 he => ?_)
  · obtain ⟨i, rfl, h⟩ := hr
    show Go K _ _ s2 7 [some (.ref (xad (fX K) 14 0)), some (.int a1), some (.ref (xad (fX K) 17 0)), none] (.int i :: .int 0 :: .ref (xad (fX K) 17 0) :: [])
    refine g_if_eq (np := 10) (tgt := 14) B.1 dL_canSpin_7 (by decide) rfl (fun q => ?_) (fun q => ?_)
    · replace h := h.1 q
      refine g_lconst (v := 0) (np := 15) B.1 dL_canSpin_14 (by decide) rfl ?_
      refine g_last (np := 16) B.1 dL_canSpin_15 rfl ?_
      refine g_goto (tgt := 22) B.1 dL_canSpin_16 (by decide) ?_
      refine g_iconst (v := 0) (np := 23) B.1 dL_canSpin_22 (by decide) rfl ?_
      exact g_iretH B (Nat.le_of_ble_eq_true rfl) (Nat.le_of_ble_eq_true rfl) dL_canSpin_23 ⟨_, rfl, h⟩
    · replace h := h.2 q
      refine g_lconst (v := 1) (np := 11) B.1 dL_canSpin_10 (by decide) rfl ?_
      refine g_goto (tgt := 15) B.1 dL_canSpin_11 (by decide) ?_
      refine g_last (np := 16) B.1 dL_canSpin_15 rfl ?_
      refine g_goto (tgt := 22) B.1 dL_canSpin_16 (by decide) ?_
      refine g_iconst (v := 0) (np := 23) B.1 dL_canSpin_22 (by decide) rfl ?_
      exact g_iretH B (Nat.le_of_ble_eq_true rfl) (Nat.le_of_ble_eq_true rfl) dL_canSpin_23 ⟨_, rfl, h⟩
  · obtain ⟨rfl, h⟩ := he
    refine ⟨[], ⟨0, 16, 19, 30⟩, [], "java/util/NoSuchElementException", rfl, (fun z hz => absurd hz List.not_mem_nil), rfl, by decide, b_1301, t_1175, fun q => ?_⟩
    refine g_astore_n (np := 20) (lv' := [some (.ref (xad (fX K) 14 0)), some (.int a1), some (.ref (xad (fX K) 17 0)), some (.ref q)]) B.1 dL_canSpin_19 (by decide) rfl rfl rfl ?_
    refine g_iconst (v := 1) (np := 21) B.1 dL_canSpin_20 (by decide) rfl ?_
    exact g_iretH B (Nat.le_of_ble_eq_true rfl) (Nat.le_of_ble_eq_true rfl) dL_canSpin_21 ⟨_, rfl, h⟩
def wL_orderByTime (a1 : Int32) (s0 : Mem) (Q : Int32 → Mem → Prop) : Prop := wX12_orderByTime a1 s0 (fun (r : Int32) τ => Q 0 (wrL τ r.toInt64)) (fun E τ => (E = "java/util/NoSuchElementException" ∧ Q 1 τ))
set_option maxRecDepth 20000 in
theorem oL_orderByTime {l : Launch} {x : Ctx} (hl : l.stackTraces = false) (a1 : Int32) (s0 : Mem) (Q : Int32 → Mem → Prop) (h : wL_orderByTime a1 s0 Q) : MetH l x yL_orderByTime cL_orderByTime 4 [(0, 9, 12, 30)] 8 125 1 6 [.ref (xad x 14 0), .int a1, .ref (xad x 17 0)] s0 (RI Q) := by
  refine MetH.of hl (by decide) (Nat.le_of_ble_eq_true rfl) [some (.ref (xad x 14 0)), some (.int a1), some (.ref (xad x 17 0)), none] rfl (fun K B hx _ => ?_)
  subst hx
  unfold wL_orderByTime at h
  refine g_aload_n (np := 1) B.1 dL_orderByTime_0 rfl rfl ?_
  refine g_iconst (v := 0) (np := 2) B.1 dL_orderByTime_1 (by decide) rfl ?_
  refine g_aload_n (np := 3) B.1 dL_orderByTime_2 rfl rfl ?_
  refine g_iload_n (np := 4) B.1 dL_orderByTime_3 rfl rfl ?_
  refine g_callX (np := 7) B (n := 1) (As := [.int a1]) (oX12_orderByTime B.1.tr a1 s0 _ _ h) b_1490 b_1487 b_1488 b_1489 b_70 (by decide +kernel) rfl (Nat.le_of_ble_eq_true rfl) (Nat.le_of_ble_eq_true rfl) (Nat.le_of_ble_eq_true rfl) dL_orderByTime_4 (Nat.le_of_ble_eq_true rfl) (Nat.le_of_ble_eq_true rfl) rfl (fun r s2 hr => ?_) (fun E s2 he => ?_)
  · obtain ⟨i, rfl, h⟩ := hr
    show Go K _ _ s2 7 [some (.ref (xad (fX K) 14 0)), some (.int a1), some (.ref (xad (fX K) 17 0)), none] (.int i :: .int 0 :: .ref (xad (fX K) 17 0) :: [])
    refine g_i2l (np := 8) B.1 dL_orderByTime_7 rfl ?_
    refine g_last (np := 9) B.1 dL_orderByTime_8 rfl ?_
    refine g_goto (tgt := 15) B.1 dL_orderByTime_9 (by decide) ?_
    refine g_iconst (v := 0) (np := 16) B.1 dL_orderByTime_15 (by decide) rfl ?_
    exact g_iretH B (Nat.le_of_ble_eq_true rfl) (Nat.le_of_ble_eq_true rfl) dL_orderByTime_16 ⟨_, rfl, h⟩
  · obtain ⟨rfl, h⟩ := he
    refine ⟨[], ⟨0, 9, 12, 30⟩, [], "java/util/NoSuchElementException", rfl, (fun z hz => absurd hz List.not_mem_nil), rfl, by decide, b_1301, t_1175, fun q => ?_⟩
    refine g_astore_n (np := 13) (lv' := [some (.ref (xad (fX K) 14 0)), some (.int a1), some (.ref (xad (fX K) 17 0)), some (.ref q)]) B.1 dL_orderByTime_12 (by decide) rfl rfl rfl ?_
    refine g_iconst (v := 1) (np := 14) B.1 dL_orderByTime_13 (by decide) rfl ?_
    exact g_iretH B (Nat.le_of_ble_eq_true rfl) (Nat.le_of_ble_eq_true rfl) dL_orderByTime_14 ⟨_, rfl, h⟩
def wL_pieceLength (a1 : Int32) (s0 : Mem) (Q : Int32 → Mem → Prop) : Prop := wX12_pieceLength a1 s0 (fun (r : Int32) τ => Q 0 (wrL τ r.toInt64)) (fun E τ => (E = "java/lang/IndexOutOfBoundsException" ∧ Q 1 τ))
set_option maxRecDepth 20000 in
theorem oL_pieceLength {l : Launch} {x : Ctx} (hl : l.stackTraces = false) (a1 : Int32) (s0 : Mem) (Q : Int32 → Mem → Prop) (h : wL_pieceLength a1 s0 Q) : MetH l x yL_pieceLength cL_pieceLength 4 [(0, 9, 12, 41)] 8 124 1 6 [.ref (xad x 14 0), .int a1, .ref (xad x 17 0)] s0 (RI Q) := by
  refine MetH.of hl (by decide) (Nat.le_of_ble_eq_true rfl) [some (.ref (xad x 14 0)), some (.int a1), some (.ref (xad x 17 0)), none] rfl (fun K B hx _ => ?_)
  subst hx
  unfold wL_pieceLength at h
  refine g_aload_n (np := 1) B.1 dL_pieceLength_0 rfl rfl ?_
  refine g_iconst (v := 0) (np := 2) B.1 dL_pieceLength_1 (by decide) rfl ?_
  refine g_aload_n (np := 3) B.1 dL_pieceLength_2 rfl rfl ?_
  refine g_iload_n (np := 4) B.1 dL_pieceLength_3 rfl rfl ?_
  refine g_callX (np := 7) B (n := 1) (As := [.int a1]) (oX12_pieceLength B.1.tr a1 s0 _ _ h) b_1502 b_1499 b_1500 b_1501 b_70 (by decide +kernel) rfl (Nat.le_of_ble_eq_true rfl) (Nat.le_of_ble_eq_true rfl) (Nat.le_of_ble_eq_true rfl) dL_pieceLength_4 (Nat.le_of_ble_eq_true rfl) (Nat.le_of_ble_eq_true rfl) rfl (fun r s2 hr => ?_) (fun E s2 he => ?_)
  · obtain ⟨i, rfl, h⟩ := hr
    show Go K _ _ s2 7 [some (.ref (xad (fX K) 14 0)), some (.int a1), some (.ref (xad (fX K) 17 0)), none] (.int i :: .int 0 :: .ref (xad (fX K) 17 0) :: [])
    refine g_i2l (np := 8) B.1 dL_pieceLength_7 rfl ?_
    refine g_last (np := 9) B.1 dL_pieceLength_8 rfl ?_
    refine g_goto (tgt := 15) B.1 dL_pieceLength_9 (by decide) ?_
    refine g_iconst (v := 0) (np := 16) B.1 dL_pieceLength_15 (by decide) rfl ?_
    exact g_iretH B (Nat.le_of_ble_eq_true rfl) (Nat.le_of_ble_eq_true rfl) dL_pieceLength_16 ⟨_, rfl, h⟩
  · obtain ⟨rfl, h⟩ := he
    refine ⟨[], ⟨0, 9, 12, 41⟩, [], "java/lang/IndexOutOfBoundsException", rfl, (fun z hz => absurd hz List.not_mem_nil), rfl, by decide, b_1329, t_1191, fun q => ?_⟩
    refine g_astore_n (np := 13) (lv' := [some (.ref (xad (fX K) 14 0)), some (.int a1), some (.ref (xad (fX K) 17 0)), some (.ref q)]) B.1 dL_pieceLength_12 (by decide) rfl rfl rfl ?_
    refine g_iconst (v := 1) (np := 14) B.1 dL_pieceLength_13 (by decide) rfl ?_
    exact g_iretH B (Nat.le_of_ble_eq_true rfl) (Nat.le_of_ble_eq_true rfl) dL_pieceLength_14 ⟨_, rfl, h⟩
def wL_longestPiece  (s0 : Mem) (Q : Int32 → Mem → Prop) : Prop := wX12_longestPiece  s0 (fun (r : Int32) τ => Q 0 (wrL τ r.toInt64)) (fun E τ => (E = "java/util/NoSuchElementException" ∧ Q 1 τ))
set_option maxRecDepth 20000 in
theorem oL_longestPiece {l : Launch} {x : Ctx} (hl : l.stackTraces = false)  (s0 : Mem) (Q : Int32 → Mem → Prop) (h : wL_longestPiece  s0 Q) : MetH l x yL_longestPiece cL_longestPiece 3 [(0, 8, 11, 30)] 7 102 1 6 [.ref (xad x 14 0), .ref (xad x 17 0)] s0 (RI Q) := by
  refine MetH.of hl (by decide) (Nat.le_of_ble_eq_true rfl) [some (.ref (xad x 14 0)), some (.ref (xad x 17 0)), none] rfl (fun K B hx _ => ?_)
  subst hx
  unfold wL_longestPiece at h
  refine g_aload_n (np := 1) B.1 dL_longestPiece_0 rfl rfl ?_
  refine g_iconst (v := 0) (np := 2) B.1 dL_longestPiece_1 (by decide) rfl ?_
  refine g_aload_n (np := 3) B.1 dL_longestPiece_2 rfl rfl ?_
  refine g_callX (np := 6) B (n := 0) (As := []) (oX12_longestPiece B.1.tr  s0 _ _ h) b_1513 b_1510 b_1511 b_1512 b_70 (by decide +kernel) rfl (Nat.le_of_ble_eq_true rfl) (Nat.le_of_ble_eq_true rfl) (Nat.le_of_ble_eq_true rfl) dL_longestPiece_3 (Nat.le_of_ble_eq_true rfl) (Nat.le_of_ble_eq_true rfl) rfl (fun r s2 hr => ?_) (fun E s2 he => ?_)
  · obtain ⟨i, rfl, h⟩ := hr
    show Go K _ _ s2 6 [some (.ref (xad (fX K) 14 0)), some (.ref (xad (fX K) 17 0)), none] (.int i :: .int 0 :: .ref (xad (fX K) 17 0) :: [])
    refine g_i2l (np := 7) B.1 dL_longestPiece_6 rfl ?_
    refine g_last (np := 8) B.1 dL_longestPiece_7 rfl ?_
    refine g_goto (tgt := 14) B.1 dL_longestPiece_8 (by decide) ?_
    refine g_iconst (v := 0) (np := 15) B.1 dL_longestPiece_14 (by decide) rfl ?_
    exact g_iretH B (Nat.le_of_ble_eq_true rfl) (Nat.le_of_ble_eq_true rfl) dL_longestPiece_15 ⟨_, rfl, h⟩
  · obtain ⟨rfl, h⟩ := he
    refine ⟨[], ⟨0, 8, 11, 30⟩, [], "java/util/NoSuchElementException", rfl, (fun z hz => absurd hz List.not_mem_nil), rfl, by decide, b_1301, t_1175, fun q => ?_⟩
    refine g_astore_n (np := 12) (lv' := [some (.ref (xad (fX K) 14 0)), some (.ref (xad (fX K) 17 0)), some (.ref q)]) B.1 dL_longestPiece_11 (by decide) rfl rfl rfl ?_
    refine g_iconst (v := 1) (np := 13) B.1 dL_longestPiece_12 (by decide) rfl ?_
    exact g_iretH B (Nat.le_of_ble_eq_true rfl) (Nat.le_of_ble_eq_true rfl) dL_longestPiece_13 ⟨_, rfl, h⟩
def wL_pieceByLength (a1 : Int32) (s0 : Mem) (Q : Int32 → Mem → Prop) : Prop := wX12_pieceByLength a1 s0 (fun (r : Int32) τ => Q 0 (wrL τ r.toInt64)) (fun E τ => (E = "java/util/NoSuchElementException" ∧ Q 1 τ))
set_option maxRecDepth 20000 in
theorem oL_pieceByLength {l : Launch} {x : Ctx} (hl : l.stackTraces = false) (a1 : Int32) (s0 : Mem) (Q : Int32 → Mem → Prop) (h : wL_pieceByLength a1 s0 Q) : MetH l x yL_pieceByLength cL_pieceByLength 4 [(0, 9, 12, 30)] 8 125 1 6 [.ref (xad x 14 0), .int a1, .ref (xad x 17 0)] s0 (RI Q) := by
  refine MetH.of hl (by decide) (Nat.le_of_ble_eq_true rfl) [some (.ref (xad x 14 0)), some (.int a1), some (.ref (xad x 17 0)), none] rfl (fun K B hx _ => ?_)
  subst hx
  unfold wL_pieceByLength at h
  refine g_aload_n (np := 1) B.1 dL_pieceByLength_0 rfl rfl ?_
  refine g_iconst (v := 0) (np := 2) B.1 dL_pieceByLength_1 (by decide) rfl ?_
  refine g_aload_n (np := 3) B.1 dL_pieceByLength_2 rfl rfl ?_
  refine g_iload_n (np := 4) B.1 dL_pieceByLength_3 rfl rfl ?_
  refine g_callX (np := 7) B (n := 1) (As := [.int a1]) (oX12_pieceByLength B.1.tr a1 s0 _ _ h) b_1525 b_1522 b_1523 b_1524 b_70 (by decide +kernel) rfl (Nat.le_of_ble_eq_true rfl) (Nat.le_of_ble_eq_true rfl) (Nat.le_of_ble_eq_true rfl) dL_pieceByLength_4 (Nat.le_of_ble_eq_true rfl) (Nat.le_of_ble_eq_true rfl) rfl (fun r s2 hr => ?_) (fun E s2 he => ?_)
  · obtain ⟨i, rfl, h⟩ := hr
    show Go K _ _ s2 7 [some (.ref (xad (fX K) 14 0)), some (.int a1), some (.ref (xad (fX K) 17 0)), none] (.int i :: .int 0 :: .ref (xad (fX K) 17 0) :: [])
    refine g_i2l (np := 8) B.1 dL_pieceByLength_7 rfl ?_
    refine g_last (np := 9) B.1 dL_pieceByLength_8 rfl ?_
    refine g_goto (tgt := 15) B.1 dL_pieceByLength_9 (by decide) ?_
    refine g_iconst (v := 0) (np := 16) B.1 dL_pieceByLength_15 (by decide) rfl ?_
    exact g_iretH B (Nat.le_of_ble_eq_true rfl) (Nat.le_of_ble_eq_true rfl) dL_pieceByLength_16 ⟨_, rfl, h⟩
  · obtain ⟨rfl, h⟩ := he
    refine ⟨[], ⟨0, 9, 12, 30⟩, [], "java/util/NoSuchElementException", rfl, (fun z hz => absurd hz List.not_mem_nil), rfl, by decide, b_1301, t_1175, fun q => ?_⟩
    refine g_astore_n (np := 13) (lv' := [some (.ref (xad (fX K) 14 0)), some (.int a1), some (.ref (xad (fX K) 17 0)), some (.ref q)]) B.1 dL_pieceByLength_12 (by decide) rfl rfl rfl ?_
    refine g_iconst (v := 1) (np := 14) B.1 dL_pieceByLength_13 (by decide) rfl ?_
    exact g_iretH B (Nat.le_of_ble_eq_true rfl) (Nat.le_of_ble_eq_true rfl) dL_pieceByLength_14 ⟨_, rfl, h⟩
def wL_worthOf (a1 : Int32) (s0 : Mem) (Q : Int32 → Mem → Prop) : Prop := wX12_worthOf a1 s0 (fun (r : Int32) τ => Q 0 (wrL τ r.toInt64)) (fun E τ => (E = "java/lang/IndexOutOfBoundsException" ∧ Q 1 τ))
set_option maxRecDepth 20000 in
theorem oL_worthOf {l : Launch} {x : Ctx} (hl : l.stackTraces = false) (a1 : Int32) (s0 : Mem) (Q : Int32 → Mem → Prop) (h : wL_worthOf a1 s0 Q) : MetH l x yL_worthOf cL_worthOf 4 [(0, 9, 12, 41)] 8 124 1 6 [.ref (xad x 14 0), .int a1, .ref (xad x 17 0)] s0 (RI Q) := by
  refine MetH.of hl (by decide) (Nat.le_of_ble_eq_true rfl) [some (.ref (xad x 14 0)), some (.int a1), some (.ref (xad x 17 0)), none] rfl (fun K B hx _ => ?_)
  subst hx
  unfold wL_worthOf at h
  refine g_aload_n (np := 1) B.1 dL_worthOf_0 rfl rfl ?_
  refine g_iconst (v := 0) (np := 2) B.1 dL_worthOf_1 (by decide) rfl ?_
  refine g_aload_n (np := 3) B.1 dL_worthOf_2 rfl rfl ?_
  refine g_iload_n (np := 4) B.1 dL_worthOf_3 rfl rfl ?_
  refine g_callX (np := 7) B (n := 1) (As := [.int a1]) (oX12_worthOf B.1.tr a1 s0 _ _ h) b_1532 b_1529 b_1530 b_1531 b_70 (by decide +kernel) rfl (Nat.le_of_ble_eq_true rfl) (Nat.le_of_ble_eq_true rfl) (Nat.le_of_ble_eq_true rfl) dL_worthOf_4 (Nat.le_of_ble_eq_true rfl) (Nat.le_of_ble_eq_true rfl) rfl (fun r s2 hr => ?_) (fun E s2 he => ?_)
  · obtain ⟨i, rfl, h⟩ := hr
    show Go K _ _ s2 7 [some (.ref (xad (fX K) 14 0)), some (.int a1), some (.ref (xad (fX K) 17 0)), none] (.int i :: .int 0 :: .ref (xad (fX K) 17 0) :: [])
    refine g_i2l (np := 8) B.1 dL_worthOf_7 rfl ?_
    refine g_last (np := 9) B.1 dL_worthOf_8 rfl ?_
    refine g_goto (tgt := 15) B.1 dL_worthOf_9 (by decide) ?_
    refine g_iconst (v := 0) (np := 16) B.1 dL_worthOf_15 (by decide) rfl ?_
    exact g_iretH B (Nat.le_of_ble_eq_true rfl) (Nat.le_of_ble_eq_true rfl) dL_worthOf_16 ⟨_, rfl, h⟩
  · obtain ⟨rfl, h⟩ := he
    refine ⟨[], ⟨0, 9, 12, 41⟩, [], "java/lang/IndexOutOfBoundsException", rfl, (fun z hz => absurd hz List.not_mem_nil), rfl, by decide, b_1329, t_1191, fun q => ?_⟩
    refine g_astore_n (np := 13) (lv' := [some (.ref (xad (fX K) 14 0)), some (.int a1), some (.ref (xad (fX K) 17 0)), some (.ref q)]) B.1 dL_worthOf_12 (by decide) rfl rfl rfl ?_
    refine g_iconst (v := 1) (np := 14) B.1 dL_worthOf_13 (by decide) rfl ?_
    exact g_iretH B (Nat.le_of_ble_eq_true rfl) (Nat.le_of_ble_eq_true rfl) dL_worthOf_14 ⟨_, rfl, h⟩
def wL_meanLength  (s0 : Mem) (Q : Int32 → Mem → Prop) : Prop := wX12_meanLength  s0 (fun (r : UInt64) τ => Q 0 (wrD τ r)) (fun E τ => (E = "java/lang/ArithmeticException" ∧ Q 1 τ))
set_option maxRecDepth 20000 in
theorem oL_meanLength {l : Launch} {x : Ctx} (hl : l.stackTraces = false)  (s0 : Mem) (Q : Int32 → Mem → Prop) (h : wL_meanLength  s0 Q) : MetH l x yL_meanLength cL_meanLength 3 [(0, 7, 10, 110)] 8 122 1 6 [.ref (xad x 14 0), .ref (xad x 18 0)] s0 (RI Q) := by
  refine MetH.of hl (by decide) (Nat.le_of_ble_eq_true rfl) [some (.ref (xad x 14 0)), some (.ref (xad x 18 0)), none] rfl (fun K B hx _ => ?_)
  subst hx
  unfold wL_meanLength at h
  refine g_aload_n (np := 1) B.1 dL_meanLength_0 rfl rfl ?_
  refine g_iconst (v := 0) (np := 2) B.1 dL_meanLength_1 (by decide) rfl ?_
  refine g_aload_n (np := 3) B.1 dL_meanLength_2 rfl rfl ?_
  refine g_callX (np := 6) B (n := 0) (As := []) (oX12_meanLength B.1.tr  s0 _ _ h) b_1554 b_1551 b_1552 b_1553 b_70 (by decide +kernel) rfl (Nat.le_of_ble_eq_true rfl) (Nat.le_of_ble_eq_true rfl) (Nat.le_of_ble_eq_true rfl) dL_meanLength_3 (Nat.le_of_ble_eq_true rfl) (Nat.le_of_ble_eq_true rfl) rfl (fun r s2 hr => ?_) (fun E s2 he => ?_)
  · obtain ⟨i, rfl, h⟩ := hr
    show Go K _ _ s2 6 [some (.ref (xad (fX K) 14 0)), some (.ref (xad (fX K) 18 0)), none] (.double i :: .int 0 :: .ref (xad (fX K) 18 0) :: [])
    refine g_dast (np := 7) B.1 dL_meanLength_6 rfl ?_
    refine g_goto (tgt := 13) B.1 dL_meanLength_7 (by decide) ?_
    refine g_iconst (v := 0) (np := 14) B.1 dL_meanLength_13 (by decide) rfl ?_
    exact g_iretH B (Nat.le_of_ble_eq_true rfl) (Nat.le_of_ble_eq_true rfl) dL_meanLength_14 ⟨_, rfl, h⟩
  · obtain ⟨rfl, h⟩ := he
    refine ⟨[], ⟨0, 7, 10, 110⟩, [], "java/lang/ArithmeticException", rfl, (fun z hz => absurd hz List.not_mem_nil), rfl, by decide, b_1537, t_1549, fun q => ?_⟩
    refine g_astore_n (np := 11) (lv' := [some (.ref (xad (fX K) 14 0)), some (.ref (xad (fX K) 18 0)), some (.ref q)]) B.1 dL_meanLength_10 (by decide) rfl rfl rfl ?_
    refine g_iconst (v := 1) (np := 12) B.1 dL_meanLength_11 (by decide) rfl ?_
    exact g_iretH B (Nat.le_of_ble_eq_true rfl) (Nat.le_of_ble_eq_true rfl) dL_meanLength_12 ⟨_, rfl, h⟩
def wL_longShare  (s0 : Mem) (Q : Int32 → Mem → Prop) : Prop := wX12_longShare  s0 (fun (r : UInt32) τ => vf_n64 (FP.f2d r) ∧ Q 0 (wrD τ (FP.f2d r))) (fun E τ => (E = "java/lang/ArithmeticException" ∧ Q 1 τ))
set_option maxRecDepth 20000 in
theorem oL_longShare {l : Launch} {x : Ctx} (hl : l.stackTraces = false)  (s0 : Mem) (Q : Int32 → Mem → Prop) (h : wL_longShare  s0 Q) : MetH l x yL_longShare cL_longShare 3 [(0, 8, 11, 110)] 8 122 1 6 [.ref (xad x 14 0), .ref (xad x 18 0)] s0 (RI Q) := by
  refine MetH.of hl (by decide) (Nat.le_of_ble_eq_true rfl) [some (.ref (xad x 14 0)), some (.ref (xad x 18 0)), none] rfl (fun K B hx _ => ?_)
  subst hx
  unfold wL_longShare at h
  refine g_aload_n (np := 1) B.1 dL_longShare_0 rfl rfl ?_
  refine g_iconst (v := 0) (np := 2) B.1 dL_longShare_1 (by decide) rfl ?_
  refine g_aload_n (np := 3) B.1 dL_longShare_2 rfl rfl ?_
  refine g_callX (np := 6) B (n := 0) (As := []) (oX12_longShare B.1.tr  s0 _ _ h) b_1567 b_1564 b_1565 b_1566 b_70 (by decide +kernel) rfl (Nat.le_of_ble_eq_true rfl) (Nat.le_of_ble_eq_true rfl) (Nat.le_of_ble_eq_true rfl) dL_longShare_3 (Nat.le_of_ble_eq_true rfl) (Nat.le_of_ble_eq_true rfl) rfl (fun r s2 hr => ?_) (fun E s2 he => ?_)
  · obtain ⟨i, rfl, h⟩ := hr
    show Go K _ _ s2 6 [some (.ref (xad (fX K) 14 0)), some (.ref (xad (fX K) 18 0)), none] (.float i :: .int 0 :: .ref (xad (fX K) 18 0) :: [])
    refine g_f2d (np := 7) B.1 h.1 dL_longShare_6 rfl ?_
    replace h := h.2
    refine g_dast (np := 8) B.1 dL_longShare_7 rfl ?_
    refine g_goto (tgt := 14) B.1 dL_longShare_8 (by decide) ?_
    refine g_iconst (v := 0) (np := 15) B.1 dL_longShare_14 (by decide) rfl ?_
    exact g_iretH B (Nat.le_of_ble_eq_true rfl) (Nat.le_of_ble_eq_true rfl) dL_longShare_15 ⟨_, rfl, h⟩
  · obtain ⟨rfl, h⟩ := he
    refine ⟨[], ⟨0, 8, 11, 110⟩, [], "java/lang/ArithmeticException", rfl, (fun z hz => absurd hz List.not_mem_nil), rfl, by decide, b_1537, t_1549, fun q => ?_⟩
    refine g_astore_n (np := 12) (lv' := [some (.ref (xad (fX K) 14 0)), some (.ref (xad (fX K) 18 0)), some (.ref q)]) B.1 dL_longShare_11 (by decide) rfl rfl rfl ?_
    refine g_iconst (v := 1) (np := 13) B.1 dL_longShare_12 (by decide) rfl ?_
    exact g_iretH B (Nat.le_of_ble_eq_true rfl) (Nat.le_of_ble_eq_true rfl) dL_longShare_13 ⟨_, rfl, h⟩
def wL_renderOrder (a1 : Int32) (s0 : Mem) (Q : Int32 → Mem → Prop) : Prop := wX12_renderOrder a1 s0 (fun (r : Int32) τ => Q 0 (wrL τ r.toInt64)) (fun E τ => (E = "java/util/NoSuchElementException" ∧ Q 1 τ))
set_option maxRecDepth 20000 in
theorem oL_renderOrder {l : Launch} {x : Ctx} (hl : l.stackTraces = false) (a1 : Int32) (s0 : Mem) (Q : Int32 → Mem → Prop) (h : wL_renderOrder a1 s0 Q) : MetH l x yL_renderOrder cL_renderOrder 4 [(0, 9, 12, 30)] 10 288 8 2120 [.ref (xad x 14 0), .int a1, .ref (xad x 17 0)] s0 (RI Q) := by
  refine MetH.of hl (by decide) (Nat.le_of_ble_eq_true rfl) [some (.ref (xad x 14 0)), some (.int a1), some (.ref (xad x 17 0)), none] rfl (fun K B hx _ => ?_)
  subst hx
  unfold wL_renderOrder at h
  refine g_aload_n (np := 1) B.1 dL_renderOrder_0 rfl rfl ?_
  refine g_iconst (v := 0) (np := 2) B.1 dL_renderOrder_1 (by decide) rfl ?_
  refine g_aload_n (np := 3) B.1 dL_renderOrder_2 rfl rfl ?_
  refine g_iload_n (np := 4) B.1 dL_renderOrder_3 rfl rfl ?_
  refine g_callX (np := 7) B (n := 1) (As := [.int a1]) (oX12_renderOrder B.1.tr a1 s0 _ _ h) b_1578 b_1575 b_1576 b_1577 b_70 (by decide +kernel) rfl (Nat.le_of_ble_eq_true rfl) (Nat.le_of_ble_eq_true rfl) (Nat.le_of_ble_eq_true rfl) dL_renderOrder_4 (Nat.le_of_ble_eq_true rfl) (Nat.le_of_ble_eq_true rfl) rfl (fun r s2 hr => ?_) (fun E s2 he => ?_)
  · obtain ⟨i, rfl, h⟩ := hr
    show Go K _ _ s2 7 [some (.ref (xad (fX K) 14 0)), some (.int a1), some (.ref (xad (fX K) 17 0)), none] (.int i :: .int 0 :: .ref (xad (fX K) 17 0) :: [])
    refine g_i2l (np := 8) B.1 dL_renderOrder_7 rfl ?_
    refine g_last (np := 9) B.1 dL_renderOrder_8 rfl ?_
    refine g_goto (tgt := 15) B.1 dL_renderOrder_9 (by decide) ?_
    refine g_iconst (v := 0) (np := 16) B.1 dL_renderOrder_15 (by decide) rfl ?_
    exact g_iretH B (Nat.le_of_ble_eq_true rfl) (Nat.le_of_ble_eq_true rfl) dL_renderOrder_16 ⟨_, rfl, h⟩
  · obtain ⟨rfl, h⟩ := he
    refine ⟨[], ⟨0, 9, 12, 30⟩, [], "java/util/NoSuchElementException", rfl, (fun z hz => absurd hz List.not_mem_nil), rfl, by decide, b_1301, t_1175, fun q => ?_⟩
    refine g_astore_n (np := 13) (lv' := [some (.ref (xad (fX K) 14 0)), some (.int a1), some (.ref (xad (fX K) 17 0)), some (.ref q)]) B.1 dL_renderOrder_12 (by decide) rfl rfl rfl ?_
    refine g_iconst (v := 1) (np := 14) B.1 dL_renderOrder_13 (by decide) rfl ?_
    exact g_iretH B (Nat.le_of_ble_eq_true rfl) (Nat.le_of_ble_eq_true rfl) dL_renderOrder_14 ⟨_, rfl, h⟩
def wL_outputAt (a1 : Int32) (s0 : Mem) (Q : Int32 → Mem → Prop) : Prop := wX12_outputAt a1 s0 (fun (r : Int32) τ => Q 0 (wrL τ r.toInt64)) (fun E τ => (E = "java/lang/IndexOutOfBoundsException" ∧ Q 1 τ))
set_option maxRecDepth 20000 in
theorem oL_outputAt {l : Launch} {x : Ctx} (hl : l.stackTraces = false) (a1 : Int32) (s0 : Mem) (Q : Int32 → Mem → Prop) (h : wL_outputAt a1 s0 Q) : MetH l x yL_outputAt cL_outputAt 4 [(0, 9, 12, 41)] 7 117 1 6 [.ref (xad x 14 0), .int a1, .ref (xad x 17 0)] s0 (RI Q) := by
  refine MetH.of hl (by decide) (Nat.le_of_ble_eq_true rfl) [some (.ref (xad x 14 0)), some (.int a1), some (.ref (xad x 17 0)), none] rfl (fun K B hx _ => ?_)
  subst hx
  unfold wL_outputAt at h
  refine g_aload_n (np := 1) B.1 dL_outputAt_0 rfl rfl ?_
  refine g_iconst (v := 0) (np := 2) B.1 dL_outputAt_1 (by decide) rfl ?_
  refine g_aload_n (np := 3) B.1 dL_outputAt_2 rfl rfl ?_
  refine g_iload_n (np := 4) B.1 dL_outputAt_3 rfl rfl ?_
  refine g_callX (np := 7) B (n := 1) (As := [.int a1]) (oX12_outputAt B.1.tr a1 s0 _ _ h) b_1587 b_1584 b_1585 b_1586 b_70 (by decide +kernel) rfl (Nat.le_of_ble_eq_true rfl) (Nat.le_of_ble_eq_true rfl) (Nat.le_of_ble_eq_true rfl) dL_outputAt_4 (Nat.le_of_ble_eq_true rfl) (Nat.le_of_ble_eq_true rfl) rfl (fun r s2 hr => ?_) (fun E s2 he => ?_)
  · obtain ⟨i, rfl, h⟩ := hr
    show Go K _ _ s2 7 [some (.ref (xad (fX K) 14 0)), some (.int a1), some (.ref (xad (fX K) 17 0)), none] (.int i :: .int 0 :: .ref (xad (fX K) 17 0) :: [])
    refine g_i2l (np := 8) B.1 dL_outputAt_7 rfl ?_
    refine g_last (np := 9) B.1 dL_outputAt_8 rfl ?_
    refine g_goto (tgt := 15) B.1 dL_outputAt_9 (by decide) ?_
    refine g_iconst (v := 0) (np := 16) B.1 dL_outputAt_15 (by decide) rfl ?_
    exact g_iretH B (Nat.le_of_ble_eq_true rfl) (Nat.le_of_ble_eq_true rfl) dL_outputAt_16 ⟨_, rfl, h⟩
  · obtain ⟨rfl, h⟩ := he
    refine ⟨[], ⟨0, 9, 12, 41⟩, [], "java/lang/IndexOutOfBoundsException", rfl, (fun z hz => absurd hz List.not_mem_nil), rfl, by decide, b_1329, t_1191, fun q => ?_⟩
    refine g_astore_n (np := 13) (lv' := [some (.ref (xad (fX K) 14 0)), some (.int a1), some (.ref (xad (fX K) 17 0)), some (.ref q)]) B.1 dL_outputAt_12 (by decide) rfl rfl rfl ?_
    refine g_iconst (v := 1) (np := 14) B.1 dL_outputAt_13 (by decide) rfl ?_
    exact g_iretH B (Nat.le_of_ble_eq_true rfl) (Nat.le_of_ble_eq_true rfl) dL_outputAt_14 ⟨_, rfl, h⟩
def wL_type (a1 : Int32) (s0 : Mem) (Q : Int32 → Mem → Prop) : Prop := wX12_type a1 s0 (fun (r : Int32) τ => Q 0 (wrL τ r.toInt64)) (fun E τ => (E = "java/lang/IllegalArgumentException" ∧ Q 1 τ) ∨ (E = "java/lang/IllegalStateException" ∧ Q 2 τ))
set_option maxRecDepth 20000 in
theorem oL_type {l : Launch} {x : Ctx} (hl : l.stackTraces = false) (a1 : Int32) (s0 : Mem) (Q : Int32 → Mem → Prop) (h : wL_type a1 s0 Q) : MetH l x yL_type cL_type 4 [(0, 9, 12, 13), (0, 9, 15, 15)] 11 306 1 302 [.ref (xad x 14 0), .int a1, .ref (xad x 17 0)] s0 (RI Q) := by
  refine MetH.of hl (by decide) (Nat.le_of_ble_eq_true rfl) [some (.ref (xad x 14 0)), some (.int a1), some (.ref (xad x 17 0)), none] rfl (fun K B hx _ => ?_)
  subst hx
  unfold wL_type at h
  refine g_aload_n (np := 1) B.1 dL_type_0 rfl rfl ?_
  refine g_iconst (v := 0) (np := 2) B.1 dL_type_1 (by decide) rfl ?_
  refine g_aload_n (np := 3) B.1 dL_type_2 rfl rfl ?_
  refine g_iload_n (np := 4) B.1 dL_type_3 rfl rfl ?_
  refine g_callX (np := 7) B (n := 1) (As := [.int a1]) (oX12_type B.1.tr a1 s0 _ _ h) b_1605 b_1602 b_1603 b_1604 b_70 (by decide +kernel) rfl (Nat.le_of_ble_eq_true rfl) (Nat.le_of_ble_eq_true rfl) (Nat.le_of_ble_eq_true rfl) dL_type_4 (Nat.le_of_ble_eq_true rfl) (Nat.le_of_ble_eq_true rfl) rfl (fun r s2 hr => ?_) (fun E s2 he => ?_)
  · obtain ⟨i, rfl, h⟩ := hr
    show Go K _ _ s2 7 [some (.ref (xad (fX K) 14 0)), some (.int a1), some (.ref (xad (fX K) 17 0)), none] (.int i :: .int 0 :: .ref (xad (fX K) 17 0) :: [])
    refine g_i2l (np := 8) B.1 dL_type_7 rfl ?_
    refine g_last (np := 9) B.1 dL_type_8 rfl ?_
    refine g_goto (tgt := 18) B.1 dL_type_9 (by decide) ?_
    refine g_iconst (v := 0) (np := 19) B.1 dL_type_18 (by decide) rfl ?_
    exact g_iretH B (Nat.le_of_ble_eq_true rfl) (Nat.le_of_ble_eq_true rfl) dL_type_19 ⟨_, rfl, h⟩
  · rcases he with ⟨rfl, h⟩ | ⟨rfl, h⟩
    · refine ⟨[], ⟨0, 9, 12, 13⟩, [⟨0, 9, 15, 15⟩], "java/lang/IllegalArgumentException", rfl, (fun z hz => absurd hz List.not_mem_nil), rfl, by decide, b_1031, t_830, fun q => ?_⟩
      refine g_astore_n (np := 13) (lv' := [some (.ref (xad (fX K) 14 0)), some (.int a1), some (.ref (xad (fX K) 17 0)), some (.ref q)]) B.1 dL_type_12 (by decide) rfl rfl rfl ?_
      refine g_iconst (v := 1) (np := 14) B.1 dL_type_13 (by decide) rfl ?_
      exact g_iretH B (Nat.le_of_ble_eq_true rfl) (Nat.le_of_ble_eq_true rfl) dL_type_14 ⟨_, rfl, h⟩
    · refine ⟨[⟨0, 9, 12, 13⟩], ⟨0, 9, 15, 15⟩, [], "java/lang/IllegalStateException", rfl, (fun z hz => by
          rcases List.mem_cons.mp hz with e | hz
          · subst e
            exact Or.inr ⟨by decide, "java/lang/IllegalArgumentException", b_1031, B.2.2.2.2.2 "java/lang/IllegalStateException" (by decide) "java/lang/IllegalArgumentException" (by decide) (by decide)⟩
          exact absurd hz List.not_mem_nil), rfl, by decide, b_1032, t_1143, fun q => ?_⟩
      refine g_astore_n (np := 16) (lv' := [some (.ref (xad (fX K) 14 0)), some (.int a1), some (.ref (xad (fX K) 17 0)), some (.ref q)]) B.1 dL_type_15 (by decide) rfl rfl rfl ?_
      refine g_iconst (v := 2) (np := 17) B.1 dL_type_16 (by decide) rfl ?_
      exact g_iretH B (Nat.le_of_ble_eq_true rfl) (Nat.le_of_ble_eq_true rfl) dL_type_17 ⟨_, rfl, h⟩
def wL_runScript  (s0 : Mem) (Q : Int32 → Mem → Prop) : Prop := wX12_runScript  s0 (fun (r : Int32) τ => Q 0 (wrL τ r.toInt64)) (fun E τ => (E = "java/lang/IllegalArgumentException" ∧ Q 1 τ) ∨ (E = "java/lang/IllegalStateException" ∧ Q 2 τ))
set_option maxRecDepth 20000 in
theorem oL_runScript {l : Launch} {x : Ctx} (hl : l.stackTraces = false)  (s0 : Mem) (Q : Int32 → Mem → Prop) (h : wL_runScript  s0 Q) : MetH l x yL_runScript cL_runScript 3 [(0, 8, 11, 13), (0, 8, 14, 15)] 11 306 2 308 [.ref (xad x 14 0), .ref (xad x 17 0)] s0 (RI Q) := by
  refine MetH.of hl (by decide) (Nat.le_of_ble_eq_true rfl) [some (.ref (xad x 14 0)), some (.ref (xad x 17 0)), none] rfl (fun K B hx _ => ?_)
  subst hx
  unfold wL_runScript at h
  refine g_aload_n (np := 1) B.1 dL_runScript_0 rfl rfl ?_
  refine g_iconst (v := 0) (np := 2) B.1 dL_runScript_1 (by decide) rfl ?_
  refine g_aload_n (np := 3) B.1 dL_runScript_2 rfl rfl ?_
  refine g_callX (np := 6) B (n := 0) (As := []) (oX12_runScript B.1.tr  s0 _ _ h) b_1624 b_1621 b_1622 b_1623 b_70 (by decide +kernel) rfl (Nat.le_of_ble_eq_true rfl) (Nat.le_of_ble_eq_true rfl) (Nat.le_of_ble_eq_true rfl) dL_runScript_3 (Nat.le_of_ble_eq_true rfl) (Nat.le_of_ble_eq_true rfl) rfl (fun r s2 hr => ?_) (fun E s2 he => ?_)
  · obtain ⟨i, rfl, h⟩ := hr
    show Go K _ _ s2 6 [some (.ref (xad (fX K) 14 0)), some (.ref (xad (fX K) 17 0)), none] (.int i :: .int 0 :: .ref (xad (fX K) 17 0) :: [])
    refine g_i2l (np := 7) B.1 dL_runScript_6 rfl ?_
    refine g_last (np := 8) B.1 dL_runScript_7 rfl ?_
    refine g_goto (tgt := 17) B.1 dL_runScript_8 (by decide) ?_
    refine g_iconst (v := 0) (np := 18) B.1 dL_runScript_17 (by decide) rfl ?_
    exact g_iretH B (Nat.le_of_ble_eq_true rfl) (Nat.le_of_ble_eq_true rfl) dL_runScript_18 ⟨_, rfl, h⟩
  · rcases he with ⟨rfl, h⟩ | ⟨rfl, h⟩
    · refine ⟨[], ⟨0, 8, 11, 13⟩, [⟨0, 8, 14, 15⟩], "java/lang/IllegalArgumentException", rfl, (fun z hz => absurd hz List.not_mem_nil), rfl, by decide, b_1031, t_830, fun q => ?_⟩
      refine g_astore_n (np := 12) (lv' := [some (.ref (xad (fX K) 14 0)), some (.ref (xad (fX K) 17 0)), some (.ref q)]) B.1 dL_runScript_11 (by decide) rfl rfl rfl ?_
      refine g_iconst (v := 1) (np := 13) B.1 dL_runScript_12 (by decide) rfl ?_
      exact g_iretH B (Nat.le_of_ble_eq_true rfl) (Nat.le_of_ble_eq_true rfl) dL_runScript_13 ⟨_, rfl, h⟩
    · refine ⟨[⟨0, 8, 11, 13⟩], ⟨0, 8, 14, 15⟩, [], "java/lang/IllegalStateException", rfl, (fun z hz => by
          rcases List.mem_cons.mp hz with e | hz
          · subst e
            exact Or.inr ⟨by decide, "java/lang/IllegalArgumentException", b_1031, B.2.2.2.2.2 "java/lang/IllegalStateException" (by decide) "java/lang/IllegalArgumentException" (by decide) (by decide)⟩
          exact absurd hz List.not_mem_nil), rfl, by decide, b_1032, t_1143, fun q => ?_⟩
      refine g_astore_n (np := 15) (lv' := [some (.ref (xad (fX K) 14 0)), some (.ref (xad (fX K) 17 0)), some (.ref q)]) B.1 dL_runScript_14 (by decide) rfl rfl rfl ?_
      refine g_iconst (v := 2) (np := 16) B.1 dL_runScript_15 (by decide) rfl ?_
      exact g_iretH B (Nat.le_of_ble_eq_true rfl) (Nat.le_of_ble_eq_true rfl) dL_runScript_16 ⟨_, rfl, h⟩
def wL_errorPosition  (s0 : Mem) (Q : Int32 → Mem → Prop) : Prop := wX12_errorPosition  s0 (fun (r : Int32) τ => Q 0 (wrL τ r.toInt64)) (fun E τ => (E = "java/util/NoSuchElementException" ∧ Q 1 τ))
set_option maxRecDepth 20000 in
theorem oL_errorPosition {l : Launch} {x : Ctx} (hl : l.stackTraces = false)  (s0 : Mem) (Q : Int32 → Mem → Prop) (h : wL_errorPosition  s0 Q) : MetH l x yL_errorPosition cL_errorPosition 3 [(0, 8, 11, 30)] 7 102 1 6 [.ref (xad x 14 0), .ref (xad x 17 0)] s0 (RI Q) := by
  refine MetH.of hl (by decide) (Nat.le_of_ble_eq_true rfl) [some (.ref (xad x 14 0)), some (.ref (xad x 17 0)), none] rfl (fun K B hx _ => ?_)
  subst hx
  unfold wL_errorPosition at h
  refine g_aload_n (np := 1) B.1 dL_errorPosition_0 rfl rfl ?_
  refine g_iconst (v := 0) (np := 2) B.1 dL_errorPosition_1 (by decide) rfl ?_
  refine g_aload_n (np := 3) B.1 dL_errorPosition_2 rfl rfl ?_
  refine g_callX (np := 6) B (n := 0) (As := []) (oX12_errorPosition B.1.tr  s0 _ _ h) b_1706 b_1703 b_1704 b_1705 b_70 (by decide +kernel) rfl (Nat.le_of_ble_eq_true rfl) (Nat.le_of_ble_eq_true rfl) (Nat.le_of_ble_eq_true rfl) dL_errorPosition_3 (Nat.le_of_ble_eq_true rfl) (Nat.le_of_ble_eq_true rfl) rfl (fun r s2 hr => ?_) (fun E s2 he => ?_)
  · obtain ⟨i, rfl, h⟩ := hr
    show Go K _ _ s2 6 [some (.ref (xad (fX K) 14 0)), some (.ref (xad (fX K) 17 0)), none] (.int i :: .int 0 :: .ref (xad (fX K) 17 0) :: [])
    refine g_i2l (np := 7) B.1 dL_errorPosition_6 rfl ?_
    refine g_last (np := 8) B.1 dL_errorPosition_7 rfl ?_
    refine g_goto (tgt := 14) B.1 dL_errorPosition_8 (by decide) ?_
    refine g_iconst (v := 0) (np := 15) B.1 dL_errorPosition_14 (by decide) rfl ?_
    exact g_iretH B (Nat.le_of_ble_eq_true rfl) (Nat.le_of_ble_eq_true rfl) dL_errorPosition_15 ⟨_, rfl, h⟩
  · obtain ⟨rfl, h⟩ := he
    refine ⟨[], ⟨0, 8, 11, 30⟩, [], "java/util/NoSuchElementException", rfl, (fun z hz => absurd hz List.not_mem_nil), rfl, by decide, b_1301, t_1175, fun q => ?_⟩
    refine g_astore_n (np := 12) (lv' := [some (.ref (xad (fX K) 14 0)), some (.ref (xad (fX K) 17 0)), some (.ref q)]) B.1 dL_errorPosition_11 (by decide) rfl rfl rfl ?_
    refine g_iconst (v := 1) (np := 13) B.1 dL_errorPosition_12 (by decide) rfl ?_
    exact g_iretH B (Nat.le_of_ble_eq_true rfl) (Nat.le_of_ble_eq_true rfl) dL_errorPosition_13 ⟨_, rfl, h⟩
def wL_failedCommand  (s0 : Mem) (Q : Int32 → Mem → Prop) : Prop := wX12_failedCommand  s0 (fun (r : Int32) τ => Q 0 (wrL τ r.toInt64)) (fun E τ => (E = "java/util/NoSuchElementException" ∧ Q 1 τ))
set_option maxRecDepth 20000 in
theorem oL_failedCommand {l : Launch} {x : Ctx} (hl : l.stackTraces = false)  (s0 : Mem) (Q : Int32 → Mem → Prop) (h : wL_failedCommand  s0 Q) : MetH l x yL_failedCommand cL_failedCommand 3 [(0, 8, 11, 30)] 7 102 1 6 [.ref (xad x 14 0), .ref (xad x 17 0)] s0 (RI Q) := by
  refine MetH.of hl (by decide) (Nat.le_of_ble_eq_true rfl) [some (.ref (xad x 14 0)), some (.ref (xad x 17 0)), none] rfl (fun K B hx _ => ?_)
  subst hx
  unfold wL_failedCommand at h
  refine g_aload_n (np := 1) B.1 dL_failedCommand_0 rfl rfl ?_
  refine g_iconst (v := 0) (np := 2) B.1 dL_failedCommand_1 (by decide) rfl ?_
  refine g_aload_n (np := 3) B.1 dL_failedCommand_2 rfl rfl ?_
  refine g_callX (np := 6) B (n := 0) (As := []) (oX12_failedCommand B.1.tr  s0 _ _ h) b_1714 b_1711 b_1712 b_1713 b_70 (by decide +kernel) rfl (Nat.le_of_ble_eq_true rfl) (Nat.le_of_ble_eq_true rfl) (Nat.le_of_ble_eq_true rfl) dL_failedCommand_3 (Nat.le_of_ble_eq_true rfl) (Nat.le_of_ble_eq_true rfl) rfl (fun r s2 hr => ?_) (fun E s2 he => ?_)
  · obtain ⟨i, rfl, h⟩ := hr
    show Go K _ _ s2 6 [some (.ref (xad (fX K) 14 0)), some (.ref (xad (fX K) 17 0)), none] (.int i :: .int 0 :: .ref (xad (fX K) 17 0) :: [])
    refine g_i2l (np := 7) B.1 dL_failedCommand_6 rfl ?_
    refine g_last (np := 8) B.1 dL_failedCommand_7 rfl ?_
    refine g_goto (tgt := 14) B.1 dL_failedCommand_8 (by decide) ?_
    refine g_iconst (v := 0) (np := 15) B.1 dL_failedCommand_14 (by decide) rfl ?_
    exact g_iretH B (Nat.le_of_ble_eq_true rfl) (Nat.le_of_ble_eq_true rfl) dL_failedCommand_15 ⟨_, rfl, h⟩
  · obtain ⟨rfl, h⟩ := he
    refine ⟨[], ⟨0, 8, 11, 30⟩, [], "java/util/NoSuchElementException", rfl, (fun z hz => absurd hz List.not_mem_nil), rfl, by decide, b_1301, t_1175, fun q => ?_⟩
    refine g_astore_n (np := 12) (lv' := [some (.ref (xad (fX K) 14 0)), some (.ref (xad (fX K) 17 0)), some (.ref q)]) B.1 dL_failedCommand_11 (by decide) rfl rfl rfl ?_
    refine g_iconst (v := 1) (np := 13) B.1 dL_failedCommand_12 (by decide) rfl ?_
    exact g_iretH B (Nat.le_of_ble_eq_true rfl) (Nat.le_of_ble_eq_true rfl) dL_failedCommand_13 ⟨_, rfl, h⟩
def wL_undo  (s0 : Mem) (Q : Int32 → Mem → Prop) : Prop := wX12_undo  s0 (fun (r : Int32) τ => Q 0 (wrL τ r.toInt64)) (fun E τ => (E = "java/util/NoSuchElementException" ∧ Q 1 τ))
set_option maxRecDepth 20000 in
theorem oL_undo {l : Launch} {x : Ctx} (hl : l.stackTraces = false)  (s0 : Mem) (Q : Int32 → Mem → Prop) (h : wL_undo  s0 Q) : MetH l x yL_undo cL_undo 3 [(0, 8, 11, 30)] 7 165 1 6 [.ref (xad x 14 0), .ref (xad x 17 0)] s0 (RI Q) := by
  refine MetH.of hl (by decide) (Nat.le_of_ble_eq_true rfl) [some (.ref (xad x 14 0)), some (.ref (xad x 17 0)), none] rfl (fun K B hx _ => ?_)
  subst hx
  unfold wL_undo at h
  refine g_aload_n (np := 1) B.1 dL_undo_0 rfl rfl ?_
  refine g_iconst (v := 0) (np := 2) B.1 dL_undo_1 (by decide) rfl ?_
  refine g_aload_n (np := 3) B.1 dL_undo_2 rfl rfl ?_
  refine g_callX (np := 6) B (n := 0) (As := []) (oX12_undo B.1.tr  s0 _ _ h) b_1722 b_1719 b_1720 b_1721 b_70 (by decide +kernel) rfl (Nat.le_of_ble_eq_true rfl) (Nat.le_of_ble_eq_true rfl) (Nat.le_of_ble_eq_true rfl) dL_undo_3 (Nat.le_of_ble_eq_true rfl) (Nat.le_of_ble_eq_true rfl) rfl (fun r s2 hr => ?_) (fun E s2 he => ?_)
  · obtain ⟨i, rfl, h⟩ := hr
    show Go K _ _ s2 6 [some (.ref (xad (fX K) 14 0)), some (.ref (xad (fX K) 17 0)), none] (.int i :: .int 0 :: .ref (xad (fX K) 17 0) :: [])
    refine g_i2l (np := 7) B.1 dL_undo_6 rfl ?_
    refine g_last (np := 8) B.1 dL_undo_7 rfl ?_
    refine g_goto (tgt := 14) B.1 dL_undo_8 (by decide) ?_
    refine g_iconst (v := 0) (np := 15) B.1 dL_undo_14 (by decide) rfl ?_
    exact g_iretH B (Nat.le_of_ble_eq_true rfl) (Nat.le_of_ble_eq_true rfl) dL_undo_15 ⟨_, rfl, h⟩
  · obtain ⟨rfl, h⟩ := he
    refine ⟨[], ⟨0, 8, 11, 30⟩, [], "java/util/NoSuchElementException", rfl, (fun z hz => absurd hz List.not_mem_nil), rfl, by decide, b_1301, t_1175, fun q => ?_⟩
    refine g_astore_n (np := 12) (lv' := [some (.ref (xad (fX K) 14 0)), some (.ref (xad (fX K) 17 0)), some (.ref q)]) B.1 dL_undo_11 (by decide) rfl rfl rfl ?_
    refine g_iconst (v := 1) (np := 13) B.1 dL_undo_12 (by decide) rfl ?_
    exact g_iretH B (Nat.le_of_ble_eq_true rfl) (Nat.le_of_ble_eq_true rfl) dL_undo_13 ⟨_, rfl, h⟩
def wL_restore  (s0 : Mem) (Q : Int32 → Mem → Prop) : Prop := wX12_restore  s0 (fun (r : Int32) τ => Q 0 (wrL τ r.toInt64)) (fun E τ => (E = "java/lang/IllegalStateException" ∧ Q 1 τ))
set_option maxRecDepth 20000 in
theorem oL_restore {l : Launch} {x : Ctx} (hl : l.stackTraces = false)  (s0 : Mem) (Q : Int32 → Mem → Prop) (h : wL_restore  s0 Q) : MetH l x yL_restore cL_restore 3 [(0, 8, 11, 15)] 7 143 1 6 [.ref (xad x 14 0), .ref (xad x 17 0)] s0 (RI Q) := by
  refine MetH.of hl (by decide) (Nat.le_of_ble_eq_true rfl) [some (.ref (xad x 14 0)), some (.ref (xad x 17 0)), none] rfl (fun K B hx _ => ?_)
  subst hx
  unfold wL_restore at h
  refine g_aload_n (np := 1) B.1 dL_restore_0 rfl rfl ?_
  refine g_iconst (v := 0) (np := 2) B.1 dL_restore_1 (by decide) rfl ?_
  refine g_aload_n (np := 3) B.1 dL_restore_2 rfl rfl ?_
  refine g_callX (np := 6) B (n := 0) (As := []) (oX12_restore B.1.tr  s0 _ _ h) b_1738 b_1735 b_1736 b_1737 b_70 (by decide +kernel) rfl (Nat.le_of_ble_eq_true rfl) (Nat.le_of_ble_eq_true rfl) (Nat.le_of_ble_eq_true rfl) dL_restore_3 (Nat.le_of_ble_eq_true rfl) (Nat.le_of_ble_eq_true rfl) rfl (fun r s2 hr => ?_) (fun E s2 he => ?_)
  · obtain ⟨i, rfl, h⟩ := hr
    show Go K _ _ s2 6 [some (.ref (xad (fX K) 14 0)), some (.ref (xad (fX K) 17 0)), none] (.int i :: .int 0 :: .ref (xad (fX K) 17 0) :: [])
    refine g_i2l (np := 7) B.1 dL_restore_6 rfl ?_
    refine g_last (np := 8) B.1 dL_restore_7 rfl ?_
    refine g_goto (tgt := 14) B.1 dL_restore_8 (by decide) ?_
    refine g_iconst (v := 0) (np := 15) B.1 dL_restore_14 (by decide) rfl ?_
    exact g_iretH B (Nat.le_of_ble_eq_true rfl) (Nat.le_of_ble_eq_true rfl) dL_restore_15 ⟨_, rfl, h⟩
  · obtain ⟨rfl, h⟩ := he
    refine ⟨[], ⟨0, 8, 11, 15⟩, [], "java/lang/IllegalStateException", rfl, (fun z hz => absurd hz List.not_mem_nil), rfl, by decide, b_1032, t_1143, fun q => ?_⟩
    refine g_astore_n (np := 12) (lv' := [some (.ref (xad (fX K) 14 0)), some (.ref (xad (fX K) 17 0)), some (.ref q)]) B.1 dL_restore_11 (by decide) rfl rfl rfl ?_
    refine g_iconst (v := 1) (np := 13) B.1 dL_restore_12 (by decide) rfl ?_
    exact g_iretH B (Nat.le_of_ble_eq_true rfl) (Nat.le_of_ble_eq_true rfl) dL_restore_13 ⟨_, rfl, h⟩
