/-! laid by wip/hand/lw.py: cases of the law -/
theorem te_368_1398 : (pT M_368).find? (fun e => e.1 == 1398) = some (1398, .aload_n 1, 0, 0) := (sk_69 1398 rfl).trans rfl
theorem te_368_1399 : (pT M_368).find? (fun e => e.1 == 1399) = some (1399, .aload_n 0, 0, 0) := (sk_69 1399 rfl).trans rfl
theorem te_368_1400 : (pT M_368).find? (fun e => e.1 == 1400) = some (1400, .iload 4, 0, 0) := (sk_69 1400 rfl).trans rfl
theorem te_368_1402 : (pT M_368).find? (fun e => e.1 == 1402) = some (1402, .iconst 1, 0, 0) := (sk_69 1402 rfl).trans rfl
theorem te_368_1403 : (pT M_368).find? (fun e => e.1 == 1403) = some (1403, .iadd, 0, 0) := (sk_69 1403 rfl).trans rfl
theorem te_368_1404 : (pT M_368).find? (fun e => e.1 == 1404) = some (1404, .iaload, 0, 0) := (sk_70 1404 rfl).trans rfl
theorem te_368_1405 : (pT M_368).find? (fun e => e.1 == 1405) = some (1405, .aload_n 0, 0, 0) := (sk_70 1405 rfl).trans rfl
theorem te_368_1406 : (pT M_368).find? (fun e => e.1 == 1406) = some (1406, .iload 4, 0, 0) := (sk_70 1406 rfl).trans rfl
theorem te_368_1408 : (pT M_368).find? (fun e => e.1 == 1408) = some (1408, .iconst 2, 0, 0) := (sk_70 1408 rfl).trans rfl
theorem te_368_1409 : (pT M_368).find? (fun e => e.1 == 1409) = some (1409, .iadd, 0, 0) := (sk_70 1409 rfl).trans rfl
theorem te_368_1410 : (pT M_368).find? (fun e => e.1 == 1410) = some (1410, .iaload, 0, 0) := (sk_70 1410 rfl).trans rfl
theorem te_368_1411 : (pT M_368).find? (fun e => e.1 == 1411) = some (1411, .aload_n 0, 0, 0) := (sk_70 1411 rfl).trans rfl
theorem te_368_1412 : (pT M_368).find? (fun e => e.1 == 1412) = some (1412, .iload 4, 0, 0) := (sk_70 1412 rfl).trans rfl
theorem te_368_1414 : (pT M_368).find? (fun e => e.1 == 1414) = some (1414, .iconst 3, 0, 0) := (sk_70 1414 rfl).trans rfl
theorem te_368_1415 : (pT M_368).find? (fun e => e.1 == 1415) = some (1415, .iadd, 0, 0) := (sk_70 1415 rfl).trans rfl
theorem te_368_1416 : (pT M_368).find? (fun e => e.1 == 1416) = some (1416, .iaload, 0, 0) := (sk_70 1416 rfl).trans rfl
theorem te_368_1417 : (pT M_368).find? (fun e => e.1 == 1417) = some (1417, .aload_n 3, 0, 0) := (sk_70 1417 rfl).trans rfl
theorem te_368_1418 : (pT M_368).find? (fun e => e.1 == 1418) = some (1418, .invokestatic 270, 168, 8) := (sk_71 1418 rfl).trans rfl
theorem te_368_1421 : (pT M_368).find? (fun e => e.1 == 1421) = some (1421, .istore 5, 0, 0) := (sk_71 1421 rfl).trans rfl
theorem te_368_1423 : (pT M_368).find? (fun e => e.1 == 1423) = some (1423, .aload_n 2, 0, 0) := (sk_71 1423 rfl).trans rfl
theorem te_368_1424 : (pT M_368).find? (fun e => e.1 == 1424) = some (1424, .aload_n 0, 0, 0) := (sk_71 1424 rfl).trans rfl
theorem te_368_1425 : (pT M_368).find? (fun e => e.1 == 1425) = some (1425, .iload 4, 0, 0) := (sk_71 1425 rfl).trans rfl
theorem te_368_1427 : (pT M_368).find? (fun e => e.1 == 1427) = some (1427, .iconst 1, 0, 0) := (sk_71 1427 rfl).trans rfl
theorem te_368_1428 : (pT M_368).find? (fun e => e.1 == 1428) = some (1428, .iadd, 0, 0) := (sk_71 1428 rfl).trans rfl
theorem te_368_1429 : (pT M_368).find? (fun e => e.1 == 1429) = some (1429, .iaload, 0, 0) := (sk_71 1429 rfl).trans rfl
theorem te_368_1430 : (pT M_368).find? (fun e => e.1 == 1430) = some (1430, .aload_n 0, 0, 0) := (sk_71 1430 rfl).trans rfl
theorem te_368_1431 : (pT M_368).find? (fun e => e.1 == 1431) = some (1431, .iload 4, 0, 0) := (sk_71 1431 rfl).trans rfl
theorem te_368_1433 : (pT M_368).find? (fun e => e.1 == 1433) = some (1433, .iconst 2, 0, 0) := (sk_71 1433 rfl).trans rfl
theorem te_368_1434 : (pT M_368).find? (fun e => e.1 == 1434) = some (1434, .iadd, 0, 0) := (sk_71 1434 rfl).trans rfl
theorem te_368_1435 : (pT M_368).find? (fun e => e.1 == 1435) = some (1435, .iaload, 0, 0) := (sk_72 1435 rfl).trans rfl
theorem te_368_1436 : (pT M_368).find? (fun e => e.1 == 1436) = some (1436, .aload_n 0, 0, 0) := (sk_72 1436 rfl).trans rfl
theorem te_368_1437 : (pT M_368).find? (fun e => e.1 == 1437) = some (1437, .iload 4, 0, 0) := (sk_72 1437 rfl).trans rfl
theorem te_368_1439 : (pT M_368).find? (fun e => e.1 == 1439) = some (1439, .iconst 3, 0, 0) := (sk_72 1439 rfl).trans rfl
theorem te_368_1440 : (pT M_368).find? (fun e => e.1 == 1440) = some (1440, .iadd, 0, 0) := (sk_72 1440 rfl).trans rfl
theorem te_368_1441 : (pT M_368).find? (fun e => e.1 == 1441) = some (1441, .iaload, 0, 0) := (sk_72 1441 rfl).trans rfl
theorem te_368_1442 : (pT M_368).find? (fun e => e.1 == 1442) = some (1442, .invokevirtual 272, 327, 0) := (sk_72 1442 rfl).trans rfl
theorem te_368_1445 : (pT M_368).find? (fun e => e.1 == 1445) = some (1445, .istore 6, 0, 0) := (sk_72 1445 rfl).trans rfl
theorem te_368_1447 : (pT M_368).find? (fun e => e.1 == 1447) = some (1447, .goto 880, 0, 0) := (sk_72 1447 rfl).trans rfl
theorem te_368_1450 : (pT M_368).find? (fun e => e.1 == 1450) = some (1450, .aload_n 1, 0, 0) := (sk_72 1450 rfl).trans rfl
theorem te_368_1451 : (pT M_368).find? (fun e => e.1 == 1451) = some (1451, .aload_n 0, 0, 0) := (sk_72 1451 rfl).trans rfl
theorem te_368_1452 : (pT M_368).find? (fun e => e.1 == 1452) = some (1452, .iload 4, 0, 0) := (sk_72 1452 rfl).trans rfl
theorem te_368_1454 : (pT M_368).find? (fun e => e.1 == 1454) = some (1454, .iconst 1, 0, 0) := (sk_73 1454 rfl).trans rfl
theorem te_368_1455 : (pT M_368).find? (fun e => e.1 == 1455) = some (1455, .iadd, 0, 0) := (sk_73 1455 rfl).trans rfl
theorem te_368_1456 : (pT M_368).find? (fun e => e.1 == 1456) = some (1456, .iaload, 0, 0) := (sk_73 1456 rfl).trans rfl
theorem te_368_1457 : (pT M_368).find? (fun e => e.1 == 1457) = some (1457, .aload_n 0, 0, 0) := (sk_73 1457 rfl).trans rfl
theorem te_368_1458 : (pT M_368).find? (fun e => e.1 == 1458) = some (1458, .iload 4, 0, 0) := (sk_73 1458 rfl).trans rfl
theorem te_368_1460 : (pT M_368).find? (fun e => e.1 == 1460) = some (1460, .iconst 2, 0, 0) := (sk_73 1460 rfl).trans rfl
theorem te_368_1461 : (pT M_368).find? (fun e => e.1 == 1461) = some (1461, .iadd, 0, 0) := (sk_73 1461 rfl).trans rfl
theorem te_368_1462 : (pT M_368).find? (fun e => e.1 == 1462) = some (1462, .iaload, 0, 0) := (sk_73 1462 rfl).trans rfl
theorem te_368_1463 : (pT M_368).find? (fun e => e.1 == 1463) = some (1463, .aload_n 0, 0, 0) := (sk_73 1463 rfl).trans rfl
theorem te_368_1464 : (pT M_368).find? (fun e => e.1 == 1464) = some (1464, .iload 4, 0, 0) := (sk_73 1464 rfl).trans rfl
theorem te_368_1466 : (pT M_368).find? (fun e => e.1 == 1466) = some (1466, .iconst 3, 0, 0) := (sk_73 1466 rfl).trans rfl
theorem te_368_1467 : (pT M_368).find? (fun e => e.1 == 1467) = some (1467, .iadd, 0, 0) := (sk_73 1467 rfl).trans rfl
theorem te_368_1468 : (pT M_368).find? (fun e => e.1 == 1468) = some (1468, .iaload, 0, 0) := (sk_74 1468 rfl).trans rfl
theorem te_368_1469 : (pT M_368).find? (fun e => e.1 == 1469) = some (1469, .aload_n 0, 0, 0) := (sk_74 1469 rfl).trans rfl
theorem te_368_1470 : (pT M_368).find? (fun e => e.1 == 1470) = some (1470, .iload 4, 0, 0) := (sk_74 1470 rfl).trans rfl
theorem te_368_1472 : (pT M_368).find? (fun e => e.1 == 1472) = some (1472, .iconst 4, 0, 0) := (sk_74 1472 rfl).trans rfl
theorem te_368_1473 : (pT M_368).find? (fun e => e.1 == 1473) = some (1473, .iadd, 0, 0) := (sk_74 1473 rfl).trans rfl
theorem te_368_1474 : (pT M_368).find? (fun e => e.1 == 1474) = some (1474, .iaload, 0, 0) := (sk_74 1474 rfl).trans rfl
theorem te_368_1475 : (pT M_368).find? (fun e => e.1 == 1475) = some (1475, .aload_n 3, 0, 0) := (sk_74 1475 rfl).trans rfl
theorem te_368_1476 : (pT M_368).find? (fun e => e.1 == 1476) = some (1476, .invokestatic 273, 170, 8) := (sk_74 1476 rfl).trans rfl
theorem te_368_1479 : (pT M_368).find? (fun e => e.1 == 1479) = some (1479, .istore 5, 0, 0) := (sk_74 1479 rfl).trans rfl
theorem te_368_1481 : (pT M_368).find? (fun e => e.1 == 1481) = some (1481, .aload_n 2, 0, 0) := (sk_74 1481 rfl).trans rfl
theorem te_368_1482 : (pT M_368).find? (fun e => e.1 == 1482) = some (1482, .aload_n 0, 0, 0) := (sk_74 1482 rfl).trans rfl
theorem te_368_1483 : (pT M_368).find? (fun e => e.1 == 1483) = some (1483, .iload 4, 0, 0) := (sk_74 1483 rfl).trans rfl
theorem te_368_1485 : (pT M_368).find? (fun e => e.1 == 1485) = some (1485, .iconst 1, 0, 0) := (sk_75 1485 rfl).trans rfl
theorem te_368_1486 : (pT M_368).find? (fun e => e.1 == 1486) = some (1486, .iadd, 0, 0) := (sk_75 1486 rfl).trans rfl
theorem te_368_1487 : (pT M_368).find? (fun e => e.1 == 1487) = some (1487, .iaload, 0, 0) := (sk_75 1487 rfl).trans rfl
theorem te_368_1488 : (pT M_368).find? (fun e => e.1 == 1488) = some (1488, .aload_n 0, 0, 0) := (sk_75 1488 rfl).trans rfl
theorem te_368_1489 : (pT M_368).find? (fun e => e.1 == 1489) = some (1489, .iload 4, 0, 0) := (sk_75 1489 rfl).trans rfl
theorem te_368_1491 : (pT M_368).find? (fun e => e.1 == 1491) = some (1491, .iconst 2, 0, 0) := (sk_75 1491 rfl).trans rfl
theorem te_368_1492 : (pT M_368).find? (fun e => e.1 == 1492) = some (1492, .iadd, 0, 0) := (sk_75 1492 rfl).trans rfl
theorem te_368_1493 : (pT M_368).find? (fun e => e.1 == 1493) = some (1493, .iaload, 0, 0) := (sk_75 1493 rfl).trans rfl
theorem te_368_1494 : (pT M_368).find? (fun e => e.1 == 1494) = some (1494, .aload_n 0, 0, 0) := (sk_75 1494 rfl).trans rfl
theorem te_368_1495 : (pT M_368).find? (fun e => e.1 == 1495) = some (1495, .iload 4, 0, 0) := (sk_75 1495 rfl).trans rfl
theorem te_368_1497 : (pT M_368).find? (fun e => e.1 == 1497) = some (1497, .iconst 3, 0, 0) := (sk_75 1497 rfl).trans rfl
theorem te_368_1498 : (pT M_368).find? (fun e => e.1 == 1498) = some (1498, .iadd, 0, 0) := (sk_75 1498 rfl).trans rfl
theorem te_368_1499 : (pT M_368).find? (fun e => e.1 == 1499) = some (1499, .iaload, 0, 0) := (sk_76 1499 rfl).trans rfl
theorem te_368_1500 : (pT M_368).find? (fun e => e.1 == 1500) = some (1500, .aload_n 0, 0, 0) := (sk_76 1500 rfl).trans rfl
theorem te_368_1501 : (pT M_368).find? (fun e => e.1 == 1501) = some (1501, .iload 4, 0, 0) := (sk_76 1501 rfl).trans rfl
theorem te_368_1503 : (pT M_368).find? (fun e => e.1 == 1503) = some (1503, .iconst 4, 0, 0) := (sk_76 1503 rfl).trans rfl
theorem te_368_1504 : (pT M_368).find? (fun e => e.1 == 1504) = some (1504, .iadd, 0, 0) := (sk_76 1504 rfl).trans rfl
theorem te_368_1505 : (pT M_368).find? (fun e => e.1 == 1505) = some (1505, .iaload, 0, 0) := (sk_76 1505 rfl).trans rfl
theorem te_368_1506 : (pT M_368).find? (fun e => e.1 == 1506) = some (1506, .invokevirtual 275, 331, 0) := (sk_76 1506 rfl).trans rfl
theorem te_368_1509 : (pT M_368).find? (fun e => e.1 == 1509) = some (1509, .istore 6, 0, 0) := (sk_76 1509 rfl).trans rfl
theorem te_368_1511 : (pT M_368).find? (fun e => e.1 == 1511) = some (1511, .goto 816, 0, 0) := (sk_76 1511 rfl).trans rfl
theorem te_368_1514 : (pT M_368).find? (fun e => e.1 == 1514) = some (1514, .aload_n 1, 0, 0) := (sk_76 1514 rfl).trans rfl
theorem te_368_1515 : (pT M_368).find? (fun e => e.1 == 1515) = some (1515, .aload_n 0, 0, 0) := (sk_76 1515 rfl).trans rfl
theorem te_368_1516 : (pT M_368).find? (fun e => e.1 == 1516) = some (1516, .iload 4, 0, 0) := (sk_76 1516 rfl).trans rfl
theorem te_368_1518 : (pT M_368).find? (fun e => e.1 == 1518) = some (1518, .iconst 1, 0, 0) := (sk_77 1518 rfl).trans rfl
theorem te_368_1519 : (pT M_368).find? (fun e => e.1 == 1519) = some (1519, .iadd, 0, 0) := (sk_77 1519 rfl).trans rfl
theorem te_368_1520 : (pT M_368).find? (fun e => e.1 == 1520) = some (1520, .iaload, 0, 0) := (sk_77 1520 rfl).trans rfl
theorem te_368_1521 : (pT M_368).find? (fun e => e.1 == 1521) = some (1521, .aload_n 0, 0, 0) := (sk_77 1521 rfl).trans rfl
theorem te_368_1522 : (pT M_368).find? (fun e => e.1 == 1522) = some (1522, .iload 4, 0, 0) := (sk_77 1522 rfl).trans rfl
theorem te_368_1524 : (pT M_368).find? (fun e => e.1 == 1524) = some (1524, .iconst 2, 0, 0) := (sk_77 1524 rfl).trans rfl
theorem te_368_1525 : (pT M_368).find? (fun e => e.1 == 1525) = some (1525, .iadd, 0, 0) := (sk_77 1525 rfl).trans rfl
theorem te_368_1526 : (pT M_368).find? (fun e => e.1 == 1526) = some (1526, .iaload, 0, 0) := (sk_77 1526 rfl).trans rfl
theorem te_368_1527 : (pT M_368).find? (fun e => e.1 == 1527) = some (1527, .ifCond .eq 7, 0, 0) := (sk_77 1527 rfl).trans rfl
theorem te_368_1530 : (pT M_368).find? (fun e => e.1 == 1530) = some (1530, .iconst 1, 0, 0) := (sk_77 1530 rfl).trans rfl
theorem te_368_1531 : (pT M_368).find? (fun e => e.1 == 1531) = some (1531, .goto 4, 0, 0) := (sk_77 1531 rfl).trans rfl
theorem te_368_1534 : (pT M_368).find? (fun e => e.1 == 1534) = some (1534, .iconst 0, 0, 0) := (sk_77 1534 rfl).trans rfl
theorem te_368_1535 : (pT M_368).find? (fun e => e.1 == 1535) = some (1535, .aload_n 3, 0, 0) := (sk_78 1535 rfl).trans rfl
theorem te_368_1536 : (pT M_368).find? (fun e => e.1 == 1536) = some (1536, .invokestatic 276, 172, 8) := (sk_78 1536 rfl).trans rfl
theorem te_368_1539 : (pT M_368).find? (fun e => e.1 == 1539) = some (1539, .istore 5, 0, 0) := (sk_78 1539 rfl).trans rfl
theorem te_368_1541 : (pT M_368).find? (fun e => e.1 == 1541) = some (1541, .aload_n 2, 0, 0) := (sk_78 1541 rfl).trans rfl
theorem te_368_1542 : (pT M_368).find? (fun e => e.1 == 1542) = some (1542, .aload_n 0, 0, 0) := (sk_78 1542 rfl).trans rfl
theorem te_368_1543 : (pT M_368).find? (fun e => e.1 == 1543) = some (1543, .iload 4, 0, 0) := (sk_78 1543 rfl).trans rfl
theorem te_368_1545 : (pT M_368).find? (fun e => e.1 == 1545) = some (1545, .iconst 1, 0, 0) := (sk_78 1545 rfl).trans rfl
theorem te_368_1546 : (pT M_368).find? (fun e => e.1 == 1546) = some (1546, .iadd, 0, 0) := (sk_78 1546 rfl).trans rfl
theorem te_368_1547 : (pT M_368).find? (fun e => e.1 == 1547) = some (1547, .iaload, 0, 0) := (sk_78 1547 rfl).trans rfl
theorem te_368_1548 : (pT M_368).find? (fun e => e.1 == 1548) = some (1548, .aload_n 0, 0, 0) := (sk_78 1548 rfl).trans rfl
theorem te_368_1549 : (pT M_368).find? (fun e => e.1 == 1549) = some (1549, .iload 4, 0, 0) := (sk_78 1549 rfl).trans rfl
theorem te_368_1551 : (pT M_368).find? (fun e => e.1 == 1551) = some (1551, .iconst 2, 0, 0) := (sk_78 1551 rfl).trans rfl
theorem te_368_1552 : (pT M_368).find? (fun e => e.1 == 1552) = some (1552, .iadd, 0, 0) := (sk_79 1552 rfl).trans rfl
theorem te_368_1553 : (pT M_368).find? (fun e => e.1 == 1553) = some (1553, .iaload, 0, 0) := (sk_79 1553 rfl).trans rfl
theorem te_368_1554 : (pT M_368).find? (fun e => e.1 == 1554) = some (1554, .ifCond .eq 7, 0, 0) := (sk_79 1554 rfl).trans rfl
theorem te_368_1557 : (pT M_368).find? (fun e => e.1 == 1557) = some (1557, .iconst 1, 0, 0) := (sk_79 1557 rfl).trans rfl
theorem te_368_1558 : (pT M_368).find? (fun e => e.1 == 1558) = some (1558, .goto 4, 0, 0) := (sk_79 1558 rfl).trans rfl
theorem te_368_1561 : (pT M_368).find? (fun e => e.1 == 1561) = some (1561, .iconst 0, 0, 0) := (sk_79 1561 rfl).trans rfl
theorem te_368_1562 : (pT M_368).find? (fun e => e.1 == 1562) = some (1562, .invokevirtual 279, 332, 0) := (sk_79 1562 rfl).trans rfl
theorem te_368_1565 : (pT M_368).find? (fun e => e.1 == 1565) = some (1565, .istore 6, 0, 0) := (sk_79 1565 rfl).trans rfl
theorem te_368_1567 : (pT M_368).find? (fun e => e.1 == 1567) = some (1567, .goto 760, 0, 0) := (sk_79 1567 rfl).trans rfl
theorem te_368_1570 : (pT M_368).find? (fun e => e.1 == 1570) = some (1570, .aload_n 1, 0, 0) := (sk_79 1570 rfl).trans rfl
theorem te_368_1571 : (pT M_368).find? (fun e => e.1 == 1571) = some (1571, .aload_n 0, 0, 0) := (sk_79 1571 rfl).trans rfl
theorem te_368_1572 : (pT M_368).find? (fun e => e.1 == 1572) = some (1572, .iload 4, 0, 0) := (sk_79 1572 rfl).trans rfl
theorem te_368_1574 : (pT M_368).find? (fun e => e.1 == 1574) = some (1574, .iconst 1, 0, 0) := (sk_80 1574 rfl).trans rfl
theorem te_368_1575 : (pT M_368).find? (fun e => e.1 == 1575) = some (1575, .iadd, 0, 0) := (sk_80 1575 rfl).trans rfl
theorem te_368_1576 : (pT M_368).find? (fun e => e.1 == 1576) = some (1576, .iaload, 0, 0) := (sk_80 1576 rfl).trans rfl
theorem te_368_1577 : (pT M_368).find? (fun e => e.1 == 1577) = some (1577, .aload_n 0, 0, 0) := (sk_80 1577 rfl).trans rfl
theorem te_368_1578 : (pT M_368).find? (fun e => e.1 == 1578) = some (1578, .iload 4, 0, 0) := (sk_80 1578 rfl).trans rfl
theorem te_368_1580 : (pT M_368).find? (fun e => e.1 == 1580) = some (1580, .iconst 2, 0, 0) := (sk_80 1580 rfl).trans rfl
theorem te_368_1581 : (pT M_368).find? (fun e => e.1 == 1581) = some (1581, .iadd, 0, 0) := (sk_80 1581 rfl).trans rfl
theorem te_368_1582 : (pT M_368).find? (fun e => e.1 == 1582) = some (1582, .iaload, 0, 0) := (sk_80 1582 rfl).trans rfl
theorem te_368_1583 : (pT M_368).find? (fun e => e.1 == 1583) = some (1583, .aload_n 0, 0, 0) := (sk_80 1583 rfl).trans rfl
theorem te_368_1584 : (pT M_368).find? (fun e => e.1 == 1584) = some (1584, .iload 4, 0, 0) := (sk_80 1584 rfl).trans rfl
theorem te_368_1586 : (pT M_368).find? (fun e => e.1 == 1586) = some (1586, .iconst 3, 0, 0) := (sk_80 1586 rfl).trans rfl
theorem te_368_1587 : (pT M_368).find? (fun e => e.1 == 1587) = some (1587, .iadd, 0, 0) := (sk_80 1587 rfl).trans rfl
theorem te_368_1588 : (pT M_368).find? (fun e => e.1 == 1588) = some (1588, .iaload, 0, 0) := (sk_81 1588 rfl).trans rfl
theorem te_368_1589 : (pT M_368).find? (fun e => e.1 == 1589) = some (1589, .ifCond .eq 7, 0, 0) := (sk_81 1589 rfl).trans rfl
theorem te_368_1592 : (pT M_368).find? (fun e => e.1 == 1592) = some (1592, .iconst 1, 0, 0) := (sk_81 1592 rfl).trans rfl
theorem te_368_1593 : (pT M_368).find? (fun e => e.1 == 1593) = some (1593, .goto 4, 0, 0) := (sk_81 1593 rfl).trans rfl
theorem te_368_1596 : (pT M_368).find? (fun e => e.1 == 1596) = some (1596, .iconst 0, 0, 0) := (sk_81 1596 rfl).trans rfl
theorem te_368_1597 : (pT M_368).find? (fun e => e.1 == 1597) = some (1597, .aload_n 3, 0, 0) := (sk_81 1597 rfl).trans rfl
theorem te_368_1598 : (pT M_368).find? (fun e => e.1 == 1598) = some (1598, .invokestatic 280, 174, 8) := (sk_81 1598 rfl).trans rfl
theorem te_368_1601 : (pT M_368).find? (fun e => e.1 == 1601) = some (1601, .istore 5, 0, 0) := (sk_81 1601 rfl).trans rfl
theorem te_368_1603 : (pT M_368).find? (fun e => e.1 == 1603) = some (1603, .aload_n 2, 0, 0) := (sk_81 1603 rfl).trans rfl
theorem te_368_1604 : (pT M_368).find? (fun e => e.1 == 1604) = some (1604, .aload_n 0, 0, 0) := (sk_81 1604 rfl).trans rfl
theorem te_368_1605 : (pT M_368).find? (fun e => e.1 == 1605) = some (1605, .iload 4, 0, 0) := (sk_81 1605 rfl).trans rfl
theorem te_368_1607 : (pT M_368).find? (fun e => e.1 == 1607) = some (1607, .iconst 1, 0, 0) := (sk_81 1607 rfl).trans rfl
theorem te_368_1608 : (pT M_368).find? (fun e => e.1 == 1608) = some (1608, .iadd, 0, 0) := (sk_82 1608 rfl).trans rfl
theorem te_368_1609 : (pT M_368).find? (fun e => e.1 == 1609) = some (1609, .iaload, 0, 0) := (sk_82 1609 rfl).trans rfl
theorem te_368_1610 : (pT M_368).find? (fun e => e.1 == 1610) = some (1610, .aload_n 0, 0, 0) := (sk_82 1610 rfl).trans rfl
theorem te_368_1611 : (pT M_368).find? (fun e => e.1 == 1611) = some (1611, .iload 4, 0, 0) := (sk_82 1611 rfl).trans rfl
theorem te_368_1613 : (pT M_368).find? (fun e => e.1 == 1613) = some (1613, .iconst 2, 0, 0) := (sk_82 1613 rfl).trans rfl
theorem te_368_1614 : (pT M_368).find? (fun e => e.1 == 1614) = some (1614, .iadd, 0, 0) := (sk_82 1614 rfl).trans rfl
theorem te_368_1615 : (pT M_368).find? (fun e => e.1 == 1615) = some (1615, .iaload, 0, 0) := (sk_82 1615 rfl).trans rfl
theorem te_368_1616 : (pT M_368).find? (fun e => e.1 == 1616) = some (1616, .aload_n 0, 0, 0) := (sk_82 1616 rfl).trans rfl
theorem te_368_1617 : (pT M_368).find? (fun e => e.1 == 1617) = some (1617, .iload 4, 0, 0) := (sk_82 1617 rfl).trans rfl
theorem te_368_1619 : (pT M_368).find? (fun e => e.1 == 1619) = some (1619, .iconst 3, 0, 0) := (sk_82 1619 rfl).trans rfl
theorem te_368_1620 : (pT M_368).find? (fun e => e.1 == 1620) = some (1620, .iadd, 0, 0) := (sk_82 1620 rfl).trans rfl
theorem te_368_1621 : (pT M_368).find? (fun e => e.1 == 1621) = some (1621, .iaload, 0, 0) := (sk_82 1621 rfl).trans rfl
theorem te_368_1622 : (pT M_368).find? (fun e => e.1 == 1622) = some (1622, .ifCond .eq 7, 0, 0) := (sk_83 1622 rfl).trans rfl
theorem te_368_1625 : (pT M_368).find? (fun e => e.1 == 1625) = some (1625, .iconst 1, 0, 0) := (sk_83 1625 rfl).trans rfl
theorem te_368_1626 : (pT M_368).find? (fun e => e.1 == 1626) = some (1626, .goto 4, 0, 0) := (sk_83 1626 rfl).trans rfl
theorem te_368_1629 : (pT M_368).find? (fun e => e.1 == 1629) = some (1629, .iconst 0, 0, 0) := (sk_83 1629 rfl).trans rfl
theorem te_368_1630 : (pT M_368).find? (fun e => e.1 == 1630) = some (1630, .invokevirtual 283, 333, 0) := (sk_83 1630 rfl).trans rfl
theorem te_368_1633 : (pT M_368).find? (fun e => e.1 == 1633) = some (1633, .istore 6, 0, 0) := (sk_83 1633 rfl).trans rfl
theorem te_368_1635 : (pT M_368).find? (fun e => e.1 == 1635) = some (1635, .goto 692, 0, 0) := (sk_83 1635 rfl).trans rfl
theorem te_368_1638 : (pT M_368).find? (fun e => e.1 == 1638) = some (1638, .aload_n 1, 0, 0) := (sk_83 1638 rfl).trans rfl
theorem te_368_1639 : (pT M_368).find? (fun e => e.1 == 1639) = some (1639, .aload_n 0, 0, 0) := (sk_83 1639 rfl).trans rfl
theorem te_368_1640 : (pT M_368).find? (fun e => e.1 == 1640) = some (1640, .iload 4, 0, 0) := (sk_83 1640 rfl).trans rfl
theorem te_368_1642 : (pT M_368).find? (fun e => e.1 == 1642) = some (1642, .iconst 1, 0, 0) := (sk_83 1642 rfl).trans rfl
theorem te_368_1643 : (pT M_368).find? (fun e => e.1 == 1643) = some (1643, .iadd, 0, 0) := (sk_83 1643 rfl).trans rfl
theorem te_368_1644 : (pT M_368).find? (fun e => e.1 == 1644) = some (1644, .iaload, 0, 0) := (sk_84 1644 rfl).trans rfl
theorem te_368_1645 : (pT M_368).find? (fun e => e.1 == 1645) = some (1645, .aload_n 3, 0, 0) := (sk_84 1645 rfl).trans rfl
theorem te_368_1646 : (pT M_368).find? (fun e => e.1 == 1646) = some (1646, .invokestatic 284, 177, 8) := (sk_84 1646 rfl).trans rfl
theorem te_368_1649 : (pT M_368).find? (fun e => e.1 == 1649) = some (1649, .istore 5, 0, 0) := (sk_84 1649 rfl).trans rfl
theorem te_368_1651 : (pT M_368).find? (fun e => e.1 == 1651) = some (1651, .aload_n 2, 0, 0) := (sk_84 1651 rfl).trans rfl
theorem te_368_1652 : (pT M_368).find? (fun e => e.1 == 1652) = some (1652, .aload_n 0, 0, 0) := (sk_84 1652 rfl).trans rfl
theorem te_368_1653 : (pT M_368).find? (fun e => e.1 == 1653) = some (1653, .iload 4, 0, 0) := (sk_84 1653 rfl).trans rfl
theorem te_368_1655 : (pT M_368).find? (fun e => e.1 == 1655) = some (1655, .iconst 1, 0, 0) := (sk_84 1655 rfl).trans rfl
theorem te_368_1656 : (pT M_368).find? (fun e => e.1 == 1656) = some (1656, .iadd, 0, 0) := (sk_84 1656 rfl).trans rfl
theorem te_368_1657 : (pT M_368).find? (fun e => e.1 == 1657) = some (1657, .iaload, 0, 0) := (sk_84 1657 rfl).trans rfl
theorem te_368_1658 : (pT M_368).find? (fun e => e.1 == 1658) = some (1658, .invokevirtual 286, 337, 0) := (sk_84 1658 rfl).trans rfl
theorem te_368_1661 : (pT M_368).find? (fun e => e.1 == 1661) = some (1661, .istore 6, 0, 0) := (sk_84 1661 rfl).trans rfl
theorem te_368_1663 : (pT M_368).find? (fun e => e.1 == 1663) = some (1663, .goto 664, 0, 0) := (sk_85 1663 rfl).trans rfl
theorem te_368_1666 : (pT M_368).find? (fun e => e.1 == 1666) = some (1666, .aload_n 1, 0, 0) := (sk_85 1666 rfl).trans rfl
theorem te_368_1667 : (pT M_368).find? (fun e => e.1 == 1667) = some (1667, .aload_n 0, 0, 0) := (sk_85 1667 rfl).trans rfl
theorem te_368_1668 : (pT M_368).find? (fun e => e.1 == 1668) = some (1668, .iload 4, 0, 0) := (sk_85 1668 rfl).trans rfl
theorem te_368_1670 : (pT M_368).find? (fun e => e.1 == 1670) = some (1670, .iconst 1, 0, 0) := (sk_85 1670 rfl).trans rfl
theorem te_368_1671 : (pT M_368).find? (fun e => e.1 == 1671) = some (1671, .iadd, 0, 0) := (sk_85 1671 rfl).trans rfl
theorem te_368_1672 : (pT M_368).find? (fun e => e.1 == 1672) = some (1672, .iaload, 0, 0) := (sk_85 1672 rfl).trans rfl
theorem te_368_1673 : (pT M_368).find? (fun e => e.1 == 1673) = some (1673, .aload_n 0, 0, 0) := (sk_85 1673 rfl).trans rfl
theorem te_368_1674 : (pT M_368).find? (fun e => e.1 == 1674) = some (1674, .iload 4, 0, 0) := (sk_85 1674 rfl).trans rfl
theorem te_368_1676 : (pT M_368).find? (fun e => e.1 == 1676) = some (1676, .iconst 2, 0, 0) := (sk_85 1676 rfl).trans rfl
theorem te_368_1677 : (pT M_368).find? (fun e => e.1 == 1677) = some (1677, .iadd, 0, 0) := (sk_85 1677 rfl).trans rfl
theorem te_368_1678 : (pT M_368).find? (fun e => e.1 == 1678) = some (1678, .iaload, 0, 0) := (sk_85 1678 rfl).trans rfl
theorem te_368_1679 : (pT M_368).find? (fun e => e.1 == 1679) = some (1679, .aload_n 0, 0, 0) := (sk_86 1679 rfl).trans rfl
theorem te_368_1680 : (pT M_368).find? (fun e => e.1 == 1680) = some (1680, .iload 4, 0, 0) := (sk_86 1680 rfl).trans rfl
theorem te_368_1682 : (pT M_368).find? (fun e => e.1 == 1682) = some (1682, .iconst 3, 0, 0) := (sk_86 1682 rfl).trans rfl
theorem te_368_1683 : (pT M_368).find? (fun e => e.1 == 1683) = some (1683, .iadd, 0, 0) := (sk_86 1683 rfl).trans rfl
theorem te_368_1684 : (pT M_368).find? (fun e => e.1 == 1684) = some (1684, .iaload, 0, 0) := (sk_86 1684 rfl).trans rfl
theorem te_368_1685 : (pT M_368).find? (fun e => e.1 == 1685) = some (1685, .aload_n 3, 0, 0) := (sk_86 1685 rfl).trans rfl
theorem te_368_1686 : (pT M_368).find? (fun e => e.1 == 1686) = some (1686, .invokestatic 287, 182, 8) := (sk_86 1686 rfl).trans rfl
theorem te_368_1689 : (pT M_368).find? (fun e => e.1 == 1689) = some (1689, .istore 5, 0, 0) := (sk_86 1689 rfl).trans rfl
theorem te_368_1691 : (pT M_368).find? (fun e => e.1 == 1691) = some (1691, .aload_n 2, 0, 0) := (sk_86 1691 rfl).trans rfl
theorem te_368_1692 : (pT M_368).find? (fun e => e.1 == 1692) = some (1692, .aload_n 0, 0, 0) := (sk_86 1692 rfl).trans rfl
theorem te_368_1693 : (pT M_368).find? (fun e => e.1 == 1693) = some (1693, .iload 4, 0, 0) := (sk_86 1693 rfl).trans rfl
theorem te_368_1695 : (pT M_368).find? (fun e => e.1 == 1695) = some (1695, .iconst 1, 0, 0) := (sk_86 1695 rfl).trans rfl
theorem te_368_1696 : (pT M_368).find? (fun e => e.1 == 1696) = some (1696, .iadd, 0, 0) := (sk_87 1696 rfl).trans rfl
theorem te_368_1697 : (pT M_368).find? (fun e => e.1 == 1697) = some (1697, .iaload, 0, 0) := (sk_87 1697 rfl).trans rfl
theorem te_368_1698 : (pT M_368).find? (fun e => e.1 == 1698) = some (1698, .aload_n 0, 0, 0) := (sk_87 1698 rfl).trans rfl
theorem te_368_1699 : (pT M_368).find? (fun e => e.1 == 1699) = some (1699, .iload 4, 0, 0) := (sk_87 1699 rfl).trans rfl
theorem te_368_1701 : (pT M_368).find? (fun e => e.1 == 1701) = some (1701, .iconst 2, 0, 0) := (sk_87 1701 rfl).trans rfl
theorem te_368_1702 : (pT M_368).find? (fun e => e.1 == 1702) = some (1702, .iadd, 0, 0) := (sk_87 1702 rfl).trans rfl
theorem te_368_1703 : (pT M_368).find? (fun e => e.1 == 1703) = some (1703, .iaload, 0, 0) := (sk_87 1703 rfl).trans rfl
theorem te_368_1704 : (pT M_368).find? (fun e => e.1 == 1704) = some (1704, .aload_n 0, 0, 0) := (sk_87 1704 rfl).trans rfl
theorem te_368_1705 : (pT M_368).find? (fun e => e.1 == 1705) = some (1705, .iload 4, 0, 0) := (sk_87 1705 rfl).trans rfl
theorem te_368_1707 : (pT M_368).find? (fun e => e.1 == 1707) = some (1707, .iconst 3, 0, 0) := (sk_87 1707 rfl).trans rfl
theorem te_368_1708 : (pT M_368).find? (fun e => e.1 == 1708) = some (1708, .iadd, 0, 0) := (sk_87 1708 rfl).trans rfl
theorem te_368_1709 : (pT M_368).find? (fun e => e.1 == 1709) = some (1709, .iaload, 0, 0) := (sk_87 1709 rfl).trans rfl
theorem te_368_1710 : (pT M_368).find? (fun e => e.1 == 1710) = some (1710, .invokevirtual 289, 342, 0) := (sk_88 1710 rfl).trans rfl
theorem te_368_1713 : (pT M_368).find? (fun e => e.1 == 1713) = some (1713, .istore 6, 0, 0) := (sk_88 1713 rfl).trans rfl
theorem te_368_1715 : (pT M_368).find? (fun e => e.1 == 1715) = some (1715, .goto 612, 0, 0) := (sk_88 1715 rfl).trans rfl
theorem te_368_1718 : (pT M_368).find? (fun e => e.1 == 1718) = some (1718, .aload_n 1, 0, 0) := (sk_88 1718 rfl).trans rfl
theorem te_368_1719 : (pT M_368).find? (fun e => e.1 == 1719) = some (1719, .aload_n 0, 0, 0) := (sk_88 1719 rfl).trans rfl
theorem te_368_1720 : (pT M_368).find? (fun e => e.1 == 1720) = some (1720, .iload 4, 0, 0) := (sk_88 1720 rfl).trans rfl
theorem te_368_1722 : (pT M_368).find? (fun e => e.1 == 1722) = some (1722, .iconst 1, 0, 0) := (sk_88 1722 rfl).trans rfl
theorem te_368_1723 : (pT M_368).find? (fun e => e.1 == 1723) = some (1723, .iadd, 0, 0) := (sk_88 1723 rfl).trans rfl
theorem te_368_1724 : (pT M_368).find? (fun e => e.1 == 1724) = some (1724, .iaload, 0, 0) := (sk_88 1724 rfl).trans rfl
theorem te_368_1725 : (pT M_368).find? (fun e => e.1 == 1725) = some (1725, .aload_n 0, 0, 0) := (sk_88 1725 rfl).trans rfl
theorem te_368_1726 : (pT M_368).find? (fun e => e.1 == 1726) = some (1726, .iload 4, 0, 0) := (sk_88 1726 rfl).trans rfl
theorem te_368_1728 : (pT M_368).find? (fun e => e.1 == 1728) = some (1728, .iconst 2, 0, 0) := (sk_88 1728 rfl).trans rfl
theorem te_368_1729 : (pT M_368).find? (fun e => e.1 == 1729) = some (1729, .iadd, 0, 0) := (sk_89 1729 rfl).trans rfl
theorem te_368_1730 : (pT M_368).find? (fun e => e.1 == 1730) = some (1730, .iaload, 0, 0) := (sk_89 1730 rfl).trans rfl
theorem te_368_1731 : (pT M_368).find? (fun e => e.1 == 1731) = some (1731, .aload_n 0, 0, 0) := (sk_89 1731 rfl).trans rfl
theorem te_368_1732 : (pT M_368).find? (fun e => e.1 == 1732) = some (1732, .iload 4, 0, 0) := (sk_89 1732 rfl).trans rfl
theorem te_368_1734 : (pT M_368).find? (fun e => e.1 == 1734) = some (1734, .iconst 3, 0, 0) := (sk_89 1734 rfl).trans rfl
theorem te_368_1735 : (pT M_368).find? (fun e => e.1 == 1735) = some (1735, .iadd, 0, 0) := (sk_89 1735 rfl).trans rfl
theorem te_368_1736 : (pT M_368).find? (fun e => e.1 == 1736) = some (1736, .iaload, 0, 0) := (sk_89 1736 rfl).trans rfl
theorem te_368_1737 : (pT M_368).find? (fun e => e.1 == 1737) = some (1737, .aload_n 0, 0, 0) := (sk_89 1737 rfl).trans rfl
theorem te_368_1738 : (pT M_368).find? (fun e => e.1 == 1738) = some (1738, .iload 4, 0, 0) := (sk_89 1738 rfl).trans rfl
theorem te_368_1740 : (pT M_368).find? (fun e => e.1 == 1740) = some (1740, .iconst 4, 0, 0) := (sk_89 1740 rfl).trans rfl
theorem te_368_1741 : (pT M_368).find? (fun e => e.1 == 1741) = some (1741, .iadd, 0, 0) := (sk_89 1741 rfl).trans rfl
theorem te_368_1742 : (pT M_368).find? (fun e => e.1 == 1742) = some (1742, .iaload, 0, 0) := (sk_89 1742 rfl).trans rfl
theorem te_368_1743 : (pT M_368).find? (fun e => e.1 == 1743) = some (1743, .aload_n 0, 0, 0) := (sk_90 1743 rfl).trans rfl
theorem te_368_1744 : (pT M_368).find? (fun e => e.1 == 1744) = some (1744, .iload 4, 0, 0) := (sk_90 1744 rfl).trans rfl
theorem te_368_1746 : (pT M_368).find? (fun e => e.1 == 1746) = some (1746, .iconst 5, 0, 0) := (sk_90 1746 rfl).trans rfl
theorem te_368_1747 : (pT M_368).find? (fun e => e.1 == 1747) = some (1747, .iadd, 0, 0) := (sk_90 1747 rfl).trans rfl
theorem te_368_1748 : (pT M_368).find? (fun e => e.1 == 1748) = some (1748, .iaload, 0, 0) := (sk_90 1748 rfl).trans rfl
theorem te_368_1749 : (pT M_368).find? (fun e => e.1 == 1749) = some (1749, .aload_n 3, 0, 0) := (sk_90 1749 rfl).trans rfl
theorem te_368_1750 : (pT M_368).find? (fun e => e.1 == 1750) = some (1750, .invokestatic 290, 184, 8) := (sk_90 1750 rfl).trans rfl
theorem te_368_1753 : (pT M_368).find? (fun e => e.1 == 1753) = some (1753, .istore 5, 0, 0) := (sk_90 1753 rfl).trans rfl
theorem te_368_1755 : (pT M_368).find? (fun e => e.1 == 1755) = some (1755, .aload_n 2, 0, 0) := (sk_90 1755 rfl).trans rfl
theorem te_368_1756 : (pT M_368).find? (fun e => e.1 == 1756) = some (1756, .aload_n 0, 0, 0) := (sk_90 1756 rfl).trans rfl
theorem te_368_1757 : (pT M_368).find? (fun e => e.1 == 1757) = some (1757, .iload 4, 0, 0) := (sk_90 1757 rfl).trans rfl
theorem te_368_1759 : (pT M_368).find? (fun e => e.1 == 1759) = some (1759, .iconst 1, 0, 0) := (sk_90 1759 rfl).trans rfl
theorem te_368_1760 : (pT M_368).find? (fun e => e.1 == 1760) = some (1760, .iadd, 0, 0) := (sk_91 1760 rfl).trans rfl
theorem te_368_1761 : (pT M_368).find? (fun e => e.1 == 1761) = some (1761, .iaload, 0, 0) := (sk_91 1761 rfl).trans rfl
theorem te_368_1762 : (pT M_368).find? (fun e => e.1 == 1762) = some (1762, .aload_n 0, 0, 0) := (sk_91 1762 rfl).trans rfl
theorem te_368_1763 : (pT M_368).find? (fun e => e.1 == 1763) = some (1763, .iload 4, 0, 0) := (sk_91 1763 rfl).trans rfl
theorem te_368_1765 : (pT M_368).find? (fun e => e.1 == 1765) = some (1765, .iconst 2, 0, 0) := (sk_91 1765 rfl).trans rfl
theorem te_368_1766 : (pT M_368).find? (fun e => e.1 == 1766) = some (1766, .iadd, 0, 0) := (sk_91 1766 rfl).trans rfl
theorem te_368_1767 : (pT M_368).find? (fun e => e.1 == 1767) = some (1767, .iaload, 0, 0) := (sk_91 1767 rfl).trans rfl
theorem te_368_1768 : (pT M_368).find? (fun e => e.1 == 1768) = some (1768, .aload_n 0, 0, 0) := (sk_91 1768 rfl).trans rfl
theorem te_368_1769 : (pT M_368).find? (fun e => e.1 == 1769) = some (1769, .iload 4, 0, 0) := (sk_91 1769 rfl).trans rfl
theorem te_368_1771 : (pT M_368).find? (fun e => e.1 == 1771) = some (1771, .iconst 3, 0, 0) := (sk_91 1771 rfl).trans rfl
theorem te_368_1772 : (pT M_368).find? (fun e => e.1 == 1772) = some (1772, .iadd, 0, 0) := (sk_91 1772 rfl).trans rfl
theorem te_368_1773 : (pT M_368).find? (fun e => e.1 == 1773) = some (1773, .iaload, 0, 0) := (sk_91 1773 rfl).trans rfl
theorem te_368_1774 : (pT M_368).find? (fun e => e.1 == 1774) = some (1774, .aload_n 0, 0, 0) := (sk_92 1774 rfl).trans rfl
theorem te_368_1775 : (pT M_368).find? (fun e => e.1 == 1775) = some (1775, .iload 4, 0, 0) := (sk_92 1775 rfl).trans rfl
theorem te_368_1777 : (pT M_368).find? (fun e => e.1 == 1777) = some (1777, .iconst 4, 0, 0) := (sk_92 1777 rfl).trans rfl
theorem te_368_1778 : (pT M_368).find? (fun e => e.1 == 1778) = some (1778, .iadd, 0, 0) := (sk_92 1778 rfl).trans rfl
theorem te_368_1779 : (pT M_368).find? (fun e => e.1 == 1779) = some (1779, .iaload, 0, 0) := (sk_92 1779 rfl).trans rfl
theorem te_368_1780 : (pT M_368).find? (fun e => e.1 == 1780) = some (1780, .aload_n 0, 0, 0) := (sk_92 1780 rfl).trans rfl
theorem te_368_1781 : (pT M_368).find? (fun e => e.1 == 1781) = some (1781, .iload 4, 0, 0) := (sk_92 1781 rfl).trans rfl
theorem te_368_1783 : (pT M_368).find? (fun e => e.1 == 1783) = some (1783, .iconst 5, 0, 0) := (sk_92 1783 rfl).trans rfl
theorem te_368_1784 : (pT M_368).find? (fun e => e.1 == 1784) = some (1784, .iadd, 0, 0) := (sk_92 1784 rfl).trans rfl
theorem te_368_1785 : (pT M_368).find? (fun e => e.1 == 1785) = some (1785, .iaload, 0, 0) := (sk_92 1785 rfl).trans rfl
theorem te_368_1786 : (pT M_368).find? (fun e => e.1 == 1786) = some (1786, .invokevirtual 292, 326, 0) := (sk_92 1786 rfl).trans rfl
theorem te_368_1789 : (pT M_368).find? (fun e => e.1 == 1789) = some (1789, .istore 6, 0, 0) := (sk_92 1789 rfl).trans rfl
theorem te_368_1791 : (pT M_368).find? (fun e => e.1 == 1791) = some (1791, .goto 536, 0, 0) := (sk_93 1791 rfl).trans rfl
theorem te_368_1794 : (pT M_368).find? (fun e => e.1 == 1794) = some (1794, .aload_n 1, 0, 0) := (sk_93 1794 rfl).trans rfl
theorem te_368_1795 : (pT M_368).find? (fun e => e.1 == 1795) = some (1795, .aload_n 0, 0, 0) := (sk_93 1795 rfl).trans rfl
theorem te_368_1796 : (pT M_368).find? (fun e => e.1 == 1796) = some (1796, .iload 4, 0, 0) := (sk_93 1796 rfl).trans rfl
theorem te_368_1798 : (pT M_368).find? (fun e => e.1 == 1798) = some (1798, .iconst 1, 0, 0) := (sk_93 1798 rfl).trans rfl
theorem te_368_1799 : (pT M_368).find? (fun e => e.1 == 1799) = some (1799, .iadd, 0, 0) := (sk_93 1799 rfl).trans rfl
theorem te_368_1800 : (pT M_368).find? (fun e => e.1 == 1800) = some (1800, .iaload, 0, 0) := (sk_93 1800 rfl).trans rfl
theorem te_368_1801 : (pT M_368).find? (fun e => e.1 == 1801) = some (1801, .ifCond .eq 7, 0, 0) := (sk_93 1801 rfl).trans rfl
theorem te_368_1804 : (pT M_368).find? (fun e => e.1 == 1804) = some (1804, .iconst 1, 0, 0) := (sk_93 1804 rfl).trans rfl
theorem te_368_1805 : (pT M_368).find? (fun e => e.1 == 1805) = some (1805, .goto 4, 0, 0) := (sk_93 1805 rfl).trans rfl
theorem te_368_1808 : (pT M_368).find? (fun e => e.1 == 1808) = some (1808, .iconst 0, 0, 0) := (sk_93 1808 rfl).trans rfl
theorem te_368_1809 : (pT M_368).find? (fun e => e.1 == 1809) = some (1809, .aload_n 3, 0, 0) := (sk_93 1809 rfl).trans rfl
theorem te_368_1810 : (pT M_368).find? (fun e => e.1 == 1810) = some (1810, .invokestatic 293, 187, 8) := (sk_94 1810 rfl).trans rfl
theorem te_368_1813 : (pT M_368).find? (fun e => e.1 == 1813) = some (1813, .istore 5, 0, 0) := (sk_94 1813 rfl).trans rfl
theorem te_368_1815 : (pT M_368).find? (fun e => e.1 == 1815) = some (1815, .aload_n 2, 0, 0) := (sk_94 1815 rfl).trans rfl
theorem te_368_1816 : (pT M_368).find? (fun e => e.1 == 1816) = some (1816, .aload_n 0, 0, 0) := (sk_94 1816 rfl).trans rfl
theorem te_368_1817 : (pT M_368).find? (fun e => e.1 == 1817) = some (1817, .iload 4, 0, 0) := (sk_94 1817 rfl).trans rfl
theorem te_368_1819 : (pT M_368).find? (fun e => e.1 == 1819) = some (1819, .iconst 1, 0, 0) := (sk_94 1819 rfl).trans rfl
theorem te_368_1820 : (pT M_368).find? (fun e => e.1 == 1820) = some (1820, .iadd, 0, 0) := (sk_94 1820 rfl).trans rfl
theorem te_368_1821 : (pT M_368).find? (fun e => e.1 == 1821) = some (1821, .iaload, 0, 0) := (sk_94 1821 rfl).trans rfl
theorem te_368_1822 : (pT M_368).find? (fun e => e.1 == 1822) = some (1822, .ifCond .eq 7, 0, 0) := (sk_94 1822 rfl).trans rfl
theorem te_368_1825 : (pT M_368).find? (fun e => e.1 == 1825) = some (1825, .iconst 1, 0, 0) := (sk_94 1825 rfl).trans rfl
theorem te_368_1826 : (pT M_368).find? (fun e => e.1 == 1826) = some (1826, .goto 4, 0, 0) := (sk_94 1826 rfl).trans rfl
theorem te_368_1829 : (pT M_368).find? (fun e => e.1 == 1829) = some (1829, .iconst 0, 0, 0) := (sk_94 1829 rfl).trans rfl
theorem te_368_1830 : (pT M_368).find? (fun e => e.1 == 1830) = some (1830, .invokevirtual 296, 343, 0) := (sk_95 1830 rfl).trans rfl
theorem te_368_1833 : (pT M_368).find? (fun e => e.1 == 1833) = some (1833, .istore 6, 0, 0) := (sk_95 1833 rfl).trans rfl
theorem te_368_1835 : (pT M_368).find? (fun e => e.1 == 1835) = some (1835, .goto 492, 0, 0) := (sk_95 1835 rfl).trans rfl
theorem te_368_1838 : (pT M_368).find? (fun e => e.1 == 1838) = some (1838, .aload_n 1, 0, 0) := (sk_95 1838 rfl).trans rfl
theorem te_368_1839 : (pT M_368).find? (fun e => e.1 == 1839) = some (1839, .aload_n 3, 0, 0) := (sk_95 1839 rfl).trans rfl
theorem te_368_1840 : (pT M_368).find? (fun e => e.1 == 1840) = some (1840, .invokestatic 297, 189, 8) := (sk_95 1840 rfl).trans rfl
theorem te_368_1843 : (pT M_368).find? (fun e => e.1 == 1843) = some (1843, .istore 5, 0, 0) := (sk_95 1843 rfl).trans rfl
theorem te_368_1845 : (pT M_368).find? (fun e => e.1 == 1845) = some (1845, .aload_n 2, 0, 0) := (sk_95 1845 rfl).trans rfl
theorem te_368_1846 : (pT M_368).find? (fun e => e.1 == 1846) = some (1846, .invokevirtual 299, 348, 0) := (sk_95 1846 rfl).trans rfl
theorem te_368_1849 : (pT M_368).find? (fun e => e.1 == 1849) = some (1849, .istore 6, 0, 0) := (sk_95 1849 rfl).trans rfl
theorem te_368_1851 : (pT M_368).find? (fun e => e.1 == 1851) = some (1851, .goto 476, 0, 0) := (sk_95 1851 rfl).trans rfl
theorem te_368_1854 : (pT M_368).find? (fun e => e.1 == 1854) = some (1854, .aload_n 1, 0, 0) := (sk_95 1854 rfl).trans rfl
theorem te_368_1855 : (pT M_368).find? (fun e => e.1 == 1855) = some (1855, .aload_n 0, 0, 0) := (sk_96 1855 rfl).trans rfl
theorem te_368_1856 : (pT M_368).find? (fun e => e.1 == 1856) = some (1856, .iload 4, 0, 0) := (sk_96 1856 rfl).trans rfl
theorem te_368_1858 : (pT M_368).find? (fun e => e.1 == 1858) = some (1858, .iconst 1, 0, 0) := (sk_96 1858 rfl).trans rfl
theorem te_368_1859 : (pT M_368).find? (fun e => e.1 == 1859) = some (1859, .iadd, 0, 0) := (sk_96 1859 rfl).trans rfl
theorem te_368_1860 : (pT M_368).find? (fun e => e.1 == 1860) = some (1860, .iaload, 0, 0) := (sk_96 1860 rfl).trans rfl
theorem te_368_1861 : (pT M_368).find? (fun e => e.1 == 1861) = some (1861, .aload_n 3, 0, 0) := (sk_96 1861 rfl).trans rfl
theorem te_368_1862 : (pT M_368).find? (fun e => e.1 == 1862) = some (1862, .invokestatic 300, 191, 8) := (sk_96 1862 rfl).trans rfl
theorem te_368_1865 : (pT M_368).find? (fun e => e.1 == 1865) = some (1865, .istore 5, 0, 0) := (sk_96 1865 rfl).trans rfl
theorem te_368_1867 : (pT M_368).find? (fun e => e.1 == 1867) = some (1867, .aload_n 2, 0, 0) := (sk_96 1867 rfl).trans rfl
theorem te_368_1868 : (pT M_368).find? (fun e => e.1 == 1868) = some (1868, .aload_n 0, 0, 0) := (sk_96 1868 rfl).trans rfl
theorem te_368_1869 : (pT M_368).find? (fun e => e.1 == 1869) = some (1869, .iload 4, 0, 0) := (sk_96 1869 rfl).trans rfl
theorem te_368_1871 : (pT M_368).find? (fun e => e.1 == 1871) = some (1871, .iconst 1, 0, 0) := (sk_96 1871 rfl).trans rfl
theorem te_368_1872 : (pT M_368).find? (fun e => e.1 == 1872) = some (1872, .iadd, 0, 0) := (sk_97 1872 rfl).trans rfl
theorem te_368_1873 : (pT M_368).find? (fun e => e.1 == 1873) = some (1873, .iaload, 0, 0) := (sk_97 1873 rfl).trans rfl
theorem te_368_1874 : (pT M_368).find? (fun e => e.1 == 1874) = some (1874, .invokevirtual 302, 349, 0) := (sk_97 1874 rfl).trans rfl
theorem te_368_1877 : (pT M_368).find? (fun e => e.1 == 1877) = some (1877, .istore 6, 0, 0) := (sk_97 1877 rfl).trans rfl
theorem te_368_1879 : (pT M_368).find? (fun e => e.1 == 1879) = some (1879, .goto 448, 0, 0) := (sk_97 1879 rfl).trans rfl
theorem te_368_1882 : (pT M_368).find? (fun e => e.1 == 1882) = some (1882, .aload_n 1, 0, 0) := (sk_97 1882 rfl).trans rfl
theorem te_368_1883 : (pT M_368).find? (fun e => e.1 == 1883) = some (1883, .aload_n 3, 0, 0) := (sk_97 1883 rfl).trans rfl
theorem te_368_1884 : (pT M_368).find? (fun e => e.1 == 1884) = some (1884, .invokestatic 303, 193, 8) := (sk_97 1884 rfl).trans rfl
theorem te_368_1887 : (pT M_368).find? (fun e => e.1 == 1887) = some (1887, .istore 5, 0, 0) := (sk_97 1887 rfl).trans rfl
theorem te_368_1889 : (pT M_368).find? (fun e => e.1 == 1889) = some (1889, .aload_n 2, 0, 0) := (sk_97 1889 rfl).trans rfl
theorem te_368_1890 : (pT M_368).find? (fun e => e.1 == 1890) = some (1890, .invokevirtual 305, 351, 0) := (sk_97 1890 rfl).trans rfl
theorem te_368_1893 : (pT M_368).find? (fun e => e.1 == 1893) = some (1893, .istore 6, 0, 0) := (sk_97 1893 rfl).trans rfl
theorem te_368_1895 : (pT M_368).find? (fun e => e.1 == 1895) = some (1895, .goto 432, 0, 0) := (sk_98 1895 rfl).trans rfl
theorem te_368_1898 : (pT M_368).find? (fun e => e.1 == 1898) = some (1898, .aload_n 1, 0, 0) := (sk_98 1898 rfl).trans rfl
theorem te_368_1899 : (pT M_368).find? (fun e => e.1 == 1899) = some (1899, .aload_n 0, 0, 0) := (sk_98 1899 rfl).trans rfl
theorem te_368_1900 : (pT M_368).find? (fun e => e.1 == 1900) = some (1900, .iload 4, 0, 0) := (sk_98 1900 rfl).trans rfl
theorem te_368_1902 : (pT M_368).find? (fun e => e.1 == 1902) = some (1902, .iconst 1, 0, 0) := (sk_98 1902 rfl).trans rfl
theorem te_368_1903 : (pT M_368).find? (fun e => e.1 == 1903) = some (1903, .iadd, 0, 0) := (sk_98 1903 rfl).trans rfl
theorem te_368_1904 : (pT M_368).find? (fun e => e.1 == 1904) = some (1904, .iaload, 0, 0) := (sk_98 1904 rfl).trans rfl
theorem te_368_1905 : (pT M_368).find? (fun e => e.1 == 1905) = some (1905, .aload_n 3, 0, 0) := (sk_98 1905 rfl).trans rfl
theorem te_368_1906 : (pT M_368).find? (fun e => e.1 == 1906) = some (1906, .invokestatic 306, 195, 8) := (sk_98 1906 rfl).trans rfl
theorem te_368_1909 : (pT M_368).find? (fun e => e.1 == 1909) = some (1909, .istore 5, 0, 0) := (sk_98 1909 rfl).trans rfl
theorem te_368_1911 : (pT M_368).find? (fun e => e.1 == 1911) = some (1911, .aload_n 2, 0, 0) := (sk_98 1911 rfl).trans rfl
theorem te_368_1912 : (pT M_368).find? (fun e => e.1 == 1912) = some (1912, .aload_n 0, 0, 0) := (sk_98 1912 rfl).trans rfl
theorem te_368_1913 : (pT M_368).find? (fun e => e.1 == 1913) = some (1913, .iload 4, 0, 0) := (sk_99 1913 rfl).trans rfl
theorem te_368_1915 : (pT M_368).find? (fun e => e.1 == 1915) = some (1915, .iconst 1, 0, 0) := (sk_99 1915 rfl).trans rfl
theorem te_368_1916 : (pT M_368).find? (fun e => e.1 == 1916) = some (1916, .iadd, 0, 0) := (sk_99 1916 rfl).trans rfl
theorem te_368_1917 : (pT M_368).find? (fun e => e.1 == 1917) = some (1917, .iaload, 0, 0) := (sk_99 1917 rfl).trans rfl
theorem te_368_1918 : (pT M_368).find? (fun e => e.1 == 1918) = some (1918, .invokevirtual 308, 352, 0) := (sk_99 1918 rfl).trans rfl
theorem te_368_1921 : (pT M_368).find? (fun e => e.1 == 1921) = some (1921, .istore 6, 0, 0) := (sk_99 1921 rfl).trans rfl
theorem te_368_1923 : (pT M_368).find? (fun e => e.1 == 1923) = some (1923, .goto 404, 0, 0) := (sk_99 1923 rfl).trans rfl
theorem te_368_1926 : (pT M_368).find? (fun e => e.1 == 1926) = some (1926, .aload_n 1, 0, 0) := (sk_99 1926 rfl).trans rfl
theorem te_368_1927 : (pT M_368).find? (fun e => e.1 == 1927) = some (1927, .aload_n 0, 0, 0) := (sk_99 1927 rfl).trans rfl
theorem te_368_1928 : (pT M_368).find? (fun e => e.1 == 1928) = some (1928, .iload 4, 0, 0) := (sk_99 1928 rfl).trans rfl
theorem te_368_1930 : (pT M_368).find? (fun e => e.1 == 1930) = some (1930, .iconst 1, 0, 0) := (sk_99 1930 rfl).trans rfl
theorem te_368_1931 : (pT M_368).find? (fun e => e.1 == 1931) = some (1931, .iadd, 0, 0) := (sk_99 1931 rfl).trans rfl
theorem te_368_1932 : (pT M_368).find? (fun e => e.1 == 1932) = some (1932, .iaload, 0, 0) := (sk_100 1932 rfl).trans rfl
theorem te_368_1933 : (pT M_368).find? (fun e => e.1 == 1933) = some (1933, .aload_n 3, 0, 0) := (sk_100 1933 rfl).trans rfl
theorem te_368_1934 : (pT M_368).find? (fun e => e.1 == 1934) = some (1934, .invokestatic 309, 197, 8) := (sk_100 1934 rfl).trans rfl
theorem te_368_1937 : (pT M_368).find? (fun e => e.1 == 1937) = some (1937, .istore 5, 0, 0) := (sk_100 1937 rfl).trans rfl
theorem te_368_1939 : (pT M_368).find? (fun e => e.1 == 1939) = some (1939, .aload_n 2, 0, 0) := (sk_100 1939 rfl).trans rfl
theorem te_368_1940 : (pT M_368).find? (fun e => e.1 == 1940) = some (1940, .aload_n 0, 0, 0) := (sk_100 1940 rfl).trans rfl
theorem te_368_1941 : (pT M_368).find? (fun e => e.1 == 1941) = some (1941, .iload 4, 0, 0) := (sk_100 1941 rfl).trans rfl
theorem te_368_1943 : (pT M_368).find? (fun e => e.1 == 1943) = some (1943, .iconst 1, 0, 0) := (sk_100 1943 rfl).trans rfl
theorem te_368_1944 : (pT M_368).find? (fun e => e.1 == 1944) = some (1944, .iadd, 0, 0) := (sk_100 1944 rfl).trans rfl
theorem te_368_1945 : (pT M_368).find? (fun e => e.1 == 1945) = some (1945, .iaload, 0, 0) := (sk_100 1945 rfl).trans rfl
theorem te_368_1946 : (pT M_368).find? (fun e => e.1 == 1946) = some (1946, .invokevirtual 311, 355, 0) := (sk_100 1946 rfl).trans rfl
theorem te_368_1949 : (pT M_368).find? (fun e => e.1 == 1949) = some (1949, .istore 6, 0, 0) := (sk_100 1949 rfl).trans rfl
theorem te_368_1951 : (pT M_368).find? (fun e => e.1 == 1951) = some (1951, .goto 376, 0, 0) := (sk_101 1951 rfl).trans rfl
theorem lc_27 {S : Nat × (Nat → Int32)} {lv : LV} {h : PH} {c s : Nat} {i : Int32} (hS : S.1 ≤ 3072) (hl : LwS lv i) (hi : 0 ≤ i.toInt ∧ i.toInt + 5 < S.1) (hL : LI h) (hc : c + 8 ≤ 601024) (hs : s + 48 ≤ 7293033) (Nx : ∀ lv' h' c' s', LwS lv' i → LI h' → c' ≤ c + 8 → s' ≤ s + 48 → Vx (Ex S 24) S M_368 [] Q1 2327 lv' [] h' c' s') : Vx (Ex S 24) S M_368 [] Q1 1398 lv [] h c s := by
  have hC := Ex.mono S 24
  refine Vx.go hC te_368_1398 ?_
  refine ⟨_, hl.2.1, ⟨0, Or.inl rfl⟩, ?_⟩
  refine sc_load hC (k := 1) hl te_368_1399 te_368_1400 te_368_1402 te_368_1403 te_368_1404 (sc_in hS hi (by decide)) ?_
  refine sc_load hC (k := 2) hl te_368_1405 te_368_1406 te_368_1408 te_368_1409 te_368_1410 (sc_in hS hi (by decide)) ?_
  refine sc_load hC (k := 3) hl te_368_1411 te_368_1412 te_368_1414 te_368_1415 te_368_1416 (sc_in hS hi (by decide)) ?_
  refine Vx.go hC te_368_1417 ?_
  refine ⟨_, hl.2.2.2.1, ⟨173, Or.inl rfl⟩, ?_⟩
  refine Vx.go hC te_368_1418 ?_
  refine Or.inr ⟨by decide, ?_⟩
  refine p_call_mk (av := [.ref 0, .int (S.2 (i + Int32.ofInt 1).toNatClampNeg), .int (S.2 (i + Int32.ofInt 2).toNatClampNeg), .int (S.2 (i + Int32.ofInt 3).toNatClampNeg), .ref 173]) (rest := []) mt_168 rfl (by decide) (show c + 3 ≤ 601024 by omega) (show s + 18 ≤ 7293033 by omega) (fun q => by cases q) ?_
  refine g_168 (n := 6) hL (fun r3 h1 hL2 => ?_)
  show Vx (Ex S 24) S M_368 [] Q1 1421 lv [.int r3] h1 (c + 3) (s + 18)
  refine Vx.go hC te_368_1421 ?_
  refine ⟨by decide, ?_⟩
  have hl4 := LwS.st (j := 5) (v := .int r3) (by omega) hl
  show Vx (Ex S 24) S M_368 [] Q1 1423 (px_s1 lv 5 (.int r3)) [] h1 (c + 3) (s + 18)
  refine Vx.go hC te_368_1423 ?_
  refine ⟨_, hl4.2.2.1, ⟨143, Or.inl rfl⟩, ?_⟩
  refine sc_load hC (k := 1) hl4 te_368_1424 te_368_1425 te_368_1427 te_368_1428 te_368_1429 (sc_in hS hi (by decide)) ?_
  refine sc_load hC (k := 2) hl4 te_368_1430 te_368_1431 te_368_1433 te_368_1434 te_368_1435 (sc_in hS hi (by decide)) ?_
  refine sc_load hC (k := 3) hl4 te_368_1436 te_368_1437 te_368_1439 te_368_1440 te_368_1441 (sc_in hS hi (by decide)) ?_
  refine Vx.go hC te_368_1442 ?_
  obtain ⟨gs8, gs8g⟩ := hL2.obj (A := 143) rfl
  have hcall9 := ref_call (S := S) (n := 24) (μ := 327) (args := [.inr 143, .inl ((S.2 (i + Int32.ofInt 1).toNatClampNeg) : Int32).toInt, .inl ((S.2 (i + Int32.ofInt 2).toNatClampNeg) : Int32).toInt, .inl ((S.2 (i + Int32.ofInt 3).toNatClampNeg) : Int32).toInt]) (h := h1) (fun v hv => by simp only [List.mem_cons, List.not_mem_nil, or_false] at hv; rcases hv with rfl | rfl | rfl | rfl <;> first | trivial | exact wiI _) hL2 (fun mem hr => f_327 hr (fun r m' a b => ⟨a, b⟩))
  simp only [List.map_cons, List.map_nil, wv, Int32.ofInt_toInt] at hcall9
  refine p_call_mk (av := [.ref 143, .int (S.2 (i + Int32.ofInt 1).toNatClampNeg), .int (S.2 (i + Int32.ofInt 2).toNatClampNeg), .int (S.2 (i + Int32.ofInt 3).toNatClampNeg)]) (rest := []) mt_327 rfl (by decide) (show (c + 3) + 0 ≤ 601024 by omega) (show (s + 18) + 0 ≤ 7293033 by omega) (fun _ => ⟨143, gs8, rfl, gs8g⟩) ?_
  refine hC _ _ _ _ _ ?_ hcall9
  rintro _ h5 ⟨hL6, r7, rfl⟩
  show Vx (Ex S 24) S M_368 [] Q1 1445 (px_s1 lv 5 (.int r3)) [.int r7] h5 (c + 3) (s + 18)
  refine Vx.go hC te_368_1445 ?_
  refine ⟨by decide, ?_⟩
  have hl10 := LwS.st (j := 6) (v := .int r7) (by omega) hl4
  show Vx (Ex S 24) S M_368 [] Q1 1447 (px_s1 (px_s1 lv 5 (.int r3)) 6 (.int r7)) [] h5 (c + 3) (s + 18)
  refine Vx.go hC te_368_1447 ?_
  refine ⟨by decide, ?_⟩
  exact Nx _ _ _ _ hl10 hL6 (by omega) (by omega)
theorem lc_28 {S : Nat × (Nat → Int32)} {lv : LV} {h : PH} {c s : Nat} {i : Int32} (hS : S.1 ≤ 3072) (hl : LwS lv i) (hi : 0 ≤ i.toInt ∧ i.toInt + 5 < S.1) (hL : LI h) (hc : c + 8 ≤ 601024) (hs : s + 48 ≤ 7293033) (Nx : ∀ lv' h' c' s', LwS lv' i → LI h' → c' ≤ c + 8 → s' ≤ s + 48 → Vx (Ex S 24) S M_368 [] Q1 2327 lv' [] h' c' s') : Vx (Ex S 24) S M_368 [] Q1 1450 lv [] h c s := by
  have hC := Ex.mono S 24
  refine Vx.go hC te_368_1450 ?_
  refine ⟨_, hl.2.1, ⟨0, Or.inl rfl⟩, ?_⟩
  refine sc_load hC (k := 1) hl te_368_1451 te_368_1452 te_368_1454 te_368_1455 te_368_1456 (sc_in hS hi (by decide)) ?_
  refine sc_load hC (k := 2) hl te_368_1457 te_368_1458 te_368_1460 te_368_1461 te_368_1462 (sc_in hS hi (by decide)) ?_
  refine sc_load hC (k := 3) hl te_368_1463 te_368_1464 te_368_1466 te_368_1467 te_368_1468 (sc_in hS hi (by decide)) ?_
  refine sc_load hC (k := 4) hl te_368_1469 te_368_1470 te_368_1472 te_368_1473 te_368_1474 (sc_in hS hi (by decide)) ?_
  refine Vx.go hC te_368_1475 ?_
  refine ⟨_, hl.2.2.2.1, ⟨173, Or.inl rfl⟩, ?_⟩
  refine Vx.go hC te_368_1476 ?_
  refine Or.inr ⟨by decide, ?_⟩
  refine p_call_mk (av := [.ref 0, .int (S.2 (i + Int32.ofInt 1).toNatClampNeg), .int (S.2 (i + Int32.ofInt 2).toNatClampNeg), .int (S.2 (i + Int32.ofInt 3).toNatClampNeg), .int (S.2 (i + Int32.ofInt 4).toNatClampNeg), .ref 173]) (rest := []) mt_170 rfl (by decide) (show c + 7 ≤ 601024 by omega) (show s + 42 ≤ 7293033 by omega) (fun q => by cases q) ?_
  refine g_170 (n := 6) hL (fun r3 h1 hL2 => ?_)
  show Vx (Ex S 24) S M_368 [] Q1 1479 lv [.int r3] h1 (c + 7) (s + 42)
  refine Vx.go hC te_368_1479 ?_
  refine ⟨by decide, ?_⟩
  have hl4 := LwS.st (j := 5) (v := .int r3) (by omega) hl
  show Vx (Ex S 24) S M_368 [] Q1 1481 (px_s1 lv 5 (.int r3)) [] h1 (c + 7) (s + 42)
  refine Vx.go hC te_368_1481 ?_
  refine ⟨_, hl4.2.2.1, ⟨143, Or.inl rfl⟩, ?_⟩
  refine sc_load hC (k := 1) hl4 te_368_1482 te_368_1483 te_368_1485 te_368_1486 te_368_1487 (sc_in hS hi (by decide)) ?_
  refine sc_load hC (k := 2) hl4 te_368_1488 te_368_1489 te_368_1491 te_368_1492 te_368_1493 (sc_in hS hi (by decide)) ?_
  refine sc_load hC (k := 3) hl4 te_368_1494 te_368_1495 te_368_1497 te_368_1498 te_368_1499 (sc_in hS hi (by decide)) ?_
  refine sc_load hC (k := 4) hl4 te_368_1500 te_368_1501 te_368_1503 te_368_1504 te_368_1505 (sc_in hS hi (by decide)) ?_
  refine Vx.go hC te_368_1506 ?_
  obtain ⟨gs8, gs8g⟩ := hL2.obj (A := 143) rfl
  have hcall9 := ref_call (S := S) (n := 24) (μ := 331) (args := [.inr 143, .inl ((S.2 (i + Int32.ofInt 1).toNatClampNeg) : Int32).toInt, .inl ((S.2 (i + Int32.ofInt 2).toNatClampNeg) : Int32).toInt, .inl ((S.2 (i + Int32.ofInt 3).toNatClampNeg) : Int32).toInt, .inl ((S.2 (i + Int32.ofInt 4).toNatClampNeg) : Int32).toInt]) (h := h1) (fun v hv => by simp only [List.mem_cons, List.not_mem_nil, or_false] at hv; rcases hv with rfl | rfl | rfl | rfl | rfl <;> first | trivial | exact wiI _) hL2 (fun mem hr => f_331 (wiI _) hr (fun r m' a b => ⟨a, b⟩))
  simp only [List.map_cons, List.map_nil, wv, Int32.ofInt_toInt] at hcall9
  refine p_call_mk (av := [.ref 143, .int (S.2 (i + Int32.ofInt 1).toNatClampNeg), .int (S.2 (i + Int32.ofInt 2).toNatClampNeg), .int (S.2 (i + Int32.ofInt 3).toNatClampNeg), .int (S.2 (i + Int32.ofInt 4).toNatClampNeg)]) (rest := []) mt_331 rfl (by decide) (show (c + 7) + 0 ≤ 601024 by omega) (show (s + 42) + 0 ≤ 7293033 by omega) (fun _ => ⟨143, gs8, rfl, gs8g⟩) ?_
  refine hC _ _ _ _ _ ?_ hcall9
  rintro _ h5 ⟨hL6, r7, rfl⟩
  show Vx (Ex S 24) S M_368 [] Q1 1509 (px_s1 lv 5 (.int r3)) [.int r7] h5 (c + 7) (s + 42)
  refine Vx.go hC te_368_1509 ?_
  refine ⟨by decide, ?_⟩
  have hl10 := LwS.st (j := 6) (v := .int r7) (by omega) hl4
  show Vx (Ex S 24) S M_368 [] Q1 1511 (px_s1 (px_s1 lv 5 (.int r3)) 6 (.int r7)) [] h5 (c + 7) (s + 42)
  refine Vx.go hC te_368_1511 ?_
  refine ⟨by decide, ?_⟩
  exact Nx _ _ _ _ hl10 hL6 (by omega) (by omega)
theorem lc_29 {S : Nat × (Nat → Int32)} {lv : LV} {h : PH} {c s : Nat} {i : Int32} (hS : S.1 ≤ 3072) (hl : LwS lv i) (hi : 0 ≤ i.toInt ∧ i.toInt + 5 < S.1) (hL : LI h) (hc : c + 8 ≤ 601024) (hs : s + 48 ≤ 7293033) (Nx : ∀ lv' h' c' s', LwS lv' i → LI h' → c' ≤ c + 8 → s' ≤ s + 48 → Vx (Ex S 24) S M_368 [] Q1 2327 lv' [] h' c' s') : Vx (Ex S 24) S M_368 [] Q1 1514 lv [] h c s := by
  have hC := Ex.mono S 24
  refine Vx.go hC te_368_1514 ?_
  refine ⟨_, hl.2.1, ⟨0, Or.inl rfl⟩, ?_⟩
  refine sc_load hC (k := 1) hl te_368_1515 te_368_1516 te_368_1518 te_368_1519 te_368_1520 (sc_in hS hi (by decide)) ?_
  refine sc_load hC (k := 2) hl te_368_1521 te_368_1522 te_368_1524 te_368_1525 te_368_1526 (sc_in hS hi (by decide)) ?_
  refine Vx.go hC te_368_1527 ?_
  refine ⟨by decide, fun q => ?_, fun q => ?_⟩
  · show Vx (Ex S 24) S M_368 [] Q1 1534 lv [.int (S.2 (i + Int32.ofInt 1).toNatClampNeg), .ref 0] h c s
    refine Vx.go hC te_368_1534 ?_
    refine Vx.go hC te_368_1535 ?_
    refine ⟨_, hl.2.2.2.1, ⟨173, Or.inl rfl⟩, ?_⟩
    refine Vx.go hC te_368_1536 ?_
    refine Or.inr ⟨by decide, ?_⟩
    refine p_call_mk (av := [.ref 0, .int (S.2 (i + Int32.ofInt 1).toNatClampNeg), .int (Int32.ofInt 0), .ref 173]) (rest := []) mt_172 rfl (by decide) (show c + 3 ≤ 601024 by omega) (show s + 18 ≤ 7293033 by omega) (fun q => by cases q) ?_
    refine g_172 (n := 6) hL (fun r3 h1 hL2 => ?_)
    show Vx (Ex S 24) S M_368 [] Q1 1539 lv [.int r3] h1 (c + 3) (s + 18)
    refine Vx.go hC te_368_1539 ?_
    refine ⟨by decide, ?_⟩
    have hl4 := LwS.st (j := 5) (v := .int r3) (by omega) hl
    show Vx (Ex S 24) S M_368 [] Q1 1541 (px_s1 lv 5 (.int r3)) [] h1 (c + 3) (s + 18)
    refine Vx.go hC te_368_1541 ?_
    refine ⟨_, hl4.2.2.1, ⟨143, Or.inl rfl⟩, ?_⟩
    refine sc_load hC (k := 1) hl4 te_368_1542 te_368_1543 te_368_1545 te_368_1546 te_368_1547 (sc_in hS hi (by decide)) ?_
    refine sc_load hC (k := 2) hl4 te_368_1548 te_368_1549 te_368_1551 te_368_1552 te_368_1553 (sc_in hS hi (by decide)) ?_
    refine Vx.go hC te_368_1554 ?_
    refine ⟨by decide, fun q => ?_, fun q => ?_⟩
    · show Vx (Ex S 24) S M_368 [] Q1 1561 (px_s1 lv 5 (.int r3)) [.int (S.2 (i + Int32.ofInt 1).toNatClampNeg), .ref 143] h1 (c + 3) (s + 18)
      refine Vx.go hC te_368_1561 ?_
      refine Vx.go hC te_368_1562 ?_
      obtain ⟨gs8, gs8g⟩ := hL2.obj (A := 143) rfl
      have hcall9 := ref_call (S := S) (n := 24) (μ := 332) (args := [.inr 143, .inl ((S.2 (i + Int32.ofInt 1).toNatClampNeg) : Int32).toInt, .inl ((Int32.ofInt 0) : Int32).toInt]) (h := h1) (fun v hv => by simp only [List.mem_cons, List.not_mem_nil, or_false] at hv; rcases hv with rfl | rfl | rfl <;> first | trivial | exact wiI _) hL2 (fun mem hr => f_332 hr (fun r m' a b => ⟨a, b⟩))
      simp only [List.map_cons, List.map_nil, wv, Int32.ofInt_toInt] at hcall9
      refine p_call_mk (av := [.ref 143, .int (S.2 (i + Int32.ofInt 1).toNatClampNeg), .int (Int32.ofInt 0)]) (rest := []) mt_332 rfl (by decide) (show (c + 3) + 0 ≤ 601024 by omega) (show (s + 18) + 0 ≤ 7293033 by omega) (fun _ => ⟨143, gs8, rfl, gs8g⟩) ?_
      refine hC _ _ _ _ _ ?_ hcall9
      rintro _ h5 ⟨hL6, r7, rfl⟩
      show Vx (Ex S 24) S M_368 [] Q1 1565 (px_s1 lv 5 (.int r3)) [.int r7] h5 (c + 3) (s + 18)
      refine Vx.go hC te_368_1565 ?_
      refine ⟨by decide, ?_⟩
      have hl10 := LwS.st (j := 6) (v := .int r7) (by omega) hl4
      show Vx (Ex S 24) S M_368 [] Q1 1567 (px_s1 (px_s1 lv 5 (.int r3)) 6 (.int r7)) [] h5 (c + 3) (s + 18)
      refine Vx.go hC te_368_1567 ?_
      refine ⟨by decide, ?_⟩
      exact Nx _ _ _ _ hl10 hL6 (by omega) (by omega)
    · show Vx (Ex S 24) S M_368 [] Q1 1557 (px_s1 lv 5 (.int r3)) [.int (S.2 (i + Int32.ofInt 1).toNatClampNeg), .ref 143] h1 (c + 3) (s + 18)
      refine Vx.go hC te_368_1557 ?_
      refine Vx.go hC te_368_1558 ?_
      refine ⟨by decide, ?_⟩
      show Vx (Ex S 24) S M_368 [] Q1 1562 (px_s1 lv 5 (.int r3)) [.int (Int32.ofInt 1), .int (S.2 (i + Int32.ofInt 1).toNatClampNeg), .ref 143] h1 (c + 3) (s + 18)
      refine Vx.go hC te_368_1562 ?_
      obtain ⟨gs14, gs14g⟩ := hL2.obj (A := 143) rfl
      have hcall15 := ref_call (S := S) (n := 24) (μ := 332) (args := [.inr 143, .inl ((S.2 (i + Int32.ofInt 1).toNatClampNeg) : Int32).toInt, .inl ((Int32.ofInt 1) : Int32).toInt]) (h := h1) (fun v hv => by simp only [List.mem_cons, List.not_mem_nil, or_false] at hv; rcases hv with rfl | rfl | rfl <;> first | trivial | exact wiI _) hL2 (fun mem hr => f_332 hr (fun r m' a b => ⟨a, b⟩))
      simp only [List.map_cons, List.map_nil, wv, Int32.ofInt_toInt] at hcall15
      refine p_call_mk (av := [.ref 143, .int (S.2 (i + Int32.ofInt 1).toNatClampNeg), .int (Int32.ofInt 1)]) (rest := []) mt_332 rfl (by decide) (show (c + 3) + 0 ≤ 601024 by omega) (show (s + 18) + 0 ≤ 7293033 by omega) (fun _ => ⟨143, gs14, rfl, gs14g⟩) ?_
      refine hC _ _ _ _ _ ?_ hcall15
      rintro _ h11 ⟨hL12, r13, rfl⟩
      show Vx (Ex S 24) S M_368 [] Q1 1565 (px_s1 lv 5 (.int r3)) [.int r13] h11 (c + 3) (s + 18)
      refine Vx.go hC te_368_1565 ?_
      refine ⟨by decide, ?_⟩
      have hl16 := LwS.st (j := 6) (v := .int r13) (by omega) hl4
      show Vx (Ex S 24) S M_368 [] Q1 1567 (px_s1 (px_s1 lv 5 (.int r3)) 6 (.int r13)) [] h11 (c + 3) (s + 18)
      refine Vx.go hC te_368_1567 ?_
      refine ⟨by decide, ?_⟩
      exact Nx _ _ _ _ hl16 hL12 (by omega) (by omega)
  · show Vx (Ex S 24) S M_368 [] Q1 1530 lv [.int (S.2 (i + Int32.ofInt 1).toNatClampNeg), .ref 0] h c s
    refine Vx.go hC te_368_1530 ?_
    refine Vx.go hC te_368_1531 ?_
    refine ⟨by decide, ?_⟩
    show Vx (Ex S 24) S M_368 [] Q1 1535 lv [.int (Int32.ofInt 1), .int (S.2 (i + Int32.ofInt 1).toNatClampNeg), .ref 0] h c s
    refine Vx.go hC te_368_1535 ?_
    refine ⟨_, hl.2.2.2.1, ⟨173, Or.inl rfl⟩, ?_⟩
    refine Vx.go hC te_368_1536 ?_
    refine Or.inr ⟨by decide, ?_⟩
    refine p_call_mk (av := [.ref 0, .int (S.2 (i + Int32.ofInt 1).toNatClampNeg), .int (Int32.ofInt 1), .ref 173]) (rest := []) mt_172 rfl (by decide) (show c + 3 ≤ 601024 by omega) (show s + 18 ≤ 7293033 by omega) (fun q => by cases q) ?_
    refine g_172 (n := 6) hL (fun r19 h17 hL18 => ?_)
    show Vx (Ex S 24) S M_368 [] Q1 1539 lv [.int r19] h17 (c + 3) (s + 18)
    refine Vx.go hC te_368_1539 ?_
    refine ⟨by decide, ?_⟩
    have hl20 := LwS.st (j := 5) (v := .int r19) (by omega) hl
    show Vx (Ex S 24) S M_368 [] Q1 1541 (px_s1 lv 5 (.int r19)) [] h17 (c + 3) (s + 18)
    refine Vx.go hC te_368_1541 ?_
    refine ⟨_, hl20.2.2.1, ⟨143, Or.inl rfl⟩, ?_⟩
    refine sc_load hC (k := 1) hl20 te_368_1542 te_368_1543 te_368_1545 te_368_1546 te_368_1547 (sc_in hS hi (by decide)) ?_
    refine sc_load hC (k := 2) hl20 te_368_1548 te_368_1549 te_368_1551 te_368_1552 te_368_1553 (sc_in hS hi (by decide)) ?_
    refine Vx.go hC te_368_1554 ?_
    refine ⟨by decide, fun q => ?_, fun q => ?_⟩
    · show Vx (Ex S 24) S M_368 [] Q1 1561 (px_s1 lv 5 (.int r19)) [.int (S.2 (i + Int32.ofInt 1).toNatClampNeg), .ref 143] h17 (c + 3) (s + 18)
      refine Vx.go hC te_368_1561 ?_
      refine Vx.go hC te_368_1562 ?_
      obtain ⟨gs24, gs24g⟩ := hL18.obj (A := 143) rfl
      have hcall25 := ref_call (S := S) (n := 24) (μ := 332) (args := [.inr 143, .inl ((S.2 (i + Int32.ofInt 1).toNatClampNeg) : Int32).toInt, .inl ((Int32.ofInt 0) : Int32).toInt]) (h := h17) (fun v hv => by simp only [List.mem_cons, List.not_mem_nil, or_false] at hv; rcases hv with rfl | rfl | rfl <;> first | trivial | exact wiI _) hL18 (fun mem hr => f_332 hr (fun r m' a b => ⟨a, b⟩))
      simp only [List.map_cons, List.map_nil, wv, Int32.ofInt_toInt] at hcall25
      refine p_call_mk (av := [.ref 143, .int (S.2 (i + Int32.ofInt 1).toNatClampNeg), .int (Int32.ofInt 0)]) (rest := []) mt_332 rfl (by decide) (show (c + 3) + 0 ≤ 601024 by omega) (show (s + 18) + 0 ≤ 7293033 by omega) (fun _ => ⟨143, gs24, rfl, gs24g⟩) ?_
      refine hC _ _ _ _ _ ?_ hcall25
      rintro _ h21 ⟨hL22, r23, rfl⟩
      show Vx (Ex S 24) S M_368 [] Q1 1565 (px_s1 lv 5 (.int r19)) [.int r23] h21 (c + 3) (s + 18)
      refine Vx.go hC te_368_1565 ?_
      refine ⟨by decide, ?_⟩
      have hl26 := LwS.st (j := 6) (v := .int r23) (by omega) hl20
      show Vx (Ex S 24) S M_368 [] Q1 1567 (px_s1 (px_s1 lv 5 (.int r19)) 6 (.int r23)) [] h21 (c + 3) (s + 18)
      refine Vx.go hC te_368_1567 ?_
      refine ⟨by decide, ?_⟩
      exact Nx _ _ _ _ hl26 hL22 (by omega) (by omega)
    · show Vx (Ex S 24) S M_368 [] Q1 1557 (px_s1 lv 5 (.int r19)) [.int (S.2 (i + Int32.ofInt 1).toNatClampNeg), .ref 143] h17 (c + 3) (s + 18)
      refine Vx.go hC te_368_1557 ?_
      refine Vx.go hC te_368_1558 ?_
      refine ⟨by decide, ?_⟩
      show Vx (Ex S 24) S M_368 [] Q1 1562 (px_s1 lv 5 (.int r19)) [.int (Int32.ofInt 1), .int (S.2 (i + Int32.ofInt 1).toNatClampNeg), .ref 143] h17 (c + 3) (s + 18)
      refine Vx.go hC te_368_1562 ?_
      obtain ⟨gs30, gs30g⟩ := hL18.obj (A := 143) rfl
      have hcall31 := ref_call (S := S) (n := 24) (μ := 332) (args := [.inr 143, .inl ((S.2 (i + Int32.ofInt 1).toNatClampNeg) : Int32).toInt, .inl ((Int32.ofInt 1) : Int32).toInt]) (h := h17) (fun v hv => by simp only [List.mem_cons, List.not_mem_nil, or_false] at hv; rcases hv with rfl | rfl | rfl <;> first | trivial | exact wiI _) hL18 (fun mem hr => f_332 hr (fun r m' a b => ⟨a, b⟩))
      simp only [List.map_cons, List.map_nil, wv, Int32.ofInt_toInt] at hcall31
      refine p_call_mk (av := [.ref 143, .int (S.2 (i + Int32.ofInt 1).toNatClampNeg), .int (Int32.ofInt 1)]) (rest := []) mt_332 rfl (by decide) (show (c + 3) + 0 ≤ 601024 by omega) (show (s + 18) + 0 ≤ 7293033 by omega) (fun _ => ⟨143, gs30, rfl, gs30g⟩) ?_
      refine hC _ _ _ _ _ ?_ hcall31
      rintro _ h27 ⟨hL28, r29, rfl⟩
      show Vx (Ex S 24) S M_368 [] Q1 1565 (px_s1 lv 5 (.int r19)) [.int r29] h27 (c + 3) (s + 18)
      refine Vx.go hC te_368_1565 ?_
      refine ⟨by decide, ?_⟩
      have hl32 := LwS.st (j := 6) (v := .int r29) (by omega) hl20
      show Vx (Ex S 24) S M_368 [] Q1 1567 (px_s1 (px_s1 lv 5 (.int r19)) 6 (.int r29)) [] h27 (c + 3) (s + 18)
      refine Vx.go hC te_368_1567 ?_
      refine ⟨by decide, ?_⟩
      exact Nx _ _ _ _ hl32 hL28 (by omega) (by omega)
theorem lc_30 {S : Nat × (Nat → Int32)} {lv : LV} {h : PH} {c s : Nat} {i : Int32} (hS : S.1 ≤ 3072) (hl : LwS lv i) (hi : 0 ≤ i.toInt ∧ i.toInt + 5 < S.1) (hL : LI h) (hc : c + 8 ≤ 601024) (hs : s + 48 ≤ 7293033) (Nx : ∀ lv' h' c' s', LwS lv' i → LI h' → c' ≤ c + 8 → s' ≤ s + 48 → Vx (Ex S 24) S M_368 [] Q1 2327 lv' [] h' c' s') : Vx (Ex S 24) S M_368 [] Q1 1570 lv [] h c s := by
  have hC := Ex.mono S 24
  refine Vx.go hC te_368_1570 ?_
  refine ⟨_, hl.2.1, ⟨0, Or.inl rfl⟩, ?_⟩
  refine sc_load hC (k := 1) hl te_368_1571 te_368_1572 te_368_1574 te_368_1575 te_368_1576 (sc_in hS hi (by decide)) ?_
  refine sc_load hC (k := 2) hl te_368_1577 te_368_1578 te_368_1580 te_368_1581 te_368_1582 (sc_in hS hi (by decide)) ?_
  refine sc_load hC (k := 3) hl te_368_1583 te_368_1584 te_368_1586 te_368_1587 te_368_1588 (sc_in hS hi (by decide)) ?_
  refine Vx.go hC te_368_1589 ?_
  refine ⟨by decide, fun q => ?_, fun q => ?_⟩
  · show Vx (Ex S 24) S M_368 [] Q1 1596 lv [.int (S.2 (i + Int32.ofInt 2).toNatClampNeg), .int (S.2 (i + Int32.ofInt 1).toNatClampNeg), .ref 0] h c s
    refine Vx.go hC te_368_1596 ?_
    refine Vx.go hC te_368_1597 ?_
    refine ⟨_, hl.2.2.2.1, ⟨173, Or.inl rfl⟩, ?_⟩
    refine Vx.go hC te_368_1598 ?_
    refine Or.inr ⟨by decide, ?_⟩
    refine p_call_mk (av := [.ref 0, .int (S.2 (i + Int32.ofInt 1).toNatClampNeg), .int (S.2 (i + Int32.ofInt 2).toNatClampNeg), .int (Int32.ofInt 0), .ref 173]) (rest := []) mt_174 rfl (by decide) (show c + 5 ≤ 601024 by omega) (show s + 30 ≤ 7293033 by omega) (fun q => by cases q) ?_
    refine g_174 (n := 6) hL (fun r3 h1 hL2 => ?_)
    show Vx (Ex S 24) S M_368 [] Q1 1601 lv [.int r3] h1 (c + 5) (s + 30)
    refine Vx.go hC te_368_1601 ?_
    refine ⟨by decide, ?_⟩
    have hl4 := LwS.st (j := 5) (v := .int r3) (by omega) hl
    show Vx (Ex S 24) S M_368 [] Q1 1603 (px_s1 lv 5 (.int r3)) [] h1 (c + 5) (s + 30)
    refine Vx.go hC te_368_1603 ?_
    refine ⟨_, hl4.2.2.1, ⟨143, Or.inl rfl⟩, ?_⟩
    refine sc_load hC (k := 1) hl4 te_368_1604 te_368_1605 te_368_1607 te_368_1608 te_368_1609 (sc_in hS hi (by decide)) ?_
    refine sc_load hC (k := 2) hl4 te_368_1610 te_368_1611 te_368_1613 te_368_1614 te_368_1615 (sc_in hS hi (by decide)) ?_
    refine sc_load hC (k := 3) hl4 te_368_1616 te_368_1617 te_368_1619 te_368_1620 te_368_1621 (sc_in hS hi (by decide)) ?_
    refine Vx.go hC te_368_1622 ?_
    refine ⟨by decide, fun q => ?_, fun q => ?_⟩
    · show Vx (Ex S 24) S M_368 [] Q1 1629 (px_s1 lv 5 (.int r3)) [.int (S.2 (i + Int32.ofInt 2).toNatClampNeg), .int (S.2 (i + Int32.ofInt 1).toNatClampNeg), .ref 143] h1 (c + 5) (s + 30)
      refine Vx.go hC te_368_1629 ?_
      refine Vx.go hC te_368_1630 ?_
      obtain ⟨gs8, gs8g⟩ := hL2.obj (A := 143) rfl
      have hcall9 := ref_call (S := S) (n := 24) (μ := 333) (args := [.inr 143, .inl ((S.2 (i + Int32.ofInt 1).toNatClampNeg) : Int32).toInt, .inl ((S.2 (i + Int32.ofInt 2).toNatClampNeg) : Int32).toInt, .inl ((Int32.ofInt 0) : Int32).toInt]) (h := h1) (fun v hv => by simp only [List.mem_cons, List.not_mem_nil, or_false] at hv; rcases hv with rfl | rfl | rfl | rfl <;> first | trivial | exact wiI _) hL2 (fun mem hr => f_333 hr (fun r m' a b => ⟨a, b⟩))
      simp only [List.map_cons, List.map_nil, wv, Int32.ofInt_toInt] at hcall9
      refine p_call_mk (av := [.ref 143, .int (S.2 (i + Int32.ofInt 1).toNatClampNeg), .int (S.2 (i + Int32.ofInt 2).toNatClampNeg), .int (Int32.ofInt 0)]) (rest := []) mt_333 rfl (by decide) (show (c + 5) + 0 ≤ 601024 by omega) (show (s + 30) + 0 ≤ 7293033 by omega) (fun _ => ⟨143, gs8, rfl, gs8g⟩) ?_
      refine hC _ _ _ _ _ ?_ hcall9
      rintro _ h5 ⟨hL6, r7, rfl⟩
      show Vx (Ex S 24) S M_368 [] Q1 1633 (px_s1 lv 5 (.int r3)) [.int r7] h5 (c + 5) (s + 30)
      refine Vx.go hC te_368_1633 ?_
      refine ⟨by decide, ?_⟩
      have hl10 := LwS.st (j := 6) (v := .int r7) (by omega) hl4
      show Vx (Ex S 24) S M_368 [] Q1 1635 (px_s1 (px_s1 lv 5 (.int r3)) 6 (.int r7)) [] h5 (c + 5) (s + 30)
      refine Vx.go hC te_368_1635 ?_
      refine ⟨by decide, ?_⟩
      exact Nx _ _ _ _ hl10 hL6 (by omega) (by omega)
    · show Vx (Ex S 24) S M_368 [] Q1 1625 (px_s1 lv 5 (.int r3)) [.int (S.2 (i + Int32.ofInt 2).toNatClampNeg), .int (S.2 (i + Int32.ofInt 1).toNatClampNeg), .ref 143] h1 (c + 5) (s + 30)
      refine Vx.go hC te_368_1625 ?_
      refine Vx.go hC te_368_1626 ?_
      refine ⟨by decide, ?_⟩
      show Vx (Ex S 24) S M_368 [] Q1 1630 (px_s1 lv 5 (.int r3)) [.int (Int32.ofInt 1), .int (S.2 (i + Int32.ofInt 2).toNatClampNeg), .int (S.2 (i + Int32.ofInt 1).toNatClampNeg), .ref 143] h1 (c + 5) (s + 30)
      refine Vx.go hC te_368_1630 ?_
      obtain ⟨gs14, gs14g⟩ := hL2.obj (A := 143) rfl
      have hcall15 := ref_call (S := S) (n := 24) (μ := 333) (args := [.inr 143, .inl ((S.2 (i + Int32.ofInt 1).toNatClampNeg) : Int32).toInt, .inl ((S.2 (i + Int32.ofInt 2).toNatClampNeg) : Int32).toInt, .inl ((Int32.ofInt 1) : Int32).toInt]) (h := h1) (fun v hv => by simp only [List.mem_cons, List.not_mem_nil, or_false] at hv; rcases hv with rfl | rfl | rfl | rfl <;> first | trivial | exact wiI _) hL2 (fun mem hr => f_333 hr (fun r m' a b => ⟨a, b⟩))
      simp only [List.map_cons, List.map_nil, wv, Int32.ofInt_toInt] at hcall15
      refine p_call_mk (av := [.ref 143, .int (S.2 (i + Int32.ofInt 1).toNatClampNeg), .int (S.2 (i + Int32.ofInt 2).toNatClampNeg), .int (Int32.ofInt 1)]) (rest := []) mt_333 rfl (by decide) (show (c + 5) + 0 ≤ 601024 by omega) (show (s + 30) + 0 ≤ 7293033 by omega) (fun _ => ⟨143, gs14, rfl, gs14g⟩) ?_
      refine hC _ _ _ _ _ ?_ hcall15
      rintro _ h11 ⟨hL12, r13, rfl⟩
      show Vx (Ex S 24) S M_368 [] Q1 1633 (px_s1 lv 5 (.int r3)) [.int r13] h11 (c + 5) (s + 30)
      refine Vx.go hC te_368_1633 ?_
      refine ⟨by decide, ?_⟩
      have hl16 := LwS.st (j := 6) (v := .int r13) (by omega) hl4
      show Vx (Ex S 24) S M_368 [] Q1 1635 (px_s1 (px_s1 lv 5 (.int r3)) 6 (.int r13)) [] h11 (c + 5) (s + 30)
      refine Vx.go hC te_368_1635 ?_
      refine ⟨by decide, ?_⟩
      exact Nx _ _ _ _ hl16 hL12 (by omega) (by omega)
  · show Vx (Ex S 24) S M_368 [] Q1 1592 lv [.int (S.2 (i + Int32.ofInt 2).toNatClampNeg), .int (S.2 (i + Int32.ofInt 1).toNatClampNeg), .ref 0] h c s
    refine Vx.go hC te_368_1592 ?_
    refine Vx.go hC te_368_1593 ?_
    refine ⟨by decide, ?_⟩
    show Vx (Ex S 24) S M_368 [] Q1 1597 lv [.int (Int32.ofInt 1), .int (S.2 (i + Int32.ofInt 2).toNatClampNeg), .int (S.2 (i + Int32.ofInt 1).toNatClampNeg), .ref 0] h c s
    refine Vx.go hC te_368_1597 ?_
    refine ⟨_, hl.2.2.2.1, ⟨173, Or.inl rfl⟩, ?_⟩
    refine Vx.go hC te_368_1598 ?_
    refine Or.inr ⟨by decide, ?_⟩
    refine p_call_mk (av := [.ref 0, .int (S.2 (i + Int32.ofInt 1).toNatClampNeg), .int (S.2 (i + Int32.ofInt 2).toNatClampNeg), .int (Int32.ofInt 1), .ref 173]) (rest := []) mt_174 rfl (by decide) (show c + 5 ≤ 601024 by omega) (show s + 30 ≤ 7293033 by omega) (fun q => by cases q) ?_
    refine g_174 (n := 6) hL (fun r19 h17 hL18 => ?_)
    show Vx (Ex S 24) S M_368 [] Q1 1601 lv [.int r19] h17 (c + 5) (s + 30)
    refine Vx.go hC te_368_1601 ?_
    refine ⟨by decide, ?_⟩
    have hl20 := LwS.st (j := 5) (v := .int r19) (by omega) hl
    show Vx (Ex S 24) S M_368 [] Q1 1603 (px_s1 lv 5 (.int r19)) [] h17 (c + 5) (s + 30)
    refine Vx.go hC te_368_1603 ?_
    refine ⟨_, hl20.2.2.1, ⟨143, Or.inl rfl⟩, ?_⟩
    refine sc_load hC (k := 1) hl20 te_368_1604 te_368_1605 te_368_1607 te_368_1608 te_368_1609 (sc_in hS hi (by decide)) ?_
    refine sc_load hC (k := 2) hl20 te_368_1610 te_368_1611 te_368_1613 te_368_1614 te_368_1615 (sc_in hS hi (by decide)) ?_
    refine sc_load hC (k := 3) hl20 te_368_1616 te_368_1617 te_368_1619 te_368_1620 te_368_1621 (sc_in hS hi (by decide)) ?_
    refine Vx.go hC te_368_1622 ?_
    refine ⟨by decide, fun q => ?_, fun q => ?_⟩
    · show Vx (Ex S 24) S M_368 [] Q1 1629 (px_s1 lv 5 (.int r19)) [.int (S.2 (i + Int32.ofInt 2).toNatClampNeg), .int (S.2 (i + Int32.ofInt 1).toNatClampNeg), .ref 143] h17 (c + 5) (s + 30)
      refine Vx.go hC te_368_1629 ?_
      refine Vx.go hC te_368_1630 ?_
      obtain ⟨gs24, gs24g⟩ := hL18.obj (A := 143) rfl
      have hcall25 := ref_call (S := S) (n := 24) (μ := 333) (args := [.inr 143, .inl ((S.2 (i + Int32.ofInt 1).toNatClampNeg) : Int32).toInt, .inl ((S.2 (i + Int32.ofInt 2).toNatClampNeg) : Int32).toInt, .inl ((Int32.ofInt 0) : Int32).toInt]) (h := h17) (fun v hv => by simp only [List.mem_cons, List.not_mem_nil, or_false] at hv; rcases hv with rfl | rfl | rfl | rfl <;> first | trivial | exact wiI _) hL18 (fun mem hr => f_333 hr (fun r m' a b => ⟨a, b⟩))
      simp only [List.map_cons, List.map_nil, wv, Int32.ofInt_toInt] at hcall25
      refine p_call_mk (av := [.ref 143, .int (S.2 (i + Int32.ofInt 1).toNatClampNeg), .int (S.2 (i + Int32.ofInt 2).toNatClampNeg), .int (Int32.ofInt 0)]) (rest := []) mt_333 rfl (by decide) (show (c + 5) + 0 ≤ 601024 by omega) (show (s + 30) + 0 ≤ 7293033 by omega) (fun _ => ⟨143, gs24, rfl, gs24g⟩) ?_
      refine hC _ _ _ _ _ ?_ hcall25
      rintro _ h21 ⟨hL22, r23, rfl⟩
      show Vx (Ex S 24) S M_368 [] Q1 1633 (px_s1 lv 5 (.int r19)) [.int r23] h21 (c + 5) (s + 30)
      refine Vx.go hC te_368_1633 ?_
      refine ⟨by decide, ?_⟩
      have hl26 := LwS.st (j := 6) (v := .int r23) (by omega) hl20
      show Vx (Ex S 24) S M_368 [] Q1 1635 (px_s1 (px_s1 lv 5 (.int r19)) 6 (.int r23)) [] h21 (c + 5) (s + 30)
      refine Vx.go hC te_368_1635 ?_
      refine ⟨by decide, ?_⟩
      exact Nx _ _ _ _ hl26 hL22 (by omega) (by omega)
    · show Vx (Ex S 24) S M_368 [] Q1 1625 (px_s1 lv 5 (.int r19)) [.int (S.2 (i + Int32.ofInt 2).toNatClampNeg), .int (S.2 (i + Int32.ofInt 1).toNatClampNeg), .ref 143] h17 (c + 5) (s + 30)
      refine Vx.go hC te_368_1625 ?_
      refine Vx.go hC te_368_1626 ?_
      refine ⟨by decide, ?_⟩
      show Vx (Ex S 24) S M_368 [] Q1 1630 (px_s1 lv 5 (.int r19)) [.int (Int32.ofInt 1), .int (S.2 (i + Int32.ofInt 2).toNatClampNeg), .int (S.2 (i + Int32.ofInt 1).toNatClampNeg), .ref 143] h17 (c + 5) (s + 30)
      refine Vx.go hC te_368_1630 ?_
      obtain ⟨gs30, gs30g⟩ := hL18.obj (A := 143) rfl
      have hcall31 := ref_call (S := S) (n := 24) (μ := 333) (args := [.inr 143, .inl ((S.2 (i + Int32.ofInt 1).toNatClampNeg) : Int32).toInt, .inl ((S.2 (i + Int32.ofInt 2).toNatClampNeg) : Int32).toInt, .inl ((Int32.ofInt 1) : Int32).toInt]) (h := h17) (fun v hv => by simp only [List.mem_cons, List.not_mem_nil, or_false] at hv; rcases hv with rfl | rfl | rfl | rfl <;> first | trivial | exact wiI _) hL18 (fun mem hr => f_333 hr (fun r m' a b => ⟨a, b⟩))
      simp only [List.map_cons, List.map_nil, wv, Int32.ofInt_toInt] at hcall31
      refine p_call_mk (av := [.ref 143, .int (S.2 (i + Int32.ofInt 1).toNatClampNeg), .int (S.2 (i + Int32.ofInt 2).toNatClampNeg), .int (Int32.ofInt 1)]) (rest := []) mt_333 rfl (by decide) (show (c + 5) + 0 ≤ 601024 by omega) (show (s + 30) + 0 ≤ 7293033 by omega) (fun _ => ⟨143, gs30, rfl, gs30g⟩) ?_
      refine hC _ _ _ _ _ ?_ hcall31
      rintro _ h27 ⟨hL28, r29, rfl⟩
      show Vx (Ex S 24) S M_368 [] Q1 1633 (px_s1 lv 5 (.int r19)) [.int r29] h27 (c + 5) (s + 30)
      refine Vx.go hC te_368_1633 ?_
      refine ⟨by decide, ?_⟩
      have hl32 := LwS.st (j := 6) (v := .int r29) (by omega) hl20
      show Vx (Ex S 24) S M_368 [] Q1 1635 (px_s1 (px_s1 lv 5 (.int r19)) 6 (.int r29)) [] h27 (c + 5) (s + 30)
      refine Vx.go hC te_368_1635 ?_
      refine ⟨by decide, ?_⟩
      exact Nx _ _ _ _ hl32 hL28 (by omega) (by omega)
theorem lc_31 {S : Nat × (Nat → Int32)} {lv : LV} {h : PH} {c s : Nat} {i : Int32} (hS : S.1 ≤ 3072) (hl : LwS lv i) (hi : 0 ≤ i.toInt ∧ i.toInt + 5 < S.1) (hL : LI h) (hc : c + 8 ≤ 601024) (hs : s + 48 ≤ 7293033) (Nx : ∀ lv' h' c' s', LwS lv' i → LI h' → c' ≤ c + 8 → s' ≤ s + 48 → Vx (Ex S 24) S M_368 [] Q1 2327 lv' [] h' c' s') : Vx (Ex S 24) S M_368 [] Q1 1638 lv [] h c s := by
  have hC := Ex.mono S 24
  refine Vx.go hC te_368_1638 ?_
  refine ⟨_, hl.2.1, ⟨0, Or.inl rfl⟩, ?_⟩
  refine sc_load hC (k := 1) hl te_368_1639 te_368_1640 te_368_1642 te_368_1643 te_368_1644 (sc_in hS hi (by decide)) ?_
  refine Vx.go hC te_368_1645 ?_
  refine ⟨_, hl.2.2.2.1, ⟨173, Or.inl rfl⟩, ?_⟩
  refine Vx.go hC te_368_1646 ?_
  refine Or.inr ⟨by decide, ?_⟩
  refine p_call_mk (av := [.ref 0, .int (S.2 (i + Int32.ofInt 1).toNatClampNeg), .ref 173]) (rest := []) mt_177 rfl (by decide) (show c + 3 ≤ 601024 by omega) (show s + 18 ≤ 7293033 by omega) (fun q => by cases q) ?_
  refine g_177 (n := 6) hL (fun r3 h1 hL2 => ?_)
  show Vx (Ex S 24) S M_368 [] Q1 1649 lv [.int r3] h1 (c + 3) (s + 18)
  refine Vx.go hC te_368_1649 ?_
  refine ⟨by decide, ?_⟩
  have hl4 := LwS.st (j := 5) (v := .int r3) (by omega) hl
  show Vx (Ex S 24) S M_368 [] Q1 1651 (px_s1 lv 5 (.int r3)) [] h1 (c + 3) (s + 18)
  refine Vx.go hC te_368_1651 ?_
  refine ⟨_, hl4.2.2.1, ⟨143, Or.inl rfl⟩, ?_⟩
  refine sc_load hC (k := 1) hl4 te_368_1652 te_368_1653 te_368_1655 te_368_1656 te_368_1657 (sc_in hS hi (by decide)) ?_
  refine Vx.go hC te_368_1658 ?_
  obtain ⟨gs8, gs8g⟩ := hL2.obj (A := 143) rfl
  have hcall9 := ref_call (S := S) (n := 24) (μ := 337) (args := [.inr 143, .inl ((S.2 (i + Int32.ofInt 1).toNatClampNeg) : Int32).toInt]) (h := h1) (fun v hv => by simp only [List.mem_cons, List.not_mem_nil, or_false] at hv; rcases hv with rfl | rfl <;> first | trivial | exact wiI _) hL2 (fun mem hr => f_337 hr (fun r m' a b => ⟨a, b⟩))
  simp only [List.map_cons, List.map_nil, wv, Int32.ofInt_toInt] at hcall9
  refine p_call_mk (av := [.ref 143, .int (S.2 (i + Int32.ofInt 1).toNatClampNeg)]) (rest := []) mt_337 rfl (by decide) (show (c + 3) + 0 ≤ 601024 by omega) (show (s + 18) + 0 ≤ 7293033 by omega) (fun _ => ⟨143, gs8, rfl, gs8g⟩) ?_
  refine hC _ _ _ _ _ ?_ hcall9
  rintro _ h5 ⟨hL6, r7, rfl⟩
  show Vx (Ex S 24) S M_368 [] Q1 1661 (px_s1 lv 5 (.int r3)) [.int r7] h5 (c + 3) (s + 18)
  refine Vx.go hC te_368_1661 ?_
  refine ⟨by decide, ?_⟩
  have hl10 := LwS.st (j := 6) (v := .int r7) (by omega) hl4
  show Vx (Ex S 24) S M_368 [] Q1 1663 (px_s1 (px_s1 lv 5 (.int r3)) 6 (.int r7)) [] h5 (c + 3) (s + 18)
  refine Vx.go hC te_368_1663 ?_
  refine ⟨by decide, ?_⟩
  exact Nx _ _ _ _ hl10 hL6 (by omega) (by omega)
theorem lc_32 {S : Nat × (Nat → Int32)} {lv : LV} {h : PH} {c s : Nat} {i : Int32} (hS : S.1 ≤ 3072) (hl : LwS lv i) (hi : 0 ≤ i.toInt ∧ i.toInt + 5 < S.1) (hL : LI h) (hc : c + 8 ≤ 601024) (hs : s + 48 ≤ 7293033) (Nx : ∀ lv' h' c' s', LwS lv' i → LI h' → c' ≤ c + 8 → s' ≤ s + 48 → Vx (Ex S 24) S M_368 [] Q1 2327 lv' [] h' c' s') : Vx (Ex S 24) S M_368 [] Q1 1666 lv [] h c s := by
  have hC := Ex.mono S 24
  refine Vx.go hC te_368_1666 ?_
  refine ⟨_, hl.2.1, ⟨0, Or.inl rfl⟩, ?_⟩
  refine sc_load hC (k := 1) hl te_368_1667 te_368_1668 te_368_1670 te_368_1671 te_368_1672 (sc_in hS hi (by decide)) ?_
  refine sc_load hC (k := 2) hl te_368_1673 te_368_1674 te_368_1676 te_368_1677 te_368_1678 (sc_in hS hi (by decide)) ?_
  refine sc_load hC (k := 3) hl te_368_1679 te_368_1680 te_368_1682 te_368_1683 te_368_1684 (sc_in hS hi (by decide)) ?_
  refine Vx.go hC te_368_1685 ?_
  refine ⟨_, hl.2.2.2.1, ⟨173, Or.inl rfl⟩, ?_⟩
  refine Vx.go hC te_368_1686 ?_
  refine Or.inr ⟨by decide, ?_⟩
  refine p_call_mk (av := [.ref 0, .int (S.2 (i + Int32.ofInt 1).toNatClampNeg), .int (S.2 (i + Int32.ofInt 2).toNatClampNeg), .int (S.2 (i + Int32.ofInt 3).toNatClampNeg), .ref 173]) (rest := []) mt_182 rfl (by decide) (show c + 6 ≤ 601024 by omega) (show s + 36 ≤ 7293033 by omega) (fun q => by cases q) ?_
  refine g_182 (n := 6) hL (fun r3 h1 hL2 => ?_)
  show Vx (Ex S 24) S M_368 [] Q1 1689 lv [.int r3] h1 (c + 6) (s + 36)
  refine Vx.go hC te_368_1689 ?_
  refine ⟨by decide, ?_⟩
  have hl4 := LwS.st (j := 5) (v := .int r3) (by omega) hl
  show Vx (Ex S 24) S M_368 [] Q1 1691 (px_s1 lv 5 (.int r3)) [] h1 (c + 6) (s + 36)
  refine Vx.go hC te_368_1691 ?_
  refine ⟨_, hl4.2.2.1, ⟨143, Or.inl rfl⟩, ?_⟩
  refine sc_load hC (k := 1) hl4 te_368_1692 te_368_1693 te_368_1695 te_368_1696 te_368_1697 (sc_in hS hi (by decide)) ?_
  refine sc_load hC (k := 2) hl4 te_368_1698 te_368_1699 te_368_1701 te_368_1702 te_368_1703 (sc_in hS hi (by decide)) ?_
  refine sc_load hC (k := 3) hl4 te_368_1704 te_368_1705 te_368_1707 te_368_1708 te_368_1709 (sc_in hS hi (by decide)) ?_
  refine Vx.go hC te_368_1710 ?_
  obtain ⟨gs8, gs8g⟩ := hL2.obj (A := 143) rfl
  have hcall9 := ref_call (S := S) (n := 24) (μ := 342) (args := [.inr 143, .inl ((S.2 (i + Int32.ofInt 1).toNatClampNeg) : Int32).toInt, .inl ((S.2 (i + Int32.ofInt 2).toNatClampNeg) : Int32).toInt, .inl ((S.2 (i + Int32.ofInt 3).toNatClampNeg) : Int32).toInt]) (h := h1) (fun v hv => by simp only [List.mem_cons, List.not_mem_nil, or_false] at hv; rcases hv with rfl | rfl | rfl | rfl <;> first | trivial | exact wiI _) hL2 (fun mem hr => f_342 hr (fun r m' a b => ⟨a, b⟩))
  simp only [List.map_cons, List.map_nil, wv, Int32.ofInt_toInt] at hcall9
  refine p_call_mk (av := [.ref 143, .int (S.2 (i + Int32.ofInt 1).toNatClampNeg), .int (S.2 (i + Int32.ofInt 2).toNatClampNeg), .int (S.2 (i + Int32.ofInt 3).toNatClampNeg)]) (rest := []) mt_342 rfl (by decide) (show (c + 6) + 0 ≤ 601024 by omega) (show (s + 36) + 0 ≤ 7293033 by omega) (fun _ => ⟨143, gs8, rfl, gs8g⟩) ?_
  refine hC _ _ _ _ _ ?_ hcall9
  rintro _ h5 ⟨hL6, r7, rfl⟩
  show Vx (Ex S 24) S M_368 [] Q1 1713 (px_s1 lv 5 (.int r3)) [.int r7] h5 (c + 6) (s + 36)
  refine Vx.go hC te_368_1713 ?_
  refine ⟨by decide, ?_⟩
  have hl10 := LwS.st (j := 6) (v := .int r7) (by omega) hl4
  show Vx (Ex S 24) S M_368 [] Q1 1715 (px_s1 (px_s1 lv 5 (.int r3)) 6 (.int r7)) [] h5 (c + 6) (s + 36)
  refine Vx.go hC te_368_1715 ?_
  refine ⟨by decide, ?_⟩
  exact Nx _ _ _ _ hl10 hL6 (by omega) (by omega)
theorem lc_33 {S : Nat × (Nat → Int32)} {lv : LV} {h : PH} {c s : Nat} {i : Int32} (hS : S.1 ≤ 3072) (hl : LwS lv i) (hi : 0 ≤ i.toInt ∧ i.toInt + 5 < S.1) (hL : LI h) (hc : c + 8 ≤ 601024) (hs : s + 48 ≤ 7293033) (Nx : ∀ lv' h' c' s', LwS lv' i → LI h' → c' ≤ c + 8 → s' ≤ s + 48 → Vx (Ex S 24) S M_368 [] Q1 2327 lv' [] h' c' s') : Vx (Ex S 24) S M_368 [] Q1 1718 lv [] h c s := by
  have hC := Ex.mono S 24
  refine Vx.go hC te_368_1718 ?_
  refine ⟨_, hl.2.1, ⟨0, Or.inl rfl⟩, ?_⟩
  refine sc_load hC (k := 1) hl te_368_1719 te_368_1720 te_368_1722 te_368_1723 te_368_1724 (sc_in hS hi (by decide)) ?_
  refine sc_load hC (k := 2) hl te_368_1725 te_368_1726 te_368_1728 te_368_1729 te_368_1730 (sc_in hS hi (by decide)) ?_
  refine sc_load hC (k := 3) hl te_368_1731 te_368_1732 te_368_1734 te_368_1735 te_368_1736 (sc_in hS hi (by decide)) ?_
  refine sc_load hC (k := 4) hl te_368_1737 te_368_1738 te_368_1740 te_368_1741 te_368_1742 (sc_in hS hi (by decide)) ?_
  refine sc_load hC (k := 5) hl te_368_1743 te_368_1744 te_368_1746 te_368_1747 te_368_1748 (sc_in hS hi (by decide)) ?_
  refine Vx.go hC te_368_1749 ?_
  refine ⟨_, hl.2.2.2.1, ⟨173, Or.inl rfl⟩, ?_⟩
  refine Vx.go hC te_368_1750 ?_
  refine Or.inr ⟨by decide, ?_⟩
  refine p_call_mk (av := [.ref 0, .int (S.2 (i + Int32.ofInt 1).toNatClampNeg), .int (S.2 (i + Int32.ofInt 2).toNatClampNeg), .int (S.2 (i + Int32.ofInt 3).toNatClampNeg), .int (S.2 (i + Int32.ofInt 4).toNatClampNeg), .int (S.2 (i + Int32.ofInt 5).toNatClampNeg), .ref 173]) (rest := []) mt_184 rfl (by decide) (show c + 8 ≤ 601024 by omega) (show s + 48 ≤ 7293033 by omega) (fun q => by cases q) ?_
  refine g_184 (n := 6) hL (fun r3 h1 hL2 => ?_)
  show Vx (Ex S 24) S M_368 [] Q1 1753 lv [.int r3] h1 (c + 8) (s + 48)
  refine Vx.go hC te_368_1753 ?_
  refine ⟨by decide, ?_⟩
  have hl4 := LwS.st (j := 5) (v := .int r3) (by omega) hl
  show Vx (Ex S 24) S M_368 [] Q1 1755 (px_s1 lv 5 (.int r3)) [] h1 (c + 8) (s + 48)
  refine Vx.go hC te_368_1755 ?_
  refine ⟨_, hl4.2.2.1, ⟨143, Or.inl rfl⟩, ?_⟩
  refine sc_load hC (k := 1) hl4 te_368_1756 te_368_1757 te_368_1759 te_368_1760 te_368_1761 (sc_in hS hi (by decide)) ?_
  refine sc_load hC (k := 2) hl4 te_368_1762 te_368_1763 te_368_1765 te_368_1766 te_368_1767 (sc_in hS hi (by decide)) ?_
  refine sc_load hC (k := 3) hl4 te_368_1768 te_368_1769 te_368_1771 te_368_1772 te_368_1773 (sc_in hS hi (by decide)) ?_
  refine sc_load hC (k := 4) hl4 te_368_1774 te_368_1775 te_368_1777 te_368_1778 te_368_1779 (sc_in hS hi (by decide)) ?_
  refine sc_load hC (k := 5) hl4 te_368_1780 te_368_1781 te_368_1783 te_368_1784 te_368_1785 (sc_in hS hi (by decide)) ?_
  refine Vx.go hC te_368_1786 ?_
  obtain ⟨gs8, gs8g⟩ := hL2.obj (A := 143) rfl
  have hcall9 := ref_call (S := S) (n := 24) (μ := 326) (args := [.inr 143, .inl ((S.2 (i + Int32.ofInt 1).toNatClampNeg) : Int32).toInt, .inl ((S.2 (i + Int32.ofInt 2).toNatClampNeg) : Int32).toInt, .inl ((S.2 (i + Int32.ofInt 3).toNatClampNeg) : Int32).toInt, .inl ((S.2 (i + Int32.ofInt 4).toNatClampNeg) : Int32).toInt, .inl ((S.2 (i + Int32.ofInt 5).toNatClampNeg) : Int32).toInt]) (h := h1) (fun v hv => by simp only [List.mem_cons, List.not_mem_nil, or_false] at hv; rcases hv with rfl | rfl | rfl | rfl | rfl | rfl <;> first | trivial | exact wiI _) hL2 (fun mem hr => f_326 hr (fun r m' a b => ⟨a, b⟩))
  simp only [List.map_cons, List.map_nil, wv, Int32.ofInt_toInt] at hcall9
  refine p_call_mk (av := [.ref 143, .int (S.2 (i + Int32.ofInt 1).toNatClampNeg), .int (S.2 (i + Int32.ofInt 2).toNatClampNeg), .int (S.2 (i + Int32.ofInt 3).toNatClampNeg), .int (S.2 (i + Int32.ofInt 4).toNatClampNeg), .int (S.2 (i + Int32.ofInt 5).toNatClampNeg)]) (rest := []) mt_326 rfl (by decide) (show (c + 8) + 0 ≤ 601024 by omega) (show (s + 48) + 0 ≤ 7293033 by omega) (fun _ => ⟨143, gs8, rfl, gs8g⟩) ?_
  refine hC _ _ _ _ _ ?_ hcall9
  rintro _ h5 ⟨hL6, r7, rfl⟩
  show Vx (Ex S 24) S M_368 [] Q1 1789 (px_s1 lv 5 (.int r3)) [.int r7] h5 (c + 8) (s + 48)
  refine Vx.go hC te_368_1789 ?_
  refine ⟨by decide, ?_⟩
  have hl10 := LwS.st (j := 6) (v := .int r7) (by omega) hl4
  show Vx (Ex S 24) S M_368 [] Q1 1791 (px_s1 (px_s1 lv 5 (.int r3)) 6 (.int r7)) [] h5 (c + 8) (s + 48)
  refine Vx.go hC te_368_1791 ?_
  refine ⟨by decide, ?_⟩
  exact Nx _ _ _ _ hl10 hL6 (by omega) (by omega)
theorem lc_34 {S : Nat × (Nat → Int32)} {lv : LV} {h : PH} {c s : Nat} {i : Int32} (hS : S.1 ≤ 3072) (hl : LwS lv i) (hi : 0 ≤ i.toInt ∧ i.toInt + 5 < S.1) (hL : LI h) (hc : c + 8 ≤ 601024) (hs : s + 48 ≤ 7293033) (Nx : ∀ lv' h' c' s', LwS lv' i → LI h' → c' ≤ c + 8 → s' ≤ s + 48 → Vx (Ex S 24) S M_368 [] Q1 2327 lv' [] h' c' s') : Vx (Ex S 24) S M_368 [] Q1 1794 lv [] h c s := by
  have hC := Ex.mono S 24
  refine Vx.go hC te_368_1794 ?_
  refine ⟨_, hl.2.1, ⟨0, Or.inl rfl⟩, ?_⟩
  refine sc_load hC (k := 1) hl te_368_1795 te_368_1796 te_368_1798 te_368_1799 te_368_1800 (sc_in hS hi (by decide)) ?_
  refine Vx.go hC te_368_1801 ?_
  refine ⟨by decide, fun q => ?_, fun q => ?_⟩
  · show Vx (Ex S 24) S M_368 [] Q1 1808 lv [.ref 0] h c s
    refine Vx.go hC te_368_1808 ?_
    refine Vx.go hC te_368_1809 ?_
    refine ⟨_, hl.2.2.2.1, ⟨173, Or.inl rfl⟩, ?_⟩
    refine Vx.go hC te_368_1810 ?_
    refine Or.inr ⟨by decide, ?_⟩
    refine p_call_mk (av := [.ref 0, .int (Int32.ofInt 0), .ref 173]) (rest := []) mt_187 rfl (by decide) (show c + 1 ≤ 601024 by omega) (show s + 6 ≤ 7293033 by omega) (fun q => by cases q) ?_
    refine g_187 (n := 6) hL (fun r3 h1 hL2 => ?_)
    show Vx (Ex S 24) S M_368 [] Q1 1813 lv [.int r3] h1 (c + 1) (s + 6)
    refine Vx.go hC te_368_1813 ?_
    refine ⟨by decide, ?_⟩
    have hl4 := LwS.st (j := 5) (v := .int r3) (by omega) hl
    show Vx (Ex S 24) S M_368 [] Q1 1815 (px_s1 lv 5 (.int r3)) [] h1 (c + 1) (s + 6)
    refine Vx.go hC te_368_1815 ?_
    refine ⟨_, hl4.2.2.1, ⟨143, Or.inl rfl⟩, ?_⟩
    refine sc_load hC (k := 1) hl4 te_368_1816 te_368_1817 te_368_1819 te_368_1820 te_368_1821 (sc_in hS hi (by decide)) ?_
    refine Vx.go hC te_368_1822 ?_
    refine ⟨by decide, fun q => ?_, fun q => ?_⟩
    · show Vx (Ex S 24) S M_368 [] Q1 1829 (px_s1 lv 5 (.int r3)) [.ref 143] h1 (c + 1) (s + 6)
      refine Vx.go hC te_368_1829 ?_
      refine Vx.go hC te_368_1830 ?_
      obtain ⟨gs8, gs8g⟩ := hL2.obj (A := 143) rfl
      have hcall9 := ref_call (S := S) (n := 24) (μ := 343) (args := [.inr 143, .inl ((Int32.ofInt 0) : Int32).toInt]) (h := h1) (fun v hv => by simp only [List.mem_cons, List.not_mem_nil, or_false] at hv; rcases hv with rfl | rfl <;> first | trivial | exact wiI _) hL2 (fun mem hr => f_343 hr (fun r m' a b => ⟨a, b⟩))
      simp only [List.map_cons, List.map_nil, wv, Int32.ofInt_toInt] at hcall9
      refine p_call_mk (av := [.ref 143, .int (Int32.ofInt 0)]) (rest := []) mt_343 rfl (by decide) (show (c + 1) + 0 ≤ 601024 by omega) (show (s + 6) + 0 ≤ 7293033 by omega) (fun _ => ⟨143, gs8, rfl, gs8g⟩) ?_
      refine hC _ _ _ _ _ ?_ hcall9
      rintro _ h5 ⟨hL6, r7, rfl⟩
      show Vx (Ex S 24) S M_368 [] Q1 1833 (px_s1 lv 5 (.int r3)) [.int r7] h5 (c + 1) (s + 6)
      refine Vx.go hC te_368_1833 ?_
      refine ⟨by decide, ?_⟩
      have hl10 := LwS.st (j := 6) (v := .int r7) (by omega) hl4
      show Vx (Ex S 24) S M_368 [] Q1 1835 (px_s1 (px_s1 lv 5 (.int r3)) 6 (.int r7)) [] h5 (c + 1) (s + 6)
      refine Vx.go hC te_368_1835 ?_
      refine ⟨by decide, ?_⟩
      exact Nx _ _ _ _ hl10 hL6 (by omega) (by omega)
    · show Vx (Ex S 24) S M_368 [] Q1 1825 (px_s1 lv 5 (.int r3)) [.ref 143] h1 (c + 1) (s + 6)
      refine Vx.go hC te_368_1825 ?_
      refine Vx.go hC te_368_1826 ?_
      refine ⟨by decide, ?_⟩
      show Vx (Ex S 24) S M_368 [] Q1 1830 (px_s1 lv 5 (.int r3)) [.int (Int32.ofInt 1), .ref 143] h1 (c + 1) (s + 6)
      refine Vx.go hC te_368_1830 ?_
      obtain ⟨gs14, gs14g⟩ := hL2.obj (A := 143) rfl
      have hcall15 := ref_call (S := S) (n := 24) (μ := 343) (args := [.inr 143, .inl ((Int32.ofInt 1) : Int32).toInt]) (h := h1) (fun v hv => by simp only [List.mem_cons, List.not_mem_nil, or_false] at hv; rcases hv with rfl | rfl <;> first | trivial | exact wiI _) hL2 (fun mem hr => f_343 hr (fun r m' a b => ⟨a, b⟩))
      simp only [List.map_cons, List.map_nil, wv, Int32.ofInt_toInt] at hcall15
      refine p_call_mk (av := [.ref 143, .int (Int32.ofInt 1)]) (rest := []) mt_343 rfl (by decide) (show (c + 1) + 0 ≤ 601024 by omega) (show (s + 6) + 0 ≤ 7293033 by omega) (fun _ => ⟨143, gs14, rfl, gs14g⟩) ?_
      refine hC _ _ _ _ _ ?_ hcall15
      rintro _ h11 ⟨hL12, r13, rfl⟩
      show Vx (Ex S 24) S M_368 [] Q1 1833 (px_s1 lv 5 (.int r3)) [.int r13] h11 (c + 1) (s + 6)
      refine Vx.go hC te_368_1833 ?_
      refine ⟨by decide, ?_⟩
      have hl16 := LwS.st (j := 6) (v := .int r13) (by omega) hl4
      show Vx (Ex S 24) S M_368 [] Q1 1835 (px_s1 (px_s1 lv 5 (.int r3)) 6 (.int r13)) [] h11 (c + 1) (s + 6)
      refine Vx.go hC te_368_1835 ?_
      refine ⟨by decide, ?_⟩
      exact Nx _ _ _ _ hl16 hL12 (by omega) (by omega)
  · show Vx (Ex S 24) S M_368 [] Q1 1804 lv [.ref 0] h c s
    refine Vx.go hC te_368_1804 ?_
    refine Vx.go hC te_368_1805 ?_
    refine ⟨by decide, ?_⟩
    show Vx (Ex S 24) S M_368 [] Q1 1809 lv [.int (Int32.ofInt 1), .ref 0] h c s
    refine Vx.go hC te_368_1809 ?_
    refine ⟨_, hl.2.2.2.1, ⟨173, Or.inl rfl⟩, ?_⟩
    refine Vx.go hC te_368_1810 ?_
    refine Or.inr ⟨by decide, ?_⟩
    refine p_call_mk (av := [.ref 0, .int (Int32.ofInt 1), .ref 173]) (rest := []) mt_187 rfl (by decide) (show c + 1 ≤ 601024 by omega) (show s + 6 ≤ 7293033 by omega) (fun q => by cases q) ?_
    refine g_187 (n := 6) hL (fun r19 h17 hL18 => ?_)
    show Vx (Ex S 24) S M_368 [] Q1 1813 lv [.int r19] h17 (c + 1) (s + 6)
    refine Vx.go hC te_368_1813 ?_
    refine ⟨by decide, ?_⟩
    have hl20 := LwS.st (j := 5) (v := .int r19) (by omega) hl
    show Vx (Ex S 24) S M_368 [] Q1 1815 (px_s1 lv 5 (.int r19)) [] h17 (c + 1) (s + 6)
    refine Vx.go hC te_368_1815 ?_
    refine ⟨_, hl20.2.2.1, ⟨143, Or.inl rfl⟩, ?_⟩
    refine sc_load hC (k := 1) hl20 te_368_1816 te_368_1817 te_368_1819 te_368_1820 te_368_1821 (sc_in hS hi (by decide)) ?_
    refine Vx.go hC te_368_1822 ?_
    refine ⟨by decide, fun q => ?_, fun q => ?_⟩
    · show Vx (Ex S 24) S M_368 [] Q1 1829 (px_s1 lv 5 (.int r19)) [.ref 143] h17 (c + 1) (s + 6)
      refine Vx.go hC te_368_1829 ?_
      refine Vx.go hC te_368_1830 ?_
      obtain ⟨gs24, gs24g⟩ := hL18.obj (A := 143) rfl
      have hcall25 := ref_call (S := S) (n := 24) (μ := 343) (args := [.inr 143, .inl ((Int32.ofInt 0) : Int32).toInt]) (h := h17) (fun v hv => by simp only [List.mem_cons, List.not_mem_nil, or_false] at hv; rcases hv with rfl | rfl <;> first | trivial | exact wiI _) hL18 (fun mem hr => f_343 hr (fun r m' a b => ⟨a, b⟩))
      simp only [List.map_cons, List.map_nil, wv, Int32.ofInt_toInt] at hcall25
      refine p_call_mk (av := [.ref 143, .int (Int32.ofInt 0)]) (rest := []) mt_343 rfl (by decide) (show (c + 1) + 0 ≤ 601024 by omega) (show (s + 6) + 0 ≤ 7293033 by omega) (fun _ => ⟨143, gs24, rfl, gs24g⟩) ?_
      refine hC _ _ _ _ _ ?_ hcall25
      rintro _ h21 ⟨hL22, r23, rfl⟩
      show Vx (Ex S 24) S M_368 [] Q1 1833 (px_s1 lv 5 (.int r19)) [.int r23] h21 (c + 1) (s + 6)
      refine Vx.go hC te_368_1833 ?_
      refine ⟨by decide, ?_⟩
      have hl26 := LwS.st (j := 6) (v := .int r23) (by omega) hl20
      show Vx (Ex S 24) S M_368 [] Q1 1835 (px_s1 (px_s1 lv 5 (.int r19)) 6 (.int r23)) [] h21 (c + 1) (s + 6)
      refine Vx.go hC te_368_1835 ?_
      refine ⟨by decide, ?_⟩
      exact Nx _ _ _ _ hl26 hL22 (by omega) (by omega)
    · show Vx (Ex S 24) S M_368 [] Q1 1825 (px_s1 lv 5 (.int r19)) [.ref 143] h17 (c + 1) (s + 6)
      refine Vx.go hC te_368_1825 ?_
      refine Vx.go hC te_368_1826 ?_
      refine ⟨by decide, ?_⟩
      show Vx (Ex S 24) S M_368 [] Q1 1830 (px_s1 lv 5 (.int r19)) [.int (Int32.ofInt 1), .ref 143] h17 (c + 1) (s + 6)
      refine Vx.go hC te_368_1830 ?_
      obtain ⟨gs30, gs30g⟩ := hL18.obj (A := 143) rfl
      have hcall31 := ref_call (S := S) (n := 24) (μ := 343) (args := [.inr 143, .inl ((Int32.ofInt 1) : Int32).toInt]) (h := h17) (fun v hv => by simp only [List.mem_cons, List.not_mem_nil, or_false] at hv; rcases hv with rfl | rfl <;> first | trivial | exact wiI _) hL18 (fun mem hr => f_343 hr (fun r m' a b => ⟨a, b⟩))
      simp only [List.map_cons, List.map_nil, wv, Int32.ofInt_toInt] at hcall31
      refine p_call_mk (av := [.ref 143, .int (Int32.ofInt 1)]) (rest := []) mt_343 rfl (by decide) (show (c + 1) + 0 ≤ 601024 by omega) (show (s + 6) + 0 ≤ 7293033 by omega) (fun _ => ⟨143, gs30, rfl, gs30g⟩) ?_
      refine hC _ _ _ _ _ ?_ hcall31
      rintro _ h27 ⟨hL28, r29, rfl⟩
      show Vx (Ex S 24) S M_368 [] Q1 1833 (px_s1 lv 5 (.int r19)) [.int r29] h27 (c + 1) (s + 6)
      refine Vx.go hC te_368_1833 ?_
      refine ⟨by decide, ?_⟩
      have hl32 := LwS.st (j := 6) (v := .int r29) (by omega) hl20
      show Vx (Ex S 24) S M_368 [] Q1 1835 (px_s1 (px_s1 lv 5 (.int r19)) 6 (.int r29)) [] h27 (c + 1) (s + 6)
      refine Vx.go hC te_368_1835 ?_
      refine ⟨by decide, ?_⟩
      exact Nx _ _ _ _ hl32 hL28 (by omega) (by omega)
theorem lc_35 {S : Nat × (Nat → Int32)} {lv : LV} {h : PH} {c s : Nat} {i : Int32} (hS : S.1 ≤ 3072) (hl : LwS lv i) (hi : 0 ≤ i.toInt ∧ i.toInt + 5 < S.1) (hL : LI h) (hc : c + 8 ≤ 601024) (hs : s + 48 ≤ 7293033) (Nx : ∀ lv' h' c' s', LwS lv' i → LI h' → c' ≤ c + 8 → s' ≤ s + 48 → Vx (Ex S 24) S M_368 [] Q1 2327 lv' [] h' c' s') : Vx (Ex S 24) S M_368 [] Q1 1838 lv [] h c s := by
  have hC := Ex.mono S 24
  refine Vx.go hC te_368_1838 ?_
  refine ⟨_, hl.2.1, ⟨0, Or.inl rfl⟩, ?_⟩
  refine Vx.go hC te_368_1839 ?_
  refine ⟨_, hl.2.2.2.1, ⟨173, Or.inl rfl⟩, ?_⟩
  refine Vx.go hC te_368_1840 ?_
  refine Or.inr ⟨by decide, ?_⟩
  refine p_call_mk (av := [.ref 0, .ref 173]) (rest := []) mt_189 rfl (by decide) (show c + 1 ≤ 601024 by omega) (show s + 6 ≤ 7293033 by omega) (fun q => by cases q) ?_
  refine g_189 (n := 6) hL (fun r3 h1 hL2 => ?_)
  show Vx (Ex S 24) S M_368 [] Q1 1843 lv [.int r3] h1 (c + 1) (s + 6)
  refine Vx.go hC te_368_1843 ?_
  refine ⟨by decide, ?_⟩
  have hl4 := LwS.st (j := 5) (v := .int r3) (by omega) hl
  show Vx (Ex S 24) S M_368 [] Q1 1845 (px_s1 lv 5 (.int r3)) [] h1 (c + 1) (s + 6)
  refine Vx.go hC te_368_1845 ?_
  refine ⟨_, hl4.2.2.1, ⟨143, Or.inl rfl⟩, ?_⟩
  refine Vx.go hC te_368_1846 ?_
  obtain ⟨gs8, gs8g⟩ := hL2.obj (A := 143) rfl
  have hcall9 := ref_call (S := S) (n := 24) (μ := 348) (args := [.inr 143]) (h := h1) (fun v hv => by simp only [List.mem_cons, List.not_mem_nil, or_false] at hv; rw [hv]; trivial) hL2 (fun mem hr => f_348 hr (fun r m' a b => ⟨a, b⟩))
  simp only [List.map_cons, List.map_nil, wv, Int32.ofInt_toInt] at hcall9
  refine p_call_mk (av := [.ref 143]) (rest := []) mt_348 rfl (by decide) (show (c + 1) + 0 ≤ 601024 by omega) (show (s + 6) + 0 ≤ 7293033 by omega) (fun _ => ⟨143, gs8, rfl, gs8g⟩) ?_
  refine hC _ _ _ _ _ ?_ hcall9
  rintro _ h5 ⟨hL6, r7, rfl⟩
  show Vx (Ex S 24) S M_368 [] Q1 1849 (px_s1 lv 5 (.int r3)) [.int r7] h5 (c + 1) (s + 6)
  refine Vx.go hC te_368_1849 ?_
  refine ⟨by decide, ?_⟩
  have hl10 := LwS.st (j := 6) (v := .int r7) (by omega) hl4
  show Vx (Ex S 24) S M_368 [] Q1 1851 (px_s1 (px_s1 lv 5 (.int r3)) 6 (.int r7)) [] h5 (c + 1) (s + 6)
  refine Vx.go hC te_368_1851 ?_
  refine ⟨by decide, ?_⟩
  exact Nx _ _ _ _ hl10 hL6 (by omega) (by omega)
theorem lc_36 {S : Nat × (Nat → Int32)} {lv : LV} {h : PH} {c s : Nat} {i : Int32} (hS : S.1 ≤ 3072) (hl : LwS lv i) (hi : 0 ≤ i.toInt ∧ i.toInt + 5 < S.1) (hL : LI h) (hc : c + 8 ≤ 601024) (hs : s + 48 ≤ 7293033) (Nx : ∀ lv' h' c' s', LwS lv' i → LI h' → c' ≤ c + 8 → s' ≤ s + 48 → Vx (Ex S 24) S M_368 [] Q1 2327 lv' [] h' c' s') : Vx (Ex S 24) S M_368 [] Q1 1854 lv [] h c s := by
  have hC := Ex.mono S 24
  refine Vx.go hC te_368_1854 ?_
  refine ⟨_, hl.2.1, ⟨0, Or.inl rfl⟩, ?_⟩
  refine sc_load hC (k := 1) hl te_368_1855 te_368_1856 te_368_1858 te_368_1859 te_368_1860 (sc_in hS hi (by decide)) ?_
  refine Vx.go hC te_368_1861 ?_
  refine ⟨_, hl.2.2.2.1, ⟨173, Or.inl rfl⟩, ?_⟩
  refine Vx.go hC te_368_1862 ?_
  refine Or.inr ⟨by decide, ?_⟩
  refine p_call_mk (av := [.ref 0, .int (S.2 (i + Int32.ofInt 1).toNatClampNeg), .ref 173]) (rest := []) mt_191 rfl (by decide) (show c + 2 ≤ 601024 by omega) (show s + 12 ≤ 7293033 by omega) (fun q => by cases q) ?_
  refine g_191 (n := 6) hL (fun r3 h1 hL2 => ?_)
  show Vx (Ex S 24) S M_368 [] Q1 1865 lv [.int r3] h1 (c + 2) (s + 12)
  refine Vx.go hC te_368_1865 ?_
  refine ⟨by decide, ?_⟩
  have hl4 := LwS.st (j := 5) (v := .int r3) (by omega) hl
  show Vx (Ex S 24) S M_368 [] Q1 1867 (px_s1 lv 5 (.int r3)) [] h1 (c + 2) (s + 12)
  refine Vx.go hC te_368_1867 ?_
  refine ⟨_, hl4.2.2.1, ⟨143, Or.inl rfl⟩, ?_⟩
  refine sc_load hC (k := 1) hl4 te_368_1868 te_368_1869 te_368_1871 te_368_1872 te_368_1873 (sc_in hS hi (by decide)) ?_
  refine Vx.go hC te_368_1874 ?_
  obtain ⟨gs8, gs8g⟩ := hL2.obj (A := 143) rfl
  have hcall9 := ref_call (S := S) (n := 24) (μ := 349) (args := [.inr 143, .inl ((S.2 (i + Int32.ofInt 1).toNatClampNeg) : Int32).toInt]) (h := h1) (fun v hv => by simp only [List.mem_cons, List.not_mem_nil, or_false] at hv; rcases hv with rfl | rfl <;> first | trivial | exact wiI _) hL2 (fun mem hr => f_349 hr (fun r m' a b => ⟨a, b⟩))
  simp only [List.map_cons, List.map_nil, wv, Int32.ofInt_toInt] at hcall9
  refine p_call_mk (av := [.ref 143, .int (S.2 (i + Int32.ofInt 1).toNatClampNeg)]) (rest := []) mt_349 rfl (by decide) (show (c + 2) + 0 ≤ 601024 by omega) (show (s + 12) + 0 ≤ 7293033 by omega) (fun _ => ⟨143, gs8, rfl, gs8g⟩) ?_
  refine hC _ _ _ _ _ ?_ hcall9
  rintro _ h5 ⟨hL6, r7, rfl⟩
  show Vx (Ex S 24) S M_368 [] Q1 1877 (px_s1 lv 5 (.int r3)) [.int r7] h5 (c + 2) (s + 12)
  refine Vx.go hC te_368_1877 ?_
  refine ⟨by decide, ?_⟩
  have hl10 := LwS.st (j := 6) (v := .int r7) (by omega) hl4
  show Vx (Ex S 24) S M_368 [] Q1 1879 (px_s1 (px_s1 lv 5 (.int r3)) 6 (.int r7)) [] h5 (c + 2) (s + 12)
  refine Vx.go hC te_368_1879 ?_
  refine ⟨by decide, ?_⟩
  exact Nx _ _ _ _ hl10 hL6 (by omega) (by omega)
theorem lc_37 {S : Nat × (Nat → Int32)} {lv : LV} {h : PH} {c s : Nat} {i : Int32} (hS : S.1 ≤ 3072) (hl : LwS lv i) (hi : 0 ≤ i.toInt ∧ i.toInt + 5 < S.1) (hL : LI h) (hc : c + 8 ≤ 601024) (hs : s + 48 ≤ 7293033) (Nx : ∀ lv' h' c' s', LwS lv' i → LI h' → c' ≤ c + 8 → s' ≤ s + 48 → Vx (Ex S 24) S M_368 [] Q1 2327 lv' [] h' c' s') : Vx (Ex S 24) S M_368 [] Q1 1882 lv [] h c s := by
  have hC := Ex.mono S 24
  refine Vx.go hC te_368_1882 ?_
  refine ⟨_, hl.2.1, ⟨0, Or.inl rfl⟩, ?_⟩
  refine Vx.go hC te_368_1883 ?_
  refine ⟨_, hl.2.2.2.1, ⟨173, Or.inl rfl⟩, ?_⟩
  refine Vx.go hC te_368_1884 ?_
  refine Or.inr ⟨by decide, ?_⟩
  refine p_call_mk (av := [.ref 0, .ref 173]) (rest := []) mt_193 rfl (by decide) (show c + 1 ≤ 601024 by omega) (show s + 6 ≤ 7293033 by omega) (fun q => by cases q) ?_
  refine g_193 (n := 6) hL (fun r3 h1 hL2 => ?_)
  show Vx (Ex S 24) S M_368 [] Q1 1887 lv [.int r3] h1 (c + 1) (s + 6)
  refine Vx.go hC te_368_1887 ?_
  refine ⟨by decide, ?_⟩
  have hl4 := LwS.st (j := 5) (v := .int r3) (by omega) hl
  show Vx (Ex S 24) S M_368 [] Q1 1889 (px_s1 lv 5 (.int r3)) [] h1 (c + 1) (s + 6)
  refine Vx.go hC te_368_1889 ?_
  refine ⟨_, hl4.2.2.1, ⟨143, Or.inl rfl⟩, ?_⟩
  refine Vx.go hC te_368_1890 ?_
  obtain ⟨gs8, gs8g⟩ := hL2.obj (A := 143) rfl
  have hcall9 := ref_call (S := S) (n := 24) (μ := 351) (args := [.inr 143]) (h := h1) (fun v hv => by simp only [List.mem_cons, List.not_mem_nil, or_false] at hv; rw [hv]; trivial) hL2 (fun mem hr => f_351 hr (fun r m' a b => ⟨a, b⟩))
  simp only [List.map_cons, List.map_nil, wv, Int32.ofInt_toInt] at hcall9
  refine p_call_mk (av := [.ref 143]) (rest := []) mt_351 rfl (by decide) (show (c + 1) + 0 ≤ 601024 by omega) (show (s + 6) + 0 ≤ 7293033 by omega) (fun _ => ⟨143, gs8, rfl, gs8g⟩) ?_
  refine hC _ _ _ _ _ ?_ hcall9
  rintro _ h5 ⟨hL6, r7, rfl⟩
  show Vx (Ex S 24) S M_368 [] Q1 1893 (px_s1 lv 5 (.int r3)) [.int r7] h5 (c + 1) (s + 6)
  refine Vx.go hC te_368_1893 ?_
  refine ⟨by decide, ?_⟩
  have hl10 := LwS.st (j := 6) (v := .int r7) (by omega) hl4
  show Vx (Ex S 24) S M_368 [] Q1 1895 (px_s1 (px_s1 lv 5 (.int r3)) 6 (.int r7)) [] h5 (c + 1) (s + 6)
  refine Vx.go hC te_368_1895 ?_
  refine ⟨by decide, ?_⟩
  exact Nx _ _ _ _ hl10 hL6 (by omega) (by omega)
theorem lc_38 {S : Nat × (Nat → Int32)} {lv : LV} {h : PH} {c s : Nat} {i : Int32} (hS : S.1 ≤ 3072) (hl : LwS lv i) (hi : 0 ≤ i.toInt ∧ i.toInt + 5 < S.1) (hL : LI h) (hc : c + 8 ≤ 601024) (hs : s + 48 ≤ 7293033) (Nx : ∀ lv' h' c' s', LwS lv' i → LI h' → c' ≤ c + 8 → s' ≤ s + 48 → Vx (Ex S 24) S M_368 [] Q1 2327 lv' [] h' c' s') : Vx (Ex S 24) S M_368 [] Q1 1898 lv [] h c s := by
  have hC := Ex.mono S 24
  refine Vx.go hC te_368_1898 ?_
  refine ⟨_, hl.2.1, ⟨0, Or.inl rfl⟩, ?_⟩
  refine sc_load hC (k := 1) hl te_368_1899 te_368_1900 te_368_1902 te_368_1903 te_368_1904 (sc_in hS hi (by decide)) ?_
  refine Vx.go hC te_368_1905 ?_
  refine ⟨_, hl.2.2.2.1, ⟨173, Or.inl rfl⟩, ?_⟩
  refine Vx.go hC te_368_1906 ?_
  refine Or.inr ⟨by decide, ?_⟩
  refine p_call_mk (av := [.ref 0, .int (S.2 (i + Int32.ofInt 1).toNatClampNeg), .ref 173]) (rest := []) mt_195 rfl (by decide) (show c + 3 ≤ 601024 by omega) (show s + 18 ≤ 7293033 by omega) (fun q => by cases q) ?_
  refine g_195 (n := 6) hL (fun r3 h1 hL2 => ?_)
  show Vx (Ex S 24) S M_368 [] Q1 1909 lv [.int r3] h1 (c + 3) (s + 18)
  refine Vx.go hC te_368_1909 ?_
  refine ⟨by decide, ?_⟩
  have hl4 := LwS.st (j := 5) (v := .int r3) (by omega) hl
  show Vx (Ex S 24) S M_368 [] Q1 1911 (px_s1 lv 5 (.int r3)) [] h1 (c + 3) (s + 18)
  refine Vx.go hC te_368_1911 ?_
  refine ⟨_, hl4.2.2.1, ⟨143, Or.inl rfl⟩, ?_⟩
  refine sc_load hC (k := 1) hl4 te_368_1912 te_368_1913 te_368_1915 te_368_1916 te_368_1917 (sc_in hS hi (by decide)) ?_
  refine Vx.go hC te_368_1918 ?_
  obtain ⟨gs8, gs8g⟩ := hL2.obj (A := 143) rfl
  have hcall9 := ref_call (S := S) (n := 24) (μ := 352) (args := [.inr 143, .inl ((S.2 (i + Int32.ofInt 1).toNatClampNeg) : Int32).toInt]) (h := h1) (fun v hv => by simp only [List.mem_cons, List.not_mem_nil, or_false] at hv; rcases hv with rfl | rfl <;> first | trivial | exact wiI _) hL2 (fun mem hr => f_352 hr (fun r m' a b => ⟨a, b⟩))
  simp only [List.map_cons, List.map_nil, wv, Int32.ofInt_toInt] at hcall9
  refine p_call_mk (av := [.ref 143, .int (S.2 (i + Int32.ofInt 1).toNatClampNeg)]) (rest := []) mt_352 rfl (by decide) (show (c + 3) + 0 ≤ 601024 by omega) (show (s + 18) + 0 ≤ 7293033 by omega) (fun _ => ⟨143, gs8, rfl, gs8g⟩) ?_
  refine hC _ _ _ _ _ ?_ hcall9
  rintro _ h5 ⟨hL6, r7, rfl⟩
  show Vx (Ex S 24) S M_368 [] Q1 1921 (px_s1 lv 5 (.int r3)) [.int r7] h5 (c + 3) (s + 18)
  refine Vx.go hC te_368_1921 ?_
  refine ⟨by decide, ?_⟩
  have hl10 := LwS.st (j := 6) (v := .int r7) (by omega) hl4
  show Vx (Ex S 24) S M_368 [] Q1 1923 (px_s1 (px_s1 lv 5 (.int r3)) 6 (.int r7)) [] h5 (c + 3) (s + 18)
  refine Vx.go hC te_368_1923 ?_
  refine ⟨by decide, ?_⟩
  exact Nx _ _ _ _ hl10 hL6 (by omega) (by omega)
theorem lc_39 {S : Nat × (Nat → Int32)} {lv : LV} {h : PH} {c s : Nat} {i : Int32} (hS : S.1 ≤ 3072) (hl : LwS lv i) (hi : 0 ≤ i.toInt ∧ i.toInt + 5 < S.1) (hL : LI h) (hc : c + 8 ≤ 601024) (hs : s + 48 ≤ 7293033) (Nx : ∀ lv' h' c' s', LwS lv' i → LI h' → c' ≤ c + 8 → s' ≤ s + 48 → Vx (Ex S 24) S M_368 [] Q1 2327 lv' [] h' c' s') : Vx (Ex S 24) S M_368 [] Q1 1926 lv [] h c s := by
  have hC := Ex.mono S 24
  refine Vx.go hC te_368_1926 ?_
  refine ⟨_, hl.2.1, ⟨0, Or.inl rfl⟩, ?_⟩
  refine sc_load hC (k := 1) hl te_368_1927 te_368_1928 te_368_1930 te_368_1931 te_368_1932 (sc_in hS hi (by decide)) ?_
  refine Vx.go hC te_368_1933 ?_
  refine ⟨_, hl.2.2.2.1, ⟨173, Or.inl rfl⟩, ?_⟩
  refine Vx.go hC te_368_1934 ?_
  refine Or.inr ⟨by decide, ?_⟩
  refine p_call_mk (av := [.ref 0, .int (S.2 (i + Int32.ofInt 1).toNatClampNeg), .ref 173]) (rest := []) mt_197 rfl (by decide) (show c + 2 ≤ 601024 by omega) (show s + 12 ≤ 7293033 by omega) (fun q => by cases q) ?_
  refine g_197 (n := 6) hL (fun r3 h1 hL2 => ?_)
  show Vx (Ex S 24) S M_368 [] Q1 1937 lv [.int r3] h1 (c + 2) (s + 12)
  refine Vx.go hC te_368_1937 ?_
  refine ⟨by decide, ?_⟩
  have hl4 := LwS.st (j := 5) (v := .int r3) (by omega) hl
  show Vx (Ex S 24) S M_368 [] Q1 1939 (px_s1 lv 5 (.int r3)) [] h1 (c + 2) (s + 12)
  refine Vx.go hC te_368_1939 ?_
  refine ⟨_, hl4.2.2.1, ⟨143, Or.inl rfl⟩, ?_⟩
  refine sc_load hC (k := 1) hl4 te_368_1940 te_368_1941 te_368_1943 te_368_1944 te_368_1945 (sc_in hS hi (by decide)) ?_
  refine Vx.go hC te_368_1946 ?_
  obtain ⟨gs8, gs8g⟩ := hL2.obj (A := 143) rfl
  have hcall9 := ref_call (S := S) (n := 24) (μ := 355) (args := [.inr 143, .inl ((S.2 (i + Int32.ofInt 1).toNatClampNeg) : Int32).toInt]) (h := h1) (fun v hv => by simp only [List.mem_cons, List.not_mem_nil, or_false] at hv; rcases hv with rfl | rfl <;> first | trivial | exact wiI _) hL2 (fun mem hr => f_355 hr (fun r m' a b => ⟨a, b⟩))
  simp only [List.map_cons, List.map_nil, wv, Int32.ofInt_toInt] at hcall9
  refine p_call_mk (av := [.ref 143, .int (S.2 (i + Int32.ofInt 1).toNatClampNeg)]) (rest := []) mt_355 rfl (by decide) (show (c + 2) + 0 ≤ 601024 by omega) (show (s + 12) + 0 ≤ 7293033 by omega) (fun _ => ⟨143, gs8, rfl, gs8g⟩) ?_
  refine hC _ _ _ _ _ ?_ hcall9
  rintro _ h5 ⟨hL6, r7, rfl⟩
  show Vx (Ex S 24) S M_368 [] Q1 1949 (px_s1 lv 5 (.int r3)) [.int r7] h5 (c + 2) (s + 12)
  refine Vx.go hC te_368_1949 ?_
  refine ⟨by decide, ?_⟩
  have hl10 := LwS.st (j := 6) (v := .int r7) (by omega) hl4
  show Vx (Ex S 24) S M_368 [] Q1 1951 (px_s1 (px_s1 lv 5 (.int r3)) 6 (.int r7)) [] h5 (c + 2) (s + 12)
  refine Vx.go hC te_368_1951 ?_
  refine ⟨by decide, ?_⟩
  exact Nx _ _ _ _ hl10 hL6 (by omega) (by omega)
