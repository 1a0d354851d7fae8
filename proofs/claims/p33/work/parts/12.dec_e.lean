theorem dL_isTold_1363 : decode cL_isTold 1363 = .ok (.iload 16, 2) := by decide +kernel
theorem dL_isTold_1365 : decode cL_isTold 1365 = .ok (.ifCond .eq 27, 3) := by decide +kernel
theorem dL_isTold_1368 : decode cL_isTold 1368 = .ok (.aload_n 2, 1) := by decide +kernel
theorem dL_isTold_1369 : decode cL_isTold 1369 = .ok (.iload 15, 2) := by decide +kernel
theorem dL_isTold_1371 : decode cL_isTold 1371 = .ok (.iaload, 1) := by decide +kernel
theorem dL_isTold_1372 : decode cL_isTold 1372 = .ok (.sipush 128, 3) := by decide +kernel
theorem dL_isTold_1375 : decode cL_isTold 1375 = .ok (.irem, 1) := by decide +kernel
theorem dL_isTold_1376 : decode cL_isTold 1376 = .ok (.aload_n 2, 1) := by decide +kernel
theorem dL_isTold_1377 : decode cL_isTold 1377 = .ok (.iload 15, 2) := by decide +kernel
theorem dL_isTold_1379 : decode cL_isTold 1379 = .ok (.iaload, 1) := by decide +kernel
theorem dL_isTold_1380 : decode cL_isTold 1380 = .ok (.sipush 128, 3) := by decide +kernel
theorem dL_isTold_1383 : decode cL_isTold 1383 = .ok (.idiv, 1) := by decide +kernel
theorem dL_isTold_1384 : decode cL_isTold 1384 = .ok (.sipush 128, 3) := by decide +kernel
theorem dL_isTold_1387 : decode cL_isTold 1387 = .ok (.irem, 1) := by decide +kernel
theorem dL_isTold_1388 : decode cL_isTold 1388 = .ok (.isub, 1) := by decide +kernel
theorem dL_isTold_1389 : decode cL_isTold 1389 = .ok (.goto 4, 3) := by decide +kernel
theorem dL_isTold_1392 : decode cL_isTold 1392 = .ok (.iconst 0, 1) := by decide +kernel
theorem dL_isTold_1393 : decode cL_isTold 1393 = .ok (.istore 18, 2) := by decide +kernel
theorem dL_isTold_1395 : decode cL_isTold 1395 = .ok (.iload 17, 2) := by decide +kernel
theorem dL_isTold_1397 : decode cL_isTold 1397 = .ok (.ifCond .eq 35, 3) := by decide +kernel
theorem dL_isTold_1400 : decode cL_isTold 1400 = .ok (.bipush 100, 2) := by decide +kernel
theorem dL_isTold_1402 : decode cL_isTold 1402 = .ok (.iload 18, 2) := by decide +kernel
theorem dL_isTold_1404 : decode cL_isTold 1404 = .ok (.imul, 1) := by decide +kernel
theorem dL_isTold_1405 : decode cL_isTold 1405 = .ok (.iconst 3, 1) := by decide +kernel
theorem dL_isTold_1406 : decode cL_isTold 1406 = .ok (.aload_n 2, 1) := by decide +kernel
theorem dL_isTold_1407 : decode cL_isTold 1407 = .ok (.iload 15, 2) := by decide +kernel
theorem dL_isTold_1409 : decode cL_isTold 1409 = .ok (.iaload, 1) := by decide +kernel
theorem dL_isTold_1410 : decode cL_isTold 1410 = .ok (.sipush 128, 3) := by decide +kernel
theorem dL_isTold_1413 : decode cL_isTold 1413 = .ok (.irem, 1) := by decide +kernel
theorem dL_isTold_1414 : decode cL_isTold 1414 = .ok (.imul, 1) := by decide +kernel
theorem dL_isTold_1415 : decode cL_isTold 1415 = .ok (.if_icmp .le 17, 3) := by decide +kernel
theorem dL_isTold_1418 : decode cL_isTold 1418 = .ok (.iload 18, 2) := by decide +kernel
theorem dL_isTold_1420 : decode cL_isTold 1420 = .ok (.aload 4, 2) := by decide +kernel
theorem dL_isTold_1422 : decode cL_isTold 1422 = .ok (.iload 15, 2) := by decide +kernel
theorem dL_isTold_1424 : decode cL_isTold 1424 = .ok (.iaload, 1) := by decide +kernel
theorem dL_isTold_1425 : decode cL_isTold 1425 = .ok (.bipush 16, 2) := by decide +kernel
theorem dL_isTold_1427 : decode cL_isTold 1427 = .ok (.idiv, 1) := by decide +kernel
theorem dL_isTold_1428 : decode cL_isTold 1428 = .ok (.imul, 1) := by decide +kernel
theorem dL_isTold_1429 : decode cL_isTold 1429 = .ok (.goto 4, 3) := by decide +kernel
theorem dL_isTold_1432 : decode cL_isTold 1432 = .ok (.iconst 0, 1) := by decide +kernel
theorem dL_isTold_1433 : decode cL_isTold 1433 = .ok (.istore 19, 2) := by decide +kernel
theorem dL_isTold_1435 : decode cL_isTold 1435 = .ok (.iload 17, 2) := by decide +kernel
theorem dL_isTold_1437 : decode cL_isTold 1437 = .ok (.ifCond .eq 43, 3) := by decide +kernel
theorem dL_isTold_1440 : decode cL_isTold 1440 = .ok (.aload_n 1, 1) := by decide +kernel
theorem dL_isTold_1441 : decode cL_isTold 1441 = .ok (.iload 15, 2) := by decide +kernel
theorem dL_isTold_1443 : decode cL_isTold 1443 = .ok (.dup2, 1) := by decide +kernel
theorem dL_isTold_1444 : decode cL_isTold 1444 = .ok (.iaload, 1) := by decide +kernel
theorem dL_isTold_1445 : decode cL_isTold 1445 = .ok (.ldc 194, 2) := by decide +kernel
theorem dL_isTold_1447 : decode cL_isTold 1447 = .ok (.iadd, 1) := by decide +kernel
theorem dL_isTold_1448 : decode cL_isTold 1448 = .ok (.iastore, 1) := by decide +kernel
theorem dL_isTold_1449 : decode cL_isTold 1449 = .ok (.aload 6, 2) := by decide +kernel
theorem dL_isTold_1451 : decode cL_isTold 1451 = .ok (.bipush 40, 2) := by decide +kernel
theorem dL_isTold_1453 : decode cL_isTold 1453 = .ok (.iload 12, 2) := by decide +kernel
theorem dL_isTold_1455 : decode cL_isTold 1455 = .ok (.iadd, 1) := by decide +kernel
theorem dL_isTold_1456 : decode cL_isTold 1456 = .ok (.dup2, 1) := by decide +kernel
theorem dL_isTold_1457 : decode cL_isTold 1457 = .ok (.iaload, 1) := by decide +kernel
theorem dL_isTold_1458 : decode cL_isTold 1458 = .ok (.iload 19, 2) := by decide +kernel
theorem dL_isTold_1460 : decode cL_isTold 1460 = .ok (.isub, 1) := by decide +kernel
theorem dL_isTold_1461 : decode cL_isTold 1461 = .ok (.iastore, 1) := by decide +kernel
theorem dL_isTold_1462 : decode cL_isTold 1462 = .ok (.aload 8, 2) := by decide +kernel
theorem dL_isTold_1464 : decode cL_isTold 1464 = .ok (.bipush 16, 2) := by decide +kernel
theorem dL_isTold_1466 : decode cL_isTold 1466 = .ok (.aload_n 1, 1) := by decide +kernel
theorem dL_isTold_1467 : decode cL_isTold 1467 = .ok (.iload 15, 2) := by decide +kernel
theorem dL_isTold_1469 : decode cL_isTold 1469 = .ok (.iaload, 1) := by decide +kernel
theorem dL_isTold_1470 : decode cL_isTold 1470 = .ok (.bipush 8, 2) := by decide +kernel
theorem dL_isTold_1472 : decode cL_isTold 1472 = .ok (.irem, 1) := by decide +kernel
theorem dL_isTold_1473 : decode cL_isTold 1473 = .ok (.iadd, 1) := by decide +kernel
theorem dL_isTold_1474 : decode cL_isTold 1474 = .ok (.dup2, 1) := by decide +kernel
theorem dL_isTold_1475 : decode cL_isTold 1475 = .ok (.iaload, 1) := by decide +kernel
theorem dL_isTold_1476 : decode cL_isTold 1476 = .ok (.iload 19, 2) := by decide +kernel
theorem dL_isTold_1478 : decode cL_isTold 1478 = .ok (.isub, 1) := by decide +kernel
theorem dL_isTold_1479 : decode cL_isTold 1479 = .ok (.iastore, 1) := by decide +kernel
theorem dL_isTold_1480 : decode cL_isTold 1480 = .ok (.aload_n 0, 1) := by decide +kernel
theorem dL_isTold_1481 : decode cL_isTold 1481 = .ok (.bipush 14, 2) := by decide +kernel
theorem dL_isTold_1483 : decode cL_isTold 1483 = .ok (.iload 12, 2) := by decide +kernel
theorem dL_isTold_1485 : decode cL_isTold 1485 = .ok (.iload 15, 2) := by decide +kernel
theorem dL_isTold_1487 : decode cL_isTold 1487 = .ok (.iconst 0, 1) := by decide +kernel
theorem dL_isTold_1488 : decode cL_isTold 1488 = .ok (.iconst 0, 1) := by decide +kernel
theorem dL_isTold_1489 : decode cL_isTold 1489 = .ok (.iconst 0, 1) := by decide +kernel
theorem dL_isTold_1490 : decode cL_isTold 1490 = .ok (.iconst 0, 1) := by decide +kernel
theorem dL_isTold_1491 : decode cL_isTold 1491 = .ok (.invokestatic 183, 3) := by decide +kernel
theorem dL_isTold_1494 : decode cL_isTold 1494 = .ok (.iload 16, 2) := by decide +kernel
theorem dL_isTold_1496 : decode cL_isTold 1496 = .ok (.ifCond .ne 8, 3) := by decide +kernel
theorem dL_isTold_1499 : decode cL_isTold 1499 = .ok (.ldc 84, 2) := by decide +kernel
theorem dL_isTold_1501 : decode cL_isTold 1501 = .ok (.goto 15, 3) := by decide +kernel
theorem dL_isTold_1504 : decode cL_isTold 1504 = .ok (.iload 17, 2) := by decide +kernel
theorem dL_isTold_1506 : decode cL_isTold 1506 = .ok (.ifCond .eq 8, 3) := by decide +kernel
theorem dL_isTold_1509 : decode cL_isTold 1509 = .ok (.iload 19, 2) := by decide +kernel
theorem dL_isTold_1511 : decode cL_isTold 1511 = .ok (.goto 5, 3) := by decide +kernel
theorem dL_isTold_1514 : decode cL_isTold 1514 = .ok (.ldc 90, 2) := by decide +kernel
theorem dL_isTold_1516 : decode cL_isTold 1516 = .ok (.if_icmp .ne 7, 3) := by decide +kernel
theorem dL_isTold_1519 : decode cL_isTold 1519 = .ok (.iconst 1, 1) := by decide +kernel
theorem dL_isTold_1520 : decode cL_isTold 1520 = .ok (.goto 4, 3) := by decide +kernel
theorem dL_isTold_1523 : decode cL_isTold 1523 = .ok (.iconst 0, 1) := by decide +kernel
theorem dL_isTold_1524 : decode cL_isTold 1524 = .ok (.ireturn, 1) := by decide +kernel
theorem dL_isTold_1525 : decode cL_isTold 1525 = .ok (.iload 11, 2) := by decide +kernel
theorem dL_isTold_1527 : decode cL_isTold 1527 = .ok (.iconst 3, 1) := by decide +kernel
theorem dL_isTold_1528 : decode cL_isTold 1528 = .ok (.irem, 1) := by decide +kernel
theorem dL_isTold_1529 : decode cL_isTold 1529 = .ok (.ifCond .ne 12, 3) := by decide +kernel
theorem dL_isTold_1532 : decode cL_isTold 1532 = .ok (.iload 11, 2) := by decide +kernel
theorem dL_isTold_1534 : decode cL_isTold 1534 = .ok (.sipush 167, 3) := by decide +kernel
theorem dL_isTold_1537 : decode cL_isTold 1537 = .ok (.imul, 1) := by decide +kernel
theorem dL_isTold_1538 : decode cL_isTold 1538 = .ok (.goto 9, 3) := by decide +kernel
theorem dL_isTold_1541 : decode cL_isTold 1541 = .ok (.iload 11, 2) := by decide +kernel
theorem dL_isTold_1543 : decode cL_isTold 1543 = .ok (.sipush 3000, 3) := by decide +kernel
theorem dL_isTold_1546 : decode cL_isTold 1546 = .ok (.irem, 1) := by decide +kernel
theorem dL_isTold_1547 : decode cL_isTold 1547 = .ok (.istore 15, 2) := by decide +kernel
theorem dL_isTold_1549 : decode cL_isTold 1549 = .ok (.iload 10, 2) := by decide +kernel
theorem dL_isTold_1551 : decode cL_isTold 1551 = .ok (.bipush 9, 2) := by decide +kernel
theorem dL_isTold_1553 : decode cL_isTold 1553 = .ok (.idiv, 1) := by decide +kernel
theorem dL_isTold_1554 : decode cL_isTold 1554 = .ok (.bipush 102, 2) := by decide +kernel
theorem dL_isTold_1556 : decode cL_isTold 1556 = .ok (.irem, 1) := by decide +kernel
theorem dL_isTold_1557 : decode cL_isTold 1557 = .ok (.istore 16, 2) := by decide +kernel
theorem dL_isTold_1559 : decode cL_isTold 1559 = .ok (.iload 15, 2) := by decide +kernel
theorem dL_isTold_1561 : decode cL_isTold 1561 = .ok (.ldc 198, 2) := by decide +kernel
theorem dL_isTold_1563 : decode cL_isTold 1563 = .ok (.if_icmp .ge 14, 3) := by decide +kernel
theorem dL_isTold_1566 : decode cL_isTold 1566 = .ok (.iload 16, 2) := by decide +kernel
theorem dL_isTold_1568 : decode cL_isTold 1568 = .ok (.bipush 101, 2) := by decide +kernel
theorem dL_isTold_1570 : decode cL_isTold 1570 = .ok (.if_icmp .ge 7, 3) := by decide +kernel
theorem dL_isTold_1573 : decode cL_isTold 1573 = .ok (.iconst 1, 1) := by decide +kernel
theorem dL_isTold_1574 : decode cL_isTold 1574 = .ok (.goto 4, 3) := by decide +kernel
theorem dL_isTold_1577 : decode cL_isTold 1577 = .ok (.iconst 0, 1) := by decide +kernel
theorem dL_isTold_1578 : decode cL_isTold 1578 = .ok (.istore 17, 2) := by decide +kernel
theorem dL_isTold_1580 : decode cL_isTold 1580 = .ok (.iconst 0, 1) := by decide +kernel
theorem dL_isTold_1581 : decode cL_isTold 1581 = .ok (.istore 18, 2) := by decide +kernel
theorem dL_isTold_1583 : decode cL_isTold 1583 = .ok (.iload 13, 2) := by decide +kernel
theorem dL_isTold_1585 : decode cL_isTold 1585 = .ok (.ifCond .eq 82, 3) := by decide +kernel
theorem dL_isTold_1588 : decode cL_isTold 1588 = .ok (.iload 17, 2) := by decide +kernel
theorem dL_isTold_1590 : decode cL_isTold 1590 = .ok (.ifCond .eq 77, 3) := by decide +kernel
theorem dL_isTold_1593 : decode cL_isTold 1593 = .ok (.aload 8, 2) := by decide +kernel
theorem dL_isTold_1595 : decode cL_isTold 1595 = .ok (.bipush 16, 2) := by decide +kernel
theorem dL_isTold_1597 : decode cL_isTold 1597 = .ok (.iload 12, 2) := by decide +kernel
theorem dL_isTold_1599 : decode cL_isTold 1599 = .ok (.iadd, 1) := by decide +kernel
theorem dL_isTold_1600 : decode cL_isTold 1600 = .ok (.iaload, 1) := by decide +kernel
theorem dL_isTold_1601 : decode cL_isTold 1601 = .ok (.i2l, 1) := by decide +kernel
theorem dL_isTold_1602 : decode cL_isTold 1602 = .ok (.lstore 19, 2) := by decide +kernel
theorem dL_isTold_1604 : decode cL_isTold 1604 = .ok (.lload 19, 2) := by decide +kernel
theorem dL_isTold_1606 : decode cL_isTold 1606 = .ok (.iload 15, 2) := by decide +kernel
theorem dL_isTold_1608 : decode cL_isTold 1608 = .ok (.i2l, 1) := by decide +kernel
theorem dL_isTold_1609 : decode cL_isTold 1609 = .ok (.lsub, 1) := by decide +kernel
theorem dL_isTold_1610 : decode cL_isTold 1610 = .ok (.lload 19, 2) := by decide +kernel
theorem dL_isTold_1612 : decode cL_isTold 1612 = .ok (.lconst 0, 1) := by decide +kernel
theorem dL_isTold_1613 : decode cL_isTold 1613 = .ok (.lcmp, 1) := by decide +kernel
theorem dL_isTold_1614 : decode cL_isTold 1614 = .ok (.ifCond .le 16, 3) := by decide +kernel
theorem dL_isTold_1617 : decode cL_isTold 1617 = .ok (.lload 19, 2) := by decide +kernel
theorem dL_isTold_1619 : decode cL_isTold 1619 = .ok (.ldc2_w 199, 3) := by decide +kernel
theorem dL_isTold_1622 : decode cL_isTold 1622 = .ok (.lmul, 1) := by decide +kernel
theorem dL_isTold_1623 : decode cL_isTold 1623 = .ok (.ldc2_w 201, 3) := by decide +kernel
theorem dL_isTold_1626 : decode cL_isTold 1626 = .ok (.ldiv, 1) := by decide +kernel
theorem dL_isTold_1627 : decode cL_isTold 1627 = .ok (.goto 4, 3) := by decide +kernel
theorem dL_isTold_1630 : decode cL_isTold 1630 = .ok (.lconst 0, 1) := by decide +kernel
theorem dL_isTold_1631 : decode cL_isTold 1631 = .ok (.lsub, 1) := by decide +kernel
theorem dL_isTold_1632 : decode cL_isTold 1632 = .ok (.lstore 21, 2) := by decide +kernel
theorem dL_isTold_1634 : decode cL_isTold 1634 = .ok (.lload 21, 2) := by decide +kernel
theorem dL_isTold_1636 : decode cL_isTold 1636 = .ok (.lconst 0, 1) := by decide +kernel
theorem dL_isTold_1637 : decode cL_isTold 1637 = .ok (.lcmp, 1) := by decide +kernel
theorem dL_isTold_1638 : decode cL_isTold 1638 = .ok (.ifCond .le 17, 3) := by decide +kernel
theorem dL_isTold_1641 : decode cL_isTold 1641 = .ok (.lload 21, 2) := by decide +kernel
theorem dL_isTold_1643 : decode cL_isTold 1643 = .ok (.iload 16, 2) := by decide +kernel
theorem dL_isTold_1645 : decode cL_isTold 1645 = .ok (.i2l, 1) := by decide +kernel
theorem dL_isTold_1646 : decode cL_isTold 1646 = .ok (.lmul, 1) := by decide +kernel
theorem dL_isTold_1647 : decode cL_isTold 1647 = .ok (.ldc2_w 201, 3) := by decide +kernel
theorem dL_isTold_1650 : decode cL_isTold 1650 = .ok (.ldiv, 1) := by decide +kernel
theorem dL_isTold_1651 : decode cL_isTold 1651 = .ok (.l2i, 1) := by decide +kernel
theorem dL_isTold_1652 : decode cL_isTold 1652 = .ok (.goto 4, 3) := by decide +kernel
theorem dL_isTold_1655 : decode cL_isTold 1655 = .ok (.iconst 0, 1) := by decide +kernel
theorem dL_isTold_1656 : decode cL_isTold 1656 = .ok (.istore 18, 2) := by decide +kernel
theorem dL_isTold_1658 : decode cL_isTold 1658 = .ok (.aload 8, 2) := by decide +kernel
theorem dL_isTold_1660 : decode cL_isTold 1660 = .ok (.bipush 16, 2) := by decide +kernel
theorem dL_isTold_1662 : decode cL_isTold 1662 = .ok (.iload 12, 2) := by decide +kernel
theorem dL_isTold_1664 : decode cL_isTold 1664 = .ok (.iadd, 1) := by decide +kernel
theorem dL_isTold_1665 : decode cL_isTold 1665 = .ok (.iconst 0, 1) := by decide +kernel
theorem dL_isTold_1666 : decode cL_isTold 1666 = .ok (.iastore, 1) := by decide +kernel
theorem dL_isTold_1667 : decode cL_isTold 1667 = .ok (.aload_n 0, 1) := by decide +kernel
theorem dL_isTold_1668 : decode cL_isTold 1668 = .ok (.bipush 15, 2) := by decide +kernel
theorem dL_isTold_1670 : decode cL_isTold 1670 = .ok (.iload 12, 2) := by decide +kernel
theorem dL_isTold_1672 : decode cL_isTold 1672 = .ok (.iload 15, 2) := by decide +kernel
theorem dL_isTold_1674 : decode cL_isTold 1674 = .ok (.iload 16, 2) := by decide +kernel
theorem dL_isTold_1676 : decode cL_isTold 1676 = .ok (.iconst 0, 1) := by decide +kernel
theorem dL_isTold_1677 : decode cL_isTold 1677 = .ok (.iconst 0, 1) := by decide +kernel
theorem dL_isTold_1678 : decode cL_isTold 1678 = .ok (.iconst 0, 1) := by decide +kernel
theorem dL_isTold_1679 : decode cL_isTold 1679 = .ok (.invokestatic 183, 3) := by decide +kernel
theorem dL_isTold_1682 : decode cL_isTold 1682 = .ok (.iload 13, 2) := by decide +kernel
theorem dL_isTold_1684 : decode cL_isTold 1684 = .ok (.ifCond .ne 8, 3) := by decide +kernel
theorem dL_isTold_1687 : decode cL_isTold 1687 = .ok (.ldc 84, 2) := by decide +kernel
theorem dL_isTold_1689 : decode cL_isTold 1689 = .ok (.goto 15, 3) := by decide +kernel
theorem dL_isTold_1692 : decode cL_isTold 1692 = .ok (.iload 17, 2) := by decide +kernel
theorem dL_isTold_1694 : decode cL_isTold 1694 = .ok (.ifCond .eq 8, 3) := by decide +kernel
theorem dL_isTold_1697 : decode cL_isTold 1697 = .ok (.iload 18, 2) := by decide +kernel
theorem dL_isTold_1699 : decode cL_isTold 1699 = .ok (.goto 5, 3) := by decide +kernel
theorem dL_isTold_1702 : decode cL_isTold 1702 = .ok (.ldc 87, 2) := by decide +kernel
theorem dL_isTold_1704 : decode cL_isTold 1704 = .ok (.if_icmp .ne 7, 3) := by decide +kernel
theorem dL_isTold_1707 : decode cL_isTold 1707 = .ok (.iconst 1, 1) := by decide +kernel
theorem dL_isTold_1708 : decode cL_isTold 1708 = .ok (.goto 4, 3) := by decide +kernel
theorem dL_isTold_1711 : decode cL_isTold 1711 = .ok (.iconst 0, 1) := by decide +kernel
theorem dL_isTold_1712 : decode cL_isTold 1712 = .ok (.ireturn, 1) := by decide +kernel
theorem dL_sold_0 : decode cL_sold 0 = .ok (.aload_n 0, 1) := by decide +kernel
theorem dL_sold_1 : decode cL_sold 1 = .ok (.iload_n 1, 1) := by decide +kernel
theorem dL_sold_2 : decode cL_sold 2 = .ok (.iaload, 1) := by decide +kernel
theorem dL_sold_3 : decode cL_sold 3 = .ok (.sipush 16384, 3) := by decide +kernel
theorem dL_sold_6 : decode cL_sold 6 = .ok (.idiv, 1) := by decide +kernel
theorem dL_sold_7 : decode cL_sold 7 = .ok (.ireturn, 1) := by decide +kernel
theorem dL_isSale_0 : decode cL_isSale 0 = .ok (.iload 15, 2) := by decide +kernel
theorem dL_isSale_2 : decode cL_isSale 2 = .ok (.ifCond .ne 407, 3) := by decide +kernel
theorem dL_isSale_5 : decode cL_isSale 5 = .ok (.aload 11, 2) := by decide +kernel
theorem dL_isSale_7 : decode cL_isSale 7 = .ok (.iconst 4, 1) := by decide +kernel
theorem dL_isSale_8 : decode cL_isSale 8 = .ok (.iaload, 1) := by decide +kernel
theorem dL_isSale_9 : decode cL_isSale 9 = .ok (.bipush 40, 2) := by decide +kernel
theorem dL_isSale_11 : decode cL_isSale 11 = .ok (.if_icmp .ge 398, 3) := by decide +kernel
theorem dL_isSale_14 : decode cL_isSale 14 = .ok (.iload 16, 2) := by decide +kernel
theorem dL_isSale_16 : decode cL_isSale 16 = .ok (.bipush 11, 2) := by decide +kernel
theorem dL_isSale_18 : decode cL_isSale 18 = .ok (.irem, 1) := by decide +kernel
theorem dL_isSale_19 : decode cL_isSale 19 = .ok (.bipush 10, 2) := by decide +kernel
theorem dL_isSale_21 : decode cL_isSale 21 = .ok (.if_icmp .ne 8, 3) := by decide +kernel
theorem dL_isSale_24 : decode cL_isSale 24 = .ok (.bipush 8, 2) := by decide +kernel
theorem dL_isSale_26 : decode cL_isSale 26 = .ok (.goto 7, 3) := by decide +kernel
theorem dL_isSale_29 : decode cL_isSale 29 = .ok (.iload 16, 2) := by decide +kernel
theorem dL_isSale_31 : decode cL_isSale 31 = .ok (.iconst 4, 1) := by decide +kernel
theorem dL_isSale_32 : decode cL_isSale 32 = .ok (.irem, 1) := by decide +kernel
theorem dL_isSale_33 : decode cL_isSale 33 = .ok (.istore 18, 2) := by decide +kernel
theorem dL_isSale_35 : decode cL_isSale 35 = .ok (.iload 17, 2) := by decide +kernel
theorem dL_isSale_37 : decode cL_isSale 37 = .ok (.iconst 4, 1) := by decide +kernel
theorem dL_isSale_38 : decode cL_isSale 38 = .ok (.irem, 1) := by decide +kernel
theorem dL_isSale_39 : decode cL_isSale 39 = .ok (.istore 19, 2) := by decide +kernel
theorem dL_isSale_41 : decode cL_isSale 41 = .ok (.iload 17, 2) := by decide +kernel
theorem dL_isSale_43 : decode cL_isSale 43 = .ok (.iconst 4, 1) := by decide +kernel
theorem dL_isSale_44 : decode cL_isSale 44 = .ok (.idiv, 1) := by decide +kernel
theorem dL_isSale_45 : decode cL_isSale 45 = .ok (.bipush 9, 2) := by decide +kernel
theorem dL_isSale_47 : decode cL_isSale 47 = .ok (.irem, 1) := by decide +kernel
theorem dL_isSale_48 : decode cL_isSale 48 = .ok (.ifCond .ne 7, 3) := by decide +kernel
theorem dL_isSale_51 : decode cL_isSale 51 = .ok (.iconst 3, 1) := by decide +kernel
theorem dL_isSale_52 : decode cL_isSale 52 = .ok (.goto 9, 3) := by decide +kernel
theorem dL_isSale_55 : decode cL_isSale 55 = .ok (.iload 17, 2) := by decide +kernel
theorem dL_isSale_57 : decode cL_isSale 57 = .ok (.iconst 4, 1) := by decide +kernel
theorem dL_isSale_58 : decode cL_isSale 58 = .ok (.idiv, 1) := by decide +kernel
theorem dL_isSale_59 : decode cL_isSale 59 = .ok (.iconst 3, 1) := by decide +kernel
theorem dL_isSale_60 : decode cL_isSale 60 = .ok (.irem, 1) := by decide +kernel
theorem dL_isSale_61 : decode cL_isSale 61 = .ok (.istore 20, 2) := by decide +kernel
theorem dL_isSale_63 : decode cL_isSale 63 = .ok (.iload 17, 2) := by decide +kernel
theorem dL_isSale_65 : decode cL_isSale 65 = .ok (.bipush 36, 2) := by decide +kernel
theorem dL_isSale_67 : decode cL_isSale 67 = .ok (.idiv, 1) := by decide +kernel
theorem dL_isSale_68 : decode cL_isSale 68 = .ok (.bipush 10, 2) := by decide +kernel
theorem dL_isSale_70 : decode cL_isSale 70 = .ok (.irem, 1) := by decide +kernel
theorem dL_isSale_71 : decode cL_isSale 71 = .ok (.ifCond .ne 13, 3) := by decide +kernel
theorem dL_isSale_74 : decode cL_isSale 74 = .ok (.bipush 10, 2) := by decide +kernel
theorem dL_isSale_76 : decode cL_isSale 76 = .ok (.iload 16, 2) := by decide +kernel
theorem dL_isSale_78 : decode cL_isSale 78 = .ok (.iconst 2, 1) := by decide +kernel
theorem dL_isSale_79 : decode cL_isSale 79 = .ok (.irem, 1) := by decide +kernel
theorem dL_isSale_80 : decode cL_isSale 80 = .ok (.imul, 1) := by decide +kernel
theorem dL_isSale_81 : decode cL_isSale 81 = .ok (.goto 12, 3) := by decide +kernel
theorem dL_isSale_84 : decode cL_isSale 84 = .ok (.iconst 1, 1) := by decide +kernel
theorem dL_isSale_85 : decode cL_isSale 85 = .ok (.iload 17, 2) := by decide +kernel
theorem dL_isSale_87 : decode cL_isSale 87 = .ok (.bipush 36, 2) := by decide +kernel
theorem dL_isSale_89 : decode cL_isSale 89 = .ok (.idiv, 1) := by decide +kernel
theorem dL_isSale_90 : decode cL_isSale 90 = .ok (.iconst 3, 1) := by decide +kernel
theorem dL_isSale_91 : decode cL_isSale 91 = .ok (.irem, 1) := by decide +kernel
theorem dL_isSale_92 : decode cL_isSale 92 = .ok (.iadd, 1) := by decide +kernel
theorem dL_isSale_93 : decode cL_isSale 93 = .ok (.istore 21, 2) := by decide +kernel
theorem dL_isSale_95 : decode cL_isSale 95 = .ok (.iload 16, 2) := by decide +kernel
theorem dL_isSale_97 : decode cL_isSale 97 = .ok (.bipush 11, 2) := by decide +kernel
theorem dL_isSale_99 : decode cL_isSale 99 = .ok (.idiv, 1) := by decide +kernel
theorem dL_isSale_100 : decode cL_isSale 100 = .ok (.bipush 12, 2) := by decide +kernel
theorem dL_isSale_102 : decode cL_isSale 102 = .ok (.irem, 1) := by decide +kernel
theorem dL_isSale_103 : decode cL_isSale 103 = .ok (.ifCond .ne 15, 3) := by decide +kernel
theorem dL_isSale_106 : decode cL_isSale 106 = .ok (.iload 16, 2) := by decide +kernel
theorem dL_isSale_108 : decode cL_isSale 108 = .ok (.sipush 132, 3) := by decide +kernel
theorem dL_isSale_111 : decode cL_isSale 111 = .ok (.idiv, 1) := by decide +kernel
theorem dL_isSale_112 : decode cL_isSale 112 = .ok (.bipush 102, 2) := by decide +kernel
theorem dL_isSale_114 : decode cL_isSale 114 = .ok (.irem, 1) := by decide +kernel
theorem dL_isSale_115 : decode cL_isSale 115 = .ok (.goto 13, 3) := by decide +kernel
theorem dL_isSale_118 : decode cL_isSale 118 = .ok (.iconst 5, 1) := by decide +kernel
theorem dL_isSale_119 : decode cL_isSale 119 = .ok (.iload 16, 2) := by decide +kernel
theorem dL_isSale_121 : decode cL_isSale 121 = .ok (.bipush 11, 2) := by decide +kernel
theorem dL_isSale_123 : decode cL_isSale 123 = .ok (.idiv, 1) := by decide +kernel
theorem dL_isSale_124 : decode cL_isSale 124 = .ok (.bipush 30, 2) := by decide +kernel
theorem dL_isSale_126 : decode cL_isSale 126 = .ok (.irem, 1) := by decide +kernel
theorem dL_isSale_127 : decode cL_isSale 127 = .ok (.iadd, 1) := by decide +kernel
theorem dL_isSale_128 : decode cL_isSale 128 = .ok (.istore 22, 2) := by decide +kernel
theorem dL_isSale_130 : decode cL_isSale 130 = .ok (.iload 22, 2) := by decide +kernel
theorem dL_isSale_132 : decode cL_isSale 132 = .ok (.iload 16, 2) := by decide +kernel
theorem dL_isSale_134 : decode cL_isSale 134 = .ok (.sipush 396, 3) := by decide +kernel
theorem dL_isSale_137 : decode cL_isSale 137 = .ok (.idiv, 1) := by decide +kernel
theorem dL_isSale_138 : decode cL_isSale 138 = .ok (.iconst 3, 1) := by decide +kernel
theorem dL_isSale_139 : decode cL_isSale 139 = .ok (.irem, 1) := by decide +kernel
theorem dL_isSale_140 : decode cL_isSale 140 = .ok (.isub, 1) := by decide +kernel
theorem dL_isSale_141 : decode cL_isSale 141 = .ok (.iconst 1, 1) := by decide +kernel
theorem dL_isSale_142 : decode cL_isSale 142 = .ok (.if_icmp .lt 10, 3) := by decide +kernel
theorem dL_isSale_145 : decode cL_isSale 145 = .ok (.iload 22, 2) := by decide +kernel
theorem dL_isSale_147 : decode cL_isSale 147 = .ok (.bipush 100, 2) := by decide +kernel
theorem dL_isSale_149 : decode cL_isSale 149 = .ok (.if_icmp .le 7, 3) := by decide +kernel
theorem dL_isSale_152 : decode cL_isSale 152 = .ok (.iconst 1, 1) := by decide +kernel
theorem dL_isSale_153 : decode cL_isSale 153 = .ok (.goto 14, 3) := by decide +kernel
theorem dL_isSale_156 : decode cL_isSale 156 = .ok (.iload 22, 2) := by decide +kernel
theorem dL_isSale_158 : decode cL_isSale 158 = .ok (.iload 16, 2) := by decide +kernel
theorem dL_isSale_160 : decode cL_isSale 160 = .ok (.sipush 396, 3) := by decide +kernel
theorem dL_isSale_163 : decode cL_isSale 163 = .ok (.idiv, 1) := by decide +kernel
theorem dL_isSale_164 : decode cL_isSale 164 = .ok (.iconst 3, 1) := by decide +kernel
theorem dL_isSale_165 : decode cL_isSale 165 = .ok (.irem, 1) := by decide +kernel
theorem dL_isSale_166 : decode cL_isSale 166 = .ok (.isub, 1) := by decide +kernel
theorem dL_isSale_167 : decode cL_isSale 167 = .ok (.istore 23, 2) := by decide +kernel
theorem dL_isSale_169 : decode cL_isSale 169 = .ok (.iload 20, 2) := by decide +kernel
theorem dL_isSale_171 : decode cL_isSale 171 = .ok (.iconst 3, 1) := by decide +kernel
theorem dL_isSale_172 : decode cL_isSale 172 = .ok (.if_icmp .ge 31, 3) := by decide +kernel
theorem dL_isSale_175 : decode cL_isSale 175 = .ok (.iload 21, 2) := by decide +kernel
theorem dL_isSale_177 : decode cL_isSale 177 = .ok (.ifCond .le 26, 3) := by decide +kernel
theorem dL_isSale_180 : decode cL_isSale 180 = .ok (.iload 21, 2) := by decide +kernel
theorem dL_isSale_182 : decode cL_isSale 182 = .ok (.bipush 10, 2) := by decide +kernel
theorem dL_isSale_184 : decode cL_isSale 184 = .ok (.if_icmp .ge 19, 3) := by decide +kernel
theorem dL_isSale_187 : decode cL_isSale 187 = .ok (.iload 22, 2) := by decide +kernel
theorem dL_isSale_189 : decode cL_isSale 189 = .ok (.ifCond .le 14, 3) := by decide +kernel
theorem dL_isSale_192 : decode cL_isSale 192 = .ok (.iload 22, 2) := by decide +kernel
theorem dL_isSale_194 : decode cL_isSale 194 = .ok (.bipush 101, 2) := by decide +kernel
theorem dL_isSale_196 : decode cL_isSale 196 = .ok (.if_icmp .ge 7, 3) := by decide +kernel
theorem dL_isSale_199 : decode cL_isSale 199 = .ok (.iconst 1, 1) := by decide +kernel
theorem dL_isSale_200 : decode cL_isSale 200 = .ok (.goto 4, 3) := by decide +kernel
theorem dL_isSale_203 : decode cL_isSale 203 = .ok (.iconst 0, 1) := by decide +kernel
theorem dL_isSale_204 : decode cL_isSale 204 = .ok (.istore 24, 2) := by decide +kernel
theorem dL_isSale_206 : decode cL_isSale 206 = .ok (.iload 18, 2) := by decide +kernel
theorem dL_isSale_208 : decode cL_isSale 208 = .ok (.bipush 8, 2) := by decide +kernel
theorem dL_isSale_210 : decode cL_isSale 210 = .ok (.if_icmp .ge 12, 3) := by decide +kernel
theorem dL_isSale_213 : decode cL_isSale 213 = .ok (.iload 24, 2) := by decide +kernel
theorem dL_isSale_215 : decode cL_isSale 215 = .ok (.ifCond .eq 7, 3) := by decide +kernel
theorem dL_isSale_218 : decode cL_isSale 218 = .ok (.iconst 1, 1) := by decide +kernel
theorem dL_isSale_219 : decode cL_isSale 219 = .ok (.goto 4, 3) := by decide +kernel
theorem dL_isSale_222 : decode cL_isSale 222 = .ok (.iconst 0, 1) := by decide +kernel
theorem dL_isSale_223 : decode cL_isSale 223 = .ok (.istore 25, 2) := by decide +kernel
theorem dL_isSale_225 : decode cL_isSale 225 = .ok (.iload 25, 2) := by decide +kernel
theorem dL_isSale_227 : decode cL_isSale 227 = .ok (.ifCond .eq 127, 3) := by decide +kernel
theorem dL_isSale_230 : decode cL_isSale 230 = .ok (.iconst 4, 1) := by decide +kernel
theorem dL_isSale_231 : decode cL_isSale 231 = .ok (.iload 18, 2) := by decide +kernel
theorem dL_isSale_233 : decode cL_isSale 233 = .ok (.imul, 1) := by decide +kernel
theorem dL_isSale_234 : decode cL_isSale 234 = .ok (.iload 19, 2) := by decide +kernel
theorem dL_isSale_236 : decode cL_isSale 236 = .ok (.iadd, 1) := by decide +kernel
theorem dL_isSale_237 : decode cL_isSale 237 = .ok (.istore 26, 2) := by decide +kernel
theorem dL_isSale_239 : decode cL_isSale 239 = .ok (.aload 12, 2) := by decide +kernel
theorem dL_isSale_241 : decode cL_isSale 241 = .ok (.bipush 32, 2) := by decide +kernel
theorem dL_isSale_243 : decode cL_isSale 243 = .ok (.iload 26, 2) := by decide +kernel
theorem dL_isSale_245 : decode cL_isSale 245 = .ok (.iadd, 1) := by decide +kernel
theorem dL_isSale_246 : decode cL_isSale 246 = .ok (.dup2, 1) := by decide +kernel
theorem dL_isSale_247 : decode cL_isSale 247 = .ok (.iaload, 1) := by decide +kernel
theorem dL_isSale_248 : decode cL_isSale 248 = .ok (.iload 22, 2) := by decide +kernel
theorem dL_isSale_250 : decode cL_isSale 250 = .ok (.iadd, 1) := by decide +kernel
theorem dL_isSale_251 : decode cL_isSale 251 = .ok (.iastore, 1) := by decide +kernel
theorem dL_isSale_252 : decode cL_isSale 252 = .ok (.aload 12, 2) := by decide +kernel
theorem dL_isSale_254 : decode cL_isSale 254 = .ok (.bipush 32, 2) := by decide +kernel
theorem dL_isSale_256 : decode cL_isSale 256 = .ok (.iload 26, 2) := by decide +kernel
theorem dL_isSale_258 : decode cL_isSale 258 = .ok (.iadd, 1) := by decide +kernel
theorem dL_isSale_259 : decode cL_isSale 259 = .ok (.iaload, 1) := by decide +kernel
theorem dL_isSale_260 : decode cL_isSale 260 = .ok (.aload 12, 2) := by decide +kernel
theorem dL_isSale_262 : decode cL_isSale 262 = .ok (.iload 26, 2) := by decide +kernel
theorem dL_isSale_264 : decode cL_isSale 264 = .ok (.iaload, 1) := by decide +kernel
theorem dL_isSale_265 : decode cL_isSale 265 = .ok (.aload 12, 2) := by decide +kernel
theorem dL_isSale_267 : decode cL_isSale 267 = .ok (.iload 26, 2) := by decide +kernel
theorem dL_isSale_269 : decode cL_isSale 269 = .ok (.iaload, 1) := by decide +kernel
theorem dL_isSale_270 : decode cL_isSale 270 = .ok (.bipush 10, 2) := by decide +kernel
theorem dL_isSale_272 : decode cL_isSale 272 = .ok (.idiv, 1) := by decide +kernel
theorem dL_isSale_273 : decode cL_isSale 273 = .ok (.iadd, 1) := by decide +kernel
theorem dL_isSale_274 : decode cL_isSale 274 = .ok (.if_icmp .le 7, 3) := by decide +kernel
theorem dL_isSale_277 : decode cL_isSale 277 = .ok (.iconst 1, 1) := by decide +kernel
theorem dL_isSale_278 : decode cL_isSale 278 = .ok (.goto 4, 3) := by decide +kernel
theorem dL_isSale_281 : decode cL_isSale 281 = .ok (.iconst 0, 1) := by decide +kernel
theorem dL_isSale_282 : decode cL_isSale 282 = .ok (.istore 27, 2) := by decide +kernel
theorem dL_isSale_284 : decode cL_isSale 284 = .ok (.aload_n 1, 1) := by decide +kernel
theorem dL_isSale_285 : decode cL_isSale 285 = .ok (.aload 11, 2) := by decide +kernel
theorem dL_isSale_287 : decode cL_isSale 287 = .ok (.iconst 4, 1) := by decide +kernel
theorem dL_isSale_288 : decode cL_isSale 288 = .ok (.iaload, 1) := by decide +kernel
theorem dL_isSale_289 : decode cL_isSale 289 = .ok (.iload 18, 2) := by decide +kernel
theorem dL_isSale_291 : decode cL_isSale 291 = .ok (.bipush 8, 2) := by decide +kernel
theorem dL_isSale_293 : decode cL_isSale 293 = .ok (.iload 19, 2) := by decide +kernel
theorem dL_isSale_295 : decode cL_isSale 295 = .ok (.imul, 1) := by decide +kernel
theorem dL_isSale_296 : decode cL_isSale 296 = .ok (.iadd, 1) := by decide +kernel
theorem dL_isSale_297 : decode cL_isSale 297 = .ok (.bipush 32, 2) := by decide +kernel
theorem dL_isSale_299 : decode cL_isSale 299 = .ok (.iload 20, 2) := by decide +kernel
theorem dL_isSale_301 : decode cL_isSale 301 = .ok (.imul, 1) := by decide +kernel
theorem dL_isSale_302 : decode cL_isSale 302 = .ok (.iadd, 1) := by decide +kernel
theorem dL_isSale_303 : decode cL_isSale 303 = .ok (.sipush 128, 3) := by decide +kernel
theorem dL_isSale_306 : decode cL_isSale 306 = .ok (.iload 21, 2) := by decide +kernel
theorem dL_isSale_308 : decode cL_isSale 308 = .ok (.imul, 1) := by decide +kernel
theorem dL_isSale_309 : decode cL_isSale 309 = .ok (.iadd, 1) := by decide +kernel
theorem dL_isSale_310 : decode cL_isSale 310 = .ok (.iload 27, 2) := by decide +kernel
theorem dL_isSale_312 : decode cL_isSale 312 = .ok (.ifCond .eq 9, 3) := by decide +kernel
theorem dL_isSale_315 : decode cL_isSale 315 = .ok (.sipush 2048, 3) := by decide +kernel
theorem dL_isSale_318 : decode cL_isSale 318 = .ok (.goto 4, 3) := by decide +kernel
theorem dL_isSale_321 : decode cL_isSale 321 = .ok (.iconst 0, 1) := by decide +kernel
theorem dL_isSale_322 : decode cL_isSale 322 = .ok (.iadd, 1) := by decide +kernel
theorem dL_isSale_323 : decode cL_isSale 323 = .ok (.iastore, 1) := by decide +kernel
theorem dL_isSale_324 : decode cL_isSale 324 = .ok (.aload_n 2, 1) := by decide +kernel
theorem dL_isSale_325 : decode cL_isSale 325 = .ok (.aload 11, 2) := by decide +kernel
theorem dL_isSale_327 : decode cL_isSale 327 = .ok (.iconst 4, 1) := by decide +kernel
theorem dL_isSale_328 : decode cL_isSale 328 = .ok (.iaload, 1) := by decide +kernel
theorem dL_isSale_329 : decode cL_isSale 329 = .ok (.iload 22, 2) := by decide +kernel
theorem dL_isSale_331 : decode cL_isSale 331 = .ok (.sipush 128, 3) := by decide +kernel
theorem dL_isSale_334 : decode cL_isSale 334 = .ok (.iload 23, 2) := by decide +kernel
theorem dL_isSale_336 : decode cL_isSale 336 = .ok (.imul, 1) := by decide +kernel
theorem dL_isSale_337 : decode cL_isSale 337 = .ok (.iadd, 1) := by decide +kernel
theorem dL_isSale_338 : decode cL_isSale 338 = .ok (.iastore, 1) := by decide +kernel
theorem dL_isSale_339 : decode cL_isSale 339 = .ok (.aload_n 3, 1) := by decide +kernel
theorem dL_isSale_340 : decode cL_isSale 340 = .ok (.aload 11, 2) := by decide +kernel
theorem dL_isSale_342 : decode cL_isSale 342 = .ok (.iconst 4, 1) := by decide +kernel
theorem dL_isSale_343 : decode cL_isSale 343 = .ok (.iaload, 1) := by decide +kernel
theorem dL_isSale_344 : decode cL_isSale 344 = .ok (.iconst (-1), 1) := by decide +kernel
theorem dL_isSale_345 : decode cL_isSale 345 = .ok (.iastore, 1) := by decide +kernel
theorem dL_isSale_346 : decode cL_isSale 346 = .ok (.aload 11, 2) := by decide +kernel
theorem dL_isSale_348 : decode cL_isSale 348 = .ok (.iconst 4, 1) := by decide +kernel
theorem dL_isSale_349 : decode cL_isSale 349 = .ok (.dup2, 1) := by decide +kernel
theorem dL_isSale_350 : decode cL_isSale 350 = .ok (.iaload, 1) := by decide +kernel
theorem dL_isSale_351 : decode cL_isSale 351 = .ok (.iconst 1, 1) := by decide +kernel
theorem dL_isSale_352 : decode cL_isSale 352 = .ok (.iadd, 1) := by decide +kernel
theorem dL_isSale_353 : decode cL_isSale 353 = .ok (.iastore, 1) := by decide +kernel
theorem dL_isSale_354 : decode cL_isSale 354 = .ok (.aload_n 0, 1) := by decide +kernel
theorem dL_isSale_355 : decode cL_isSale 355 = .ok (.bipush 7, 2) := by decide +kernel
theorem dL_isSale_357 : decode cL_isSale 357 = .ok (.iload 18, 2) := by decide +kernel
theorem dL_isSale_359 : decode cL_isSale 359 = .ok (.iload 19, 2) := by decide +kernel
theorem dL_isSale_361 : decode cL_isSale 361 = .ok (.iload 20, 2) := by decide +kernel
theorem dL_isSale_363 : decode cL_isSale 363 = .ok (.iload 21, 2) := by decide +kernel
theorem dL_isSale_365 : decode cL_isSale 365 = .ok (.iload 22, 2) := by decide +kernel
theorem dL_isSale_367 : decode cL_isSale 367 = .ok (.iload 23, 2) := by decide +kernel
theorem dL_isSale_369 : decode cL_isSale 369 = .ok (.invokestatic 183, 3) := by decide +kernel
theorem dL_isSale_372 : decode cL_isSale 372 = .ok (.iload 18, 2) := by decide +kernel
theorem dL_isSale_374 : decode cL_isSale 374 = .ok (.bipush 8, 2) := by decide +kernel
theorem dL_isSale_376 : decode cL_isSale 376 = .ok (.if_icmp .ne 8, 3) := by decide +kernel
theorem dL_isSale_379 : decode cL_isSale 379 = .ok (.ldc 84, 2) := by decide +kernel
theorem dL_isSale_381 : decode cL_isSale 381 = .ok (.goto 19, 3) := by decide +kernel
theorem dL_isSale_384 : decode cL_isSale 384 = .ok (.iload 25, 2) := by decide +kernel
theorem dL_isSale_386 : decode cL_isSale 386 = .ok (.ifCond .eq 12, 3) := by decide +kernel
theorem dL_isSale_389 : decode cL_isSale 389 = .ok (.aload 11, 2) := by decide +kernel
theorem dL_isSale_391 : decode cL_isSale 391 = .ok (.iconst 4, 1) := by decide +kernel
theorem dL_isSale_392 : decode cL_isSale 392 = .ok (.iaload, 1) := by decide +kernel
theorem dL_isSale_393 : decode cL_isSale 393 = .ok (.iconst 1, 1) := by decide +kernel
theorem dL_isSale_394 : decode cL_isSale 394 = .ok (.isub, 1) := by decide +kernel
theorem dL_isSale_395 : decode cL_isSale 395 = .ok (.goto 5, 3) := by decide +kernel
theorem dL_isSale_398 : decode cL_isSale 398 = .ok (.ldc 87, 2) := by decide +kernel
theorem dL_isSale_400 : decode cL_isSale 400 = .ok (.if_icmp .ne 7, 3) := by decide +kernel
theorem dL_isSale_403 : decode cL_isSale 403 = .ok (.iconst 1, 1) := by decide +kernel
theorem dL_isSale_404 : decode cL_isSale 404 = .ok (.goto 4, 3) := by decide +kernel
theorem dL_isSale_407 : decode cL_isSale 407 = .ok (.iconst 0, 1) := by decide +kernel
theorem dL_isSale_408 : decode cL_isSale 408 = .ok (.ireturn, 1) := by decide +kernel
theorem dL_isSale_409 : decode cL_isSale 409 = .ok (.iload 15, 2) := by decide +kernel
theorem dL_isSale_411 : decode cL_isSale 411 = .ok (.iconst 2, 1) := by decide +kernel
theorem dL_isSale_412 : decode cL_isSale 412 = .ok (.if_icmp .ge 110, 3) := by decide +kernel
theorem dL_isSale_415 : decode cL_isSale 415 = .ok (.aload 11, 2) := by decide +kernel
theorem dL_isSale_417 : decode cL_isSale 417 = .ok (.iconst 2, 1) := by decide +kernel
theorem dL_isSale_418 : decode cL_isSale 418 = .ok (.iaload, 1) := by decide +kernel
theorem dL_isSale_419 : decode cL_isSale 419 = .ok (.ifCond .ne 7, 3) := by decide +kernel
theorem dL_isSale_422 : decode cL_isSale 422 = .ok (.iconst 1, 1) := by decide +kernel
theorem dL_isSale_423 : decode cL_isSale 423 = .ok (.goto 4, 3) := by decide +kernel
theorem dL_isSale_426 : decode cL_isSale 426 = .ok (.iconst 0, 1) := by decide +kernel
theorem dL_isSale_427 : decode cL_isSale 427 = .ok (.istore 18, 2) := by decide +kernel
theorem dL_isSale_429 : decode cL_isSale 429 = .ok (.iconst 0, 1) := by decide +kernel
theorem dL_isSale_430 : decode cL_isSale 430 = .ok (.istore 19, 2) := by decide +kernel
theorem dL_isSale_432 : decode cL_isSale 432 = .ok (.iconst 0, 1) := by decide +kernel
theorem dL_isSale_433 : decode cL_isSale 433 = .ok (.istore 20, 2) := by decide +kernel
theorem dL_isSale_435 : decode cL_isSale 435 = .ok (.iload 20, 2) := by decide +kernel
theorem dL_isSale_437 : decode cL_isSale 437 = .ok (.aload 11, 2) := by decide +kernel
theorem dL_isSale_439 : decode cL_isSale 439 = .ok (.iconst 4, 1) := by decide +kernel
theorem dL_isSale_440 : decode cL_isSale 440 = .ok (.iaload, 1) := by decide +kernel
theorem dL_isSale_441 : decode cL_isSale 441 = .ok (.if_icmp .ge 30, 3) := by decide +kernel
theorem dL_isSale_444 : decode cL_isSale 444 = .ok (.iload 19, 2) := by decide +kernel
theorem dL_isSale_446 : decode cL_isSale 446 = .ok (.ifCond .ne 12, 3) := by decide +kernel
theorem dL_isSale_449 : decode cL_isSale 449 = .ok (.aload_n 1, 1) := by decide +kernel
theorem dL_isSale_450 : decode cL_isSale 450 = .ok (.iload 20, 2) := by decide +kernel
theorem dL_isSale_452 : decode cL_isSale 452 = .ok (.invokestatic 148, 3) := by decide +kernel
theorem dL_isSale_455 : decode cL_isSale 455 = .ok (.ifCond .eq 7, 3) := by decide +kernel
theorem dL_isSale_458 : decode cL_isSale 458 = .ok (.iconst 1, 1) := by decide +kernel
theorem dL_isSale_459 : decode cL_isSale 459 = .ok (.goto 4, 3) := by decide +kernel
theorem dL_isSale_462 : decode cL_isSale 462 = .ok (.iconst 0, 1) := by decide +kernel
theorem dL_isSale_463 : decode cL_isSale 463 = .ok (.istore 19, 2) := by decide +kernel
theorem dL_isSale_465 : decode cL_isSale 465 = .ok (.iinc 20 1, 3) := by decide +kernel
theorem dL_isSale_468 : decode cL_isSale 468 = .ok (.goto (-33), 3) := by decide +kernel
theorem dL_isSale_471 : decode cL_isSale 471 = .ok (.aload_n 0, 1) := by decide +kernel
theorem dL_isSale_472 : decode cL_isSale 472 = .ok (.bipush 8, 2) := by decide +kernel
theorem dL_isSale_474 : decode cL_isSale 474 = .ok (.iconst 0, 1) := by decide +kernel
theorem dL_isSale_475 : decode cL_isSale 475 = .ok (.iconst 0, 1) := by decide +kernel
theorem dL_isSale_476 : decode cL_isSale 476 = .ok (.iconst 0, 1) := by decide +kernel
theorem dL_isSale_477 : decode cL_isSale 477 = .ok (.iconst 0, 1) := by decide +kernel
theorem dL_isSale_478 : decode cL_isSale 478 = .ok (.iconst 0, 1) := by decide +kernel
theorem dL_isSale_479 : decode cL_isSale 479 = .ok (.iconst 0, 1) := by decide +kernel
theorem dL_isSale_480 : decode cL_isSale 480 = .ok (.invokestatic 183, 3) := by decide +kernel
theorem dL_isSale_483 : decode cL_isSale 483 = .ok (.iload 18, 2) := by decide +kernel
theorem dL_isSale_485 : decode cL_isSale 485 = .ok (.ifCond .eq 26, 3) := by decide +kernel
theorem dL_isSale_488 : decode cL_isSale 488 = .ok (.iload 19, 2) := by decide +kernel
theorem dL_isSale_490 : decode cL_isSale 490 = .ok (.ifCond .eq 21, 3) := by decide +kernel
theorem dL_isSale_493 : decode cL_isSale 493 = .ok (.aload_n 1, 1) := by decide +kernel
theorem dL_isSale_494 : decode cL_isSale 494 = .ok (.aload_n 3, 1) := by decide +kernel
theorem dL_isSale_495 : decode cL_isSale 495 = .ok (.aload 6, 2) := by decide +kernel
theorem dL_isSale_497 : decode cL_isSale 497 = .ok (.aload 7, 2) := by decide +kernel
theorem dL_isSale_499 : decode cL_isSale 499 = .ok (.aload 8, 2) := by decide +kernel
theorem dL_isSale_501 : decode cL_isSale 501 = .ok (.aload 11, 2) := by decide +kernel
theorem dL_isSale_503 : decode cL_isSale 503 = .ok (.aload 13, 2) := by decide +kernel
theorem dL_isSale_505 : decode cL_isSale 505 = .ok (.invokestatic 203, 3) := by decide +kernel
theorem dL_isSale_508 : decode cL_isSale 508 = .ok (.goto 5, 3) := by decide +kernel
theorem dL_isSale_511 : decode cL_isSale 511 = .ok (.ldc 90, 2) := by decide +kernel
theorem dL_isSale_513 : decode cL_isSale 513 = .ok (.if_icmp .ne 7, 3) := by decide +kernel
theorem dL_isSale_516 : decode cL_isSale 516 = .ok (.iconst 1, 1) := by decide +kernel
theorem dL_isSale_517 : decode cL_isSale 517 = .ok (.goto 4, 3) := by decide +kernel
theorem dL_isSale_520 : decode cL_isSale 520 = .ok (.iconst 0, 1) := by decide +kernel
theorem dL_isSale_521 : decode cL_isSale 521 = .ok (.ireturn, 1) := by decide +kernel
theorem dL_isSale_522 : decode cL_isSale 522 = .ok (.iload 15, 2) := by decide +kernel
theorem dL_isSale_524 : decode cL_isSale 524 = .ok (.iconst 2, 1) := by decide +kernel
theorem dL_isSale_525 : decode cL_isSale 525 = .ok (.if_icmp .ne 168, 3) := by decide +kernel
theorem dL_isSale_528 : decode cL_isSale 528 = .ok (.iconst 0, 1) := by decide +kernel
theorem dL_isSale_529 : decode cL_isSale 529 = .ok (.istore 18, 2) := by decide +kernel
theorem dL_isSale_531 : decode cL_isSale 531 = .ok (.aload 11, 2) := by decide +kernel
theorem dL_isSale_533 : decode cL_isSale 533 = .ok (.iconst 2, 1) := by decide +kernel
theorem dL_isSale_534 : decode cL_isSale 534 = .ok (.iaload, 1) := by decide +kernel
theorem dL_isSale_535 : decode cL_isSale 535 = .ok (.iconst 1, 1) := by decide +kernel
theorem dL_isSale_536 : decode cL_isSale 536 = .ok (.if_icmp .ne 7, 3) := by decide +kernel
theorem dL_isSale_539 : decode cL_isSale 539 = .ok (.iconst 1, 1) := by decide +kernel
theorem dL_isSale_540 : decode cL_isSale 540 = .ok (.goto 4, 3) := by decide +kernel
theorem dL_isSale_543 : decode cL_isSale 543 = .ok (.iconst 0, 1) := by decide +kernel
theorem dL_isSale_544 : decode cL_isSale 544 = .ok (.istore 19, 2) := by decide +kernel
theorem dL_isSale_546 : decode cL_isSale 546 = .ok (.iconst 0, 1) := by decide +kernel
theorem dL_isSale_547 : decode cL_isSale 547 = .ok (.istore 20, 2) := by decide +kernel
theorem dL_isSale_549 : decode cL_isSale 549 = .ok (.iload 20, 2) := by decide +kernel
theorem dL_isSale_551 : decode cL_isSale 551 = .ok (.aload 11, 2) := by decide +kernel
theorem dL_isSale_553 : decode cL_isSale 553 = .ok (.iconst 5, 1) := by decide +kernel
theorem dL_isSale_554 : decode cL_isSale 554 = .ok (.iaload, 1) := by decide +kernel
theorem dL_isSale_555 : decode cL_isSale 555 = .ok (.if_icmp .ge 31, 3) := by decide +kernel
theorem dL_isSale_558 : decode cL_isSale 558 = .ok (.iload 19, 2) := by decide +kernel
theorem dL_isSale_560 : decode cL_isSale 560 = .ok (.ifCond .eq 26, 3) := by decide +kernel
theorem dL_isSale_563 : decode cL_isSale 563 = .ok (.iload 18, 2) := by decide +kernel
theorem dL_isSale_565 : decode cL_isSale 565 = .ok (.aload_n 1, 1) := by decide +kernel
theorem dL_isSale_566 : decode cL_isSale 566 = .ok (.aload_n 2, 1) := by decide +kernel
theorem dL_isSale_567 : decode cL_isSale 567 = .ok (.aload_n 3, 1) := by decide +kernel
theorem dL_isSale_568 : decode cL_isSale 568 = .ok (.aload 11, 2) := by decide +kernel
theorem dL_isSale_570 : decode cL_isSale 570 = .ok (.aload 13, 2) := by decide +kernel
theorem dL_isSale_572 : decode cL_isSale 572 = .ok (.iload 20, 2) := by decide +kernel
theorem dL_isSale_574 : decode cL_isSale 574 = .ok (.invokestatic 128, 3) := by decide +kernel
theorem dL_isSale_577 : decode cL_isSale 577 = .ok (.iadd, 1) := by decide +kernel
theorem dL_isSale_578 : decode cL_isSale 578 = .ok (.istore 18, 2) := by decide +kernel
theorem dL_isSale_580 : decode cL_isSale 580 = .ok (.iinc 20 1, 3) := by decide +kernel
theorem dL_isSale_583 : decode cL_isSale 583 = .ok (.goto (-34), 3) := by decide +kernel
theorem dL_isSale_586 : decode cL_isSale 586 = .ok (.iload 19, 2) := by decide +kernel
theorem dL_isSale_588 : decode cL_isSale 588 = .ok (.ifCond .eq 72, 3) := by decide +kernel
theorem dL_isSale_591 : decode cL_isSale 591 = .ok (.aload 11, 2) := by decide +kernel
theorem dL_isSale_593 : decode cL_isSale 593 = .ok (.iconst 2, 1) := by decide +kernel
theorem dL_isSale_594 : decode cL_isSale 594 = .ok (.iconst 0, 1) := by decide +kernel
theorem dL_isSale_595 : decode cL_isSale 595 = .ok (.iastore, 1) := by decide +kernel
theorem dL_isSale_596 : decode cL_isSale 596 = .ok (.aload 11, 2) := by decide +kernel
theorem dL_isSale_598 : decode cL_isSale 598 = .ok (.iconst 5, 1) := by decide +kernel
theorem dL_isSale_599 : decode cL_isSale 599 = .ok (.iconst 0, 1) := by decide +kernel
theorem dL_isSale_600 : decode cL_isSale 600 = .ok (.iastore, 1) := by decide +kernel
theorem dL_isSale_601 : decode cL_isSale 601 = .ok (.aload 11, 2) := by decide +kernel
theorem dL_isSale_603 : decode cL_isSale 603 = .ok (.iconst 1, 1) := by decide +kernel
theorem dL_isSale_604 : decode cL_isSale 604 = .ok (.dup2, 1) := by decide +kernel
theorem dL_isSale_605 : decode cL_isSale 605 = .ok (.iaload, 1) := by decide +kernel
theorem dL_isSale_606 : decode cL_isSale 606 = .ok (.iconst 1, 1) := by decide +kernel
theorem dL_isSale_607 : decode cL_isSale 607 = .ok (.iadd, 1) := by decide +kernel
theorem dL_isSale_608 : decode cL_isSale 608 = .ok (.iastore, 1) := by decide +kernel
theorem dL_isSale_609 : decode cL_isSale 609 = .ok (.iconst 0, 1) := by decide +kernel
theorem dL_isSale_610 : decode cL_isSale 610 = .ok (.istore 20, 2) := by decide +kernel
theorem dL_isSale_612 : decode cL_isSale 612 = .ok (.iload 20, 2) := by decide +kernel
theorem dL_isSale_614 : decode cL_isSale 614 = .ok (.iconst 3, 1) := by decide +kernel
theorem dL_isSale_615 : decode cL_isSale 615 = .ok (.if_icmp .ge 22, 3) := by decide +kernel
theorem dL_isSale_618 : decode cL_isSale 618 = .ok (.aload 6, 2) := by decide +kernel
theorem dL_isSale_620 : decode cL_isSale 620 = .ok (.aload 7, 2) := by decide +kernel
theorem dL_isSale_622 : decode cL_isSale 622 = .ok (.aload 8, 2) := by decide +kernel
theorem dL_isSale_624 : decode cL_isSale 624 = .ok (.aload 11, 2) := by decide +kernel
theorem dL_isSale_626 : decode cL_isSale 626 = .ok (.iload 20, 2) := by decide +kernel
theorem dL_isSale_628 : decode cL_isSale 628 = .ok (.invokestatic 111, 3) := by decide +kernel
theorem dL_isSale_631 : decode cL_isSale 631 = .ok (.iinc 20 1, 3) := by decide +kernel
theorem dL_isSale_634 : decode cL_isSale 634 = .ok (.goto (-22), 3) := by decide +kernel
theorem dL_isSale_637 : decode cL_isSale 637 = .ok (.iconst 0, 1) := by decide +kernel
theorem dL_isSale_638 : decode cL_isSale 638 = .ok (.istore 20, 2) := by decide +kernel
theorem dL_isSale_640 : decode cL_isSale 640 = .ok (.iload 20, 2) := by decide +kernel
theorem dL_isSale_642 : decode cL_isSale 642 = .ok (.aload 11, 2) := by decide +kernel
theorem dL_isSale_644 : decode cL_isSale 644 = .ok (.iconst 4, 1) := by decide +kernel
theorem dL_isSale_645 : decode cL_isSale 645 = .ok (.iaload, 1) := by decide +kernel
theorem dL_isSale_646 : decode cL_isSale 646 = .ok (.if_icmp .ge 14, 3) := by decide +kernel
theorem dL_isSale_649 : decode cL_isSale 649 = .ok (.aload_n 3, 1) := by decide +kernel
theorem dL_isSale_650 : decode cL_isSale 650 = .ok (.iload 20, 2) := by decide +kernel
theorem dL_isSale_652 : decode cL_isSale 652 = .ok (.iconst (-1), 1) := by decide +kernel
theorem dL_isSale_653 : decode cL_isSale 653 = .ok (.iastore, 1) := by decide +kernel
theorem dL_isSale_654 : decode cL_isSale 654 = .ok (.iinc 20 1, 3) := by decide +kernel
theorem dL_isSale_657 : decode cL_isSale 657 = .ok (.goto (-17), 3) := by decide +kernel
theorem dL_isSale_660 : decode cL_isSale 660 = .ok (.aload_n 0, 1) := by decide +kernel
theorem dL_isSale_661 : decode cL_isSale 661 = .ok (.bipush 9, 2) := by decide +kernel
theorem dL_isSale_663 : decode cL_isSale 663 = .ok (.iconst 0, 1) := by decide +kernel
theorem dL_isSale_664 : decode cL_isSale 664 = .ok (.iconst 0, 1) := by decide +kernel
theorem dL_isSale_665 : decode cL_isSale 665 = .ok (.iconst 0, 1) := by decide +kernel
theorem dL_isSale_666 : decode cL_isSale 666 = .ok (.iconst 0, 1) := by decide +kernel
theorem dL_isSale_667 : decode cL_isSale 667 = .ok (.iconst 0, 1) := by decide +kernel
theorem dL_isSale_668 : decode cL_isSale 668 = .ok (.iconst 0, 1) := by decide +kernel
theorem dL_isSale_669 : decode cL_isSale 669 = .ok (.invokestatic 183, 3) := by decide +kernel
theorem dL_isSale_672 : decode cL_isSale 672 = .ok (.iload 19, 2) := by decide +kernel
theorem dL_isSale_674 : decode cL_isSale 674 = .ok (.ifCond .eq 8, 3) := by decide +kernel
theorem dL_isSale_677 : decode cL_isSale 677 = .ok (.iload 18, 2) := by decide +kernel
theorem dL_isSale_679 : decode cL_isSale 679 = .ok (.goto 5, 3) := by decide +kernel
theorem dL_isSale_682 : decode cL_isSale 682 = .ok (.ldc 90, 2) := by decide +kernel
theorem dL_isSale_684 : decode cL_isSale 684 = .ok (.if_icmp .ne 7, 3) := by decide +kernel
theorem dL_isSale_687 : decode cL_isSale 687 = .ok (.iconst 1, 1) := by decide +kernel
theorem dL_isSale_688 : decode cL_isSale 688 = .ok (.goto 4, 3) := by decide +kernel
theorem dL_isSale_691 : decode cL_isSale 691 = .ok (.iconst 0, 1) := by decide +kernel
theorem dL_isSale_692 : decode cL_isSale 692 = .ok (.ireturn, 1) := by decide +kernel
theorem dL_isSale_693 : decode cL_isSale 693 = .ok (.iload 16, 2) := by decide +kernel
theorem dL_isSale_695 : decode cL_isSale 695 = .ok (.bipush 13, 2) := by decide +kernel
theorem dL_isSale_697 : decode cL_isSale 697 = .ok (.irem, 1) := by decide +kernel
theorem dL_isSale_698 : decode cL_isSale 698 = .ok (.bipush 12, 2) := by decide +kernel
theorem dL_isSale_700 : decode cL_isSale 700 = .ok (.if_icmp .ne 8, 3) := by decide +kernel
theorem dL_isSale_703 : decode cL_isSale 703 = .ok (.bipush 8, 2) := by decide +kernel
theorem dL_isSale_705 : decode cL_isSale 705 = .ok (.goto 7, 3) := by decide +kernel
theorem dL_isSale_708 : decode cL_isSale 708 = .ok (.iload 16, 2) := by decide +kernel
theorem dL_isSale_710 : decode cL_isSale 710 = .ok (.iconst 5, 1) := by decide +kernel
theorem dL_isSale_711 : decode cL_isSale 711 = .ok (.irem, 1) := by decide +kernel
theorem dL_isSale_712 : decode cL_isSale 712 = .ok (.istore 18, 2) := by decide +kernel
theorem dL_isSale_714 : decode cL_isSale 714 = .ok (.iload 17, 2) := by decide +kernel
theorem dL_isSale_716 : decode cL_isSale 716 = .ok (.bipush 13, 2) := by decide +kernel
theorem dL_isSale_718 : decode cL_isSale 718 = .ok (.irem, 1) := by decide +kernel
theorem dL_isSale_719 : decode cL_isSale 719 = .ok (.bipush 12, 2) := by decide +kernel
theorem dL_isSale_721 : decode cL_isSale 721 = .ok (.if_icmp .ne 7, 3) := by decide +kernel
theorem dL_isSale_724 : decode cL_isSale 724 = .ok (.iconst 3, 1) := by decide +kernel
theorem dL_isSale_725 : decode cL_isSale 725 = .ok (.goto 7, 3) := by decide +kernel
theorem dL_isSale_728 : decode cL_isSale 728 = .ok (.iload 17, 2) := by decide +kernel
theorem dL_isSale_730 : decode cL_isSale 730 = .ok (.iconst 3, 1) := by decide +kernel
theorem dL_isSale_731 : decode cL_isSale 731 = .ok (.irem, 1) := by decide +kernel
theorem dL_isSale_732 : decode cL_isSale 732 = .ok (.istore 19, 2) := by decide +kernel
theorem dL_isSale_734 : decode cL_isSale 734 = .ok (.iload 18, 2) := by decide +kernel
theorem dL_isSale_736 : decode cL_isSale 736 = .ok (.bipush 8, 2) := by decide +kernel
theorem dL_isSale_738 : decode cL_isSale 738 = .ok (.if_icmp .ge 13, 3) := by decide +kernel
theorem dL_isSale_741 : decode cL_isSale 741 = .ok (.iload 19, 2) := by decide +kernel
theorem dL_isSale_743 : decode cL_isSale 743 = .ok (.iconst 3, 1) := by decide +kernel
theorem dL_isSale_744 : decode cL_isSale 744 = .ok (.if_icmp .ge 7, 3) := by decide +kernel
theorem dL_isSale_747 : decode cL_isSale 747 = .ok (.iconst 1, 1) := by decide +kernel
theorem dL_isSale_748 : decode cL_isSale 748 = .ok (.goto 4, 3) := by decide +kernel
theorem dL_isSale_751 : decode cL_isSale 751 = .ok (.iconst 0, 1) := by decide +kernel
theorem dL_isSale_752 : decode cL_isSale 752 = .ok (.istore 20, 2) := by decide +kernel
theorem dL_isSale_754 : decode cL_isSale 754 = .ok (.iload 19, 2) := by decide +kernel
theorem dL_isSale_756 : decode cL_isSale 756 = .ok (.iconst 3, 1) := by decide +kernel
theorem dL_isSale_757 : decode cL_isSale 757 = .ok (.if_icmp .ge 11, 3) := by decide +kernel
theorem dL_isSale_760 : decode cL_isSale 760 = .ok (.bipush 8, 2) := by decide +kernel
theorem dL_isSale_762 : decode cL_isSale 762 = .ok (.iload 19, 2) := by decide +kernel
theorem dL_isSale_764 : decode cL_isSale 764 = .ok (.imul, 1) := by decide +kernel
theorem dL_isSale_765 : decode cL_isSale 765 = .ok (.goto 4, 3) := by decide +kernel
theorem dL_isSale_768 : decode cL_isSale 768 = .ok (.iconst 0, 1) := by decide +kernel
theorem dL_isSale_769 : decode cL_isSale 769 = .ok (.istore 21, 2) := by decide +kernel
theorem dL_isSale_771 : decode cL_isSale 771 = .ok (.iload 15, 2) := by decide +kernel
theorem dL_isSale_773 : decode cL_isSale 773 = .ok (.bipush 7, 2) := by decide +kernel
theorem dL_isSale_775 : decode cL_isSale 775 = .ok (.if_icmp .ge 162, 3) := by decide +kernel
theorem dL_isSale_778 : decode cL_isSale 778 = .ok (.iload 20, 2) := by decide +kernel
theorem dL_isSale_780 : decode cL_isSale 780 = .ok (.ifCond .eq 51, 3) := by decide +kernel
theorem dL_isSale_783 : decode cL_isSale 783 = .ok (.aload 7, 2) := by decide +kernel
theorem dL_isSale_785 : decode cL_isSale 785 = .ok (.iload 21, 2) := by decide +kernel
theorem dL_isSale_787 : decode cL_isSale 787 = .ok (.iaload, 1) := by decide +kernel
theorem dL_isSale_788 : decode cL_isSale 788 = .ok (.iconst 1, 1) := by decide +kernel
theorem dL_isSale_789 : decode cL_isSale 789 = .ok (.if_icmp .ne 42, 3) := by decide +kernel
theorem dL_isSale_792 : decode cL_isSale 792 = .ok (.aload 7, 2) := by decide +kernel
theorem dL_isSale_794 : decode cL_isSale 794 = .ok (.iload 21, 2) := by decide +kernel
theorem dL_isSale_796 : decode cL_isSale 796 = .ok (.bipush 6, 2) := by decide +kernel
theorem dL_isSale_798 : decode cL_isSale 798 = .ok (.iadd, 1) := by decide +kernel
theorem dL_isSale_799 : decode cL_isSale 799 = .ok (.iaload, 1) := by decide +kernel
theorem dL_isSale_800 : decode cL_isSale 800 = .ok (.iconst 1, 1) := by decide +kernel
theorem dL_isSale_801 : decode cL_isSale 801 = .ok (.if_icmp .ne 30, 3) := by decide +kernel
theorem dL_isSale_804 : decode cL_isSale 804 = .ok (.aload 11, 2) := by decide +kernel
theorem dL_isSale_806 : decode cL_isSale 806 = .ok (.bipush 48, 2) := by decide +kernel
theorem dL_isSale_808 : decode cL_isSale 808 = .ok (.iload 18, 2) := by decide +kernel
theorem dL_isSale_810 : decode cL_isSale 810 = .ok (.iadd, 1) := by decide +kernel
theorem dL_isSale_811 : decode cL_isSale 811 = .ok (.iaload, 1) := by decide +kernel
theorem dL_isSale_812 : decode cL_isSale 812 = .ok (.iconst 1, 1) := by decide +kernel
theorem dL_isSale_813 : decode cL_isSale 813 = .ok (.if_icmp .ne 18, 3) := by decide +kernel
theorem dL_isSale_816 : decode cL_isSale 816 = .ok (.aload 8, 2) := by decide +kernel
theorem dL_isSale_818 : decode cL_isSale 818 = .ok (.iload 21, 2) := by decide +kernel
theorem dL_isSale_820 : decode cL_isSale 820 = .ok (.iload 18, 2) := by decide +kernel
theorem dL_isSale_822 : decode cL_isSale 822 = .ok (.iadd, 1) := by decide +kernel
theorem dL_isSale_823 : decode cL_isSale 823 = .ok (.iaload, 1) := by decide +kernel
theorem dL_isSale_824 : decode cL_isSale 824 = .ok (.ifCond .ge 7, 3) := by decide +kernel
theorem dL_isSale_827 : decode cL_isSale 827 = .ok (.iconst 1, 1) := by decide +kernel
theorem dL_isSale_828 : decode cL_isSale 828 = .ok (.goto 4, 3) := by decide +kernel
theorem dL_isSale_831 : decode cL_isSale 831 = .ok (.iconst 0, 1) := by decide +kernel
theorem dL_isSale_832 : decode cL_isSale 832 = .ok (.istore 22, 2) := by decide +kernel
theorem dL_isSale_834 : decode cL_isSale 834 = .ok (.iload 22, 2) := by decide +kernel
theorem dL_isSale_836 : decode cL_isSale 836 = .ok (.ifCond .eq 51, 3) := by decide +kernel
theorem dL_isSale_839 : decode cL_isSale 839 = .ok (.aload 8, 2) := by decide +kernel
theorem dL_isSale_841 : decode cL_isSale 841 = .ok (.iload 21, 2) := by decide +kernel
theorem dL_isSale_843 : decode cL_isSale 843 = .ok (.iload 18, 2) := by decide +kernel
theorem dL_isSale_845 : decode cL_isSale 845 = .ok (.iadd, 1) := by decide +kernel
theorem dL_isSale_846 : decode cL_isSale 846 = .ok (.aload 11, 2) := by decide +kernel
theorem dL_isSale_848 : decode cL_isSale 848 = .ok (.iconst 0, 1) := by decide +kernel
theorem dL_isSale_849 : decode cL_isSale 849 = .ok (.iaload, 1) := by decide +kernel
theorem dL_isSale_850 : decode cL_isSale 850 = .ok (.iastore, 1) := by decide +kernel
theorem dL_isSale_851 : decode cL_isSale 851 = .ok (.aload 9, 2) := by decide +kernel
theorem dL_isSale_853 : decode cL_isSale 853 = .ok (.iload 21, 2) := by decide +kernel
theorem dL_isSale_855 : decode cL_isSale 855 = .ok (.iload 18, 2) := by decide +kernel
theorem dL_isSale_857 : decode cL_isSale 857 = .ok (.iadd, 1) := by decide +kernel
theorem dL_isSale_858 : decode cL_isSale 858 = .ok (.aload 11, 2) := by decide +kernel
theorem dL_isSale_860 : decode cL_isSale 860 = .ok (.iconst 0, 1) := by decide +kernel
theorem dL_isSale_861 : decode cL_isSale 861 = .ok (.iaload, 1) := by decide +kernel
theorem dL_isSale_862 : decode cL_isSale 862 = .ok (.aload 11, 2) := by decide +kernel
theorem dL_isSale_864 : decode cL_isSale 864 = .ok (.bipush 32, 2) := by decide +kernel
theorem dL_isSale_866 : decode cL_isSale 866 = .ok (.iload 18, 2) := by decide +kernel
theorem dL_isSale_868 : decode cL_isSale 868 = .ok (.iadd, 1) := by decide +kernel
theorem dL_isSale_869 : decode cL_isSale 869 = .ok (.iaload, 1) := by decide +kernel
theorem dL_isSale_870 : decode cL_isSale 870 = .ok (.iadd, 1) := by decide +kernel
theorem dL_isSale_871 : decode cL_isSale 871 = .ok (.iastore, 1) := by decide +kernel
theorem dL_isSale_872 : decode cL_isSale 872 = .ok (.aload 10, 2) := by decide +kernel
theorem dL_isSale_874 : decode cL_isSale 874 = .ok (.iload 21, 2) := by decide +kernel
theorem dL_isSale_876 : decode cL_isSale 876 = .ok (.iload 18, 2) := by decide +kernel
theorem dL_isSale_878 : decode cL_isSale 878 = .ok (.iadd, 1) := by decide +kernel
theorem dL_isSale_879 : decode cL_isSale 879 = .ok (.aload 7, 2) := by decide +kernel
theorem dL_isSale_881 : decode cL_isSale 881 = .ok (.iload 21, 2) := by decide +kernel
theorem dL_isSale_883 : decode cL_isSale 883 = .ok (.iconst 2, 1) := by decide +kernel
theorem dL_isSale_884 : decode cL_isSale 884 = .ok (.iadd, 1) := by decide +kernel
theorem dL_isSale_885 : decode cL_isSale 885 = .ok (.iaload, 1) := by decide +kernel
theorem dL_isSale_886 : decode cL_isSale 886 = .ok (.iastore, 1) := by decide +kernel
theorem dL_isSale_887 : decode cL_isSale 887 = .ok (.aload_n 0, 1) := by decide +kernel
theorem dL_isSale_888 : decode cL_isSale 888 = .ok (.bipush 10, 2) := by decide +kernel
theorem dL_isSale_890 : decode cL_isSale 890 = .ok (.iload 18, 2) := by decide +kernel
theorem dL_isSale_892 : decode cL_isSale 892 = .ok (.iload 19, 2) := by decide +kernel
theorem dL_isSale_894 : decode cL_isSale 894 = .ok (.iconst 0, 1) := by decide +kernel
theorem dL_isSale_895 : decode cL_isSale 895 = .ok (.iconst 0, 1) := by decide +kernel
theorem dL_isSale_896 : decode cL_isSale 896 = .ok (.iconst 0, 1) := by decide +kernel
theorem dL_isSale_897 : decode cL_isSale 897 = .ok (.iconst 0, 1) := by decide +kernel
theorem dL_isSale_898 : decode cL_isSale 898 = .ok (.invokestatic 183, 3) := by decide +kernel
theorem dL_isSale_901 : decode cL_isSale 901 = .ok (.iload 20, 2) := by decide +kernel
theorem dL_isSale_903 : decode cL_isSale 903 = .ok (.ifCond .ne 8, 3) := by decide +kernel
theorem dL_isSale_906 : decode cL_isSale 906 = .ok (.ldc 84, 2) := by decide +kernel
theorem dL_isSale_908 : decode cL_isSale 908 = .ok (.goto 20, 3) := by decide +kernel
theorem dL_isSale_911 : decode cL_isSale 911 = .ok (.iload 22, 2) := by decide +kernel
theorem dL_isSale_913 : decode cL_isSale 913 = .ok (.ifCond .eq 13, 3) := by decide +kernel
theorem dL_isSale_916 : decode cL_isSale 916 = .ok (.aload 7, 2) := by decide +kernel
theorem dL_isSale_918 : decode cL_isSale 918 = .ok (.iload 21, 2) := by decide +kernel
theorem dL_isSale_920 : decode cL_isSale 920 = .ok (.iconst 2, 1) := by decide +kernel
theorem dL_isSale_921 : decode cL_isSale 921 = .ok (.iadd, 1) := by decide +kernel
theorem dL_isSale_922 : decode cL_isSale 922 = .ok (.iaload, 1) := by decide +kernel
theorem dL_isSale_923 : decode cL_isSale 923 = .ok (.goto 5, 3) := by decide +kernel
theorem dL_isSale_926 : decode cL_isSale 926 = .ok (.ldc 90, 2) := by decide +kernel
theorem dL_isSale_928 : decode cL_isSale 928 = .ok (.if_icmp .ne 7, 3) := by decide +kernel
theorem dL_isSale_931 : decode cL_isSale 931 = .ok (.iconst 1, 1) := by decide +kernel
theorem dL_isSale_932 : decode cL_isSale 932 = .ok (.goto 4, 3) := by decide +kernel
theorem dL_isSale_935 : decode cL_isSale 935 = .ok (.iconst 0, 1) := by decide +kernel
theorem dL_isSale_936 : decode cL_isSale 936 = .ok (.ireturn, 1) := by decide +kernel
theorem dL_isSale_937 : decode cL_isSale 937 = .ok (.iload 15, 2) := by decide +kernel
theorem dL_isSale_939 : decode cL_isSale 939 = .ok (.bipush 9, 2) := by decide +kernel
theorem dL_isSale_941 : decode cL_isSale 941 = .ok (.if_icmp .ge 306, 3) := by decide +kernel
theorem dL_isSale_944 : decode cL_isSale 944 = .ok (.iload 19, 2) := by decide +kernel
theorem dL_isSale_946 : decode cL_isSale 946 = .ok (.iconst 3, 1) := by decide +kernel
theorem dL_isSale_947 : decode cL_isSale 947 = .ok (.if_icmp .ge 13, 3) := by decide +kernel
theorem dL_isSale_950 : decode cL_isSale 950 = .ok (.aload 7, 2) := by decide +kernel
theorem dL_isSale_952 : decode cL_isSale 952 = .ok (.iload 21, 2) := by decide +kernel
theorem dL_isSale_954 : decode cL_isSale 954 = .ok (.iconst 4, 1) := by decide +kernel
theorem dL_isSale_955 : decode cL_isSale 955 = .ok (.iadd, 1) := by decide +kernel
theorem dL_isSale_956 : decode cL_isSale 956 = .ok (.iaload, 1) := by decide +kernel
theorem dL_isSale_957 : decode cL_isSale 957 = .ok (.goto 4, 3) := by decide +kernel
theorem dL_isSale_960 : decode cL_isSale 960 = .ok (.iconst (-1), 1) := by decide +kernel
theorem dL_isSale_961 : decode cL_isSale 961 = .ok (.istore 22, 2) := by decide +kernel
theorem dL_isSale_963 : decode cL_isSale 963 = .ok (.iload 22, 2) := by decide +kernel
theorem dL_isSale_965 : decode cL_isSale 965 = .ok (.ifCond .lt 15, 3) := by decide +kernel
theorem dL_isSale_968 : decode cL_isSale 968 = .ok (.iload 16, 2) := by decide +kernel
theorem dL_isSale_970 : decode cL_isSale 970 = .ok (.iconst 4, 1) := by decide +kernel
theorem dL_isSale_971 : decode cL_isSale 971 = .ok (.irem, 1) := by decide +kernel
theorem dL_isSale_972 : decode cL_isSale 972 = .ok (.ifCond .le 8, 3) := by decide +kernel
theorem dL_isSale_975 : decode cL_isSale 975 = .ok (.iload 22, 2) := by decide +kernel
theorem dL_isSale_977 : decode cL_isSale 977 = .ok (.goto 5, 3) := by decide +kernel
theorem dL_isSale_980 : decode cL_isSale 980 = .ok (.iload 18, 2) := by decide +kernel
theorem dL_isSale_982 : decode cL_isSale 982 = .ok (.istore 18, 2) := by decide +kernel
theorem dL_isSale_984 : decode cL_isSale 984 = .ok (.iload 18, 2) := by decide +kernel
theorem dL_isSale_986 : decode cL_isSale 986 = .ok (.bipush 8, 2) := by decide +kernel
theorem dL_isSale_988 : decode cL_isSale 988 = .ok (.if_icmp .ge 13, 3) := by decide +kernel
theorem dL_isSale_991 : decode cL_isSale 991 = .ok (.iload 19, 2) := by decide +kernel
theorem dL_isSale_993 : decode cL_isSale 993 = .ok (.iconst 3, 1) := by decide +kernel
theorem dL_isSale_994 : decode cL_isSale 994 = .ok (.if_icmp .ge 7, 3) := by decide +kernel
theorem dL_isSale_997 : decode cL_isSale 997 = .ok (.iconst 1, 1) := by decide +kernel
theorem dL_isSale_998 : decode cL_isSale 998 = .ok (.goto 4, 3) := by decide +kernel
theorem dL_isSale_1001 : decode cL_isSale 1001 = .ok (.iconst 0, 1) := by decide +kernel
theorem dL_isSale_1002 : decode cL_isSale 1002 = .ok (.istore 20, 2) := by decide +kernel
theorem dL_isSale_1004 : decode cL_isSale 1004 = .ok (.iload 20, 2) := by decide +kernel
theorem dL_isSale_1006 : decode cL_isSale 1006 = .ok (.ifCond .eq 35, 3) := by decide +kernel
theorem dL_isSale_1009 : decode cL_isSale 1009 = .ok (.aload 7, 2) := by decide +kernel
theorem dL_isSale_1011 : decode cL_isSale 1011 = .ok (.iload 21, 2) := by decide +kernel
theorem dL_isSale_1013 : decode cL_isSale 1013 = .ok (.iaload, 1) := by decide +kernel
theorem dL_isSale_1014 : decode cL_isSale 1014 = .ok (.iconst 3, 1) := by decide +kernel
theorem dL_isSale_1015 : decode cL_isSale 1015 = .ok (.if_icmp .ne 26, 3) := by decide +kernel
theorem dL_isSale_1018 : decode cL_isSale 1018 = .ok (.aload 7, 2) := by decide +kernel
theorem dL_isSale_1020 : decode cL_isSale 1020 = .ok (.iload 21, 2) := by decide +kernel
theorem dL_isSale_1022 : decode cL_isSale 1022 = .ok (.bipush 6, 2) := by decide +kernel
theorem dL_isSale_1024 : decode cL_isSale 1024 = .ok (.iadd, 1) := by decide +kernel
theorem dL_isSale_1025 : decode cL_isSale 1025 = .ok (.iaload, 1) := by decide +kernel
theorem dL_isSale_1026 : decode cL_isSale 1026 = .ok (.iconst 1, 1) := by decide +kernel
theorem dL_isSale_1027 : decode cL_isSale 1027 = .ok (.if_icmp .ne 14, 3) := by decide +kernel
theorem dL_isSale_1030 : decode cL_isSale 1030 = .ok (.iload 22, 2) := by decide +kernel
theorem dL_isSale_1032 : decode cL_isSale 1032 = .ok (.iload 18, 2) := by decide +kernel
theorem dL_isSale_1034 : decode cL_isSale 1034 = .ok (.if_icmp .ne 7, 3) := by decide +kernel
theorem dL_isSale_1037 : decode cL_isSale 1037 = .ok (.iconst 1, 1) := by decide +kernel
theorem dL_isSale_1038 : decode cL_isSale 1038 = .ok (.goto 4, 3) := by decide +kernel
theorem dL_isSale_1041 : decode cL_isSale 1041 = .ok (.iconst 0, 1) := by decide +kernel
theorem dL_isSale_1042 : decode cL_isSale 1042 = .ok (.istore 23, 2) := by decide +kernel
theorem dL_isSale_1044 : decode cL_isSale 1044 = .ok (.iload 23, 2) := by decide +kernel
theorem dL_isSale_1046 : decode cL_isSale 1046 = .ok (.ifCond .eq 20, 3) := by decide +kernel
theorem dL_isSale_1049 : decode cL_isSale 1049 = .ok (.aload_n 1, 1) := by decide +kernel
theorem dL_isSale_1050 : decode cL_isSale 1050 = .ok (.aload_n 3, 1) := by decide +kernel
theorem dL_isSale_1051 : decode cL_isSale 1051 = .ok (.aload 11, 2) := by decide +kernel
theorem dL_isSale_1053 : decode cL_isSale 1053 = .ok (.aload 7, 2) := by decide +kernel
theorem dL_isSale_1055 : decode cL_isSale 1055 = .ok (.iload 21, 2) := by decide +kernel
theorem dL_isSale_1057 : decode cL_isSale 1057 = .ok (.iconst 1, 1) := by decide +kernel
theorem dL_isSale_1058 : decode cL_isSale 1058 = .ok (.iadd, 1) := by decide +kernel
theorem dL_isSale_1059 : decode cL_isSale 1059 = .ok (.iaload, 1) := by decide +kernel
theorem dL_isSale_1060 : decode cL_isSale 1060 = .ok (.invokestatic 116, 3) := by decide +kernel
theorem dL_isSale_1063 : decode cL_isSale 1063 = .ok (.goto 4, 3) := by decide +kernel
theorem dL_isSale_1066 : decode cL_isSale 1066 = .ok (.iconst 3, 1) := by decide +kernel
theorem dL_isSale_1067 : decode cL_isSale 1067 = .ok (.istore 24, 2) := by decide +kernel
theorem dL_isSale_1069 : decode cL_isSale 1069 = .ok (.iload 17, 2) := by decide +kernel
theorem dL_isSale_1071 : decode cL_isSale 1071 = .ok (.bipush 13, 2) := by decide +kernel
theorem dL_isSale_1073 : decode cL_isSale 1073 = .ok (.idiv, 1) := by decide +kernel
theorem dL_isSale_1074 : decode cL_isSale 1074 = .ok (.iload 24, 2) := by decide +kernel
theorem dL_isSale_1076 : decode cL_isSale 1076 = .ok (.iconst 2, 1) := by decide +kernel
theorem dL_isSale_1077 : decode cL_isSale 1077 = .ok (.iadd, 1) := by decide +kernel
theorem dL_isSale_1078 : decode cL_isSale 1078 = .ok (.irem, 1) := by decide +kernel
theorem dL_isSale_1079 : decode cL_isSale 1079 = .ok (.istore 25, 2) := by decide +kernel
theorem dL_isSale_1081 : decode cL_isSale 1081 = .ok (.iload 23, 2) := by decide +kernel
theorem dL_isSale_1083 : decode cL_isSale 1083 = .ok (.ifCond .eq 27, 3) := by decide +kernel
theorem dL_isSale_1086 : decode cL_isSale 1086 = .ok (.aload_n 1, 1) := by decide +kernel
theorem dL_isSale_1087 : decode cL_isSale 1087 = .ok (.aload_n 2, 1) := by decide +kernel
theorem dL_isSale_1088 : decode cL_isSale 1088 = .ok (.aload_n 3, 1) := by decide +kernel
theorem dL_isSale_1089 : decode cL_isSale 1089 = .ok (.aload 4, 2) := by decide +kernel
theorem dL_isSale_1091 : decode cL_isSale 1091 = .ok (.aload 5, 2) := by decide +kernel
theorem dL_isSale_1093 : decode cL_isSale 1093 = .ok (.aload 7, 2) := by decide +kernel
theorem dL_isSale_1095 : decode cL_isSale 1095 = .ok (.aload 11, 2) := by decide +kernel
theorem dL_isSale_1097 : decode cL_isSale 1097 = .ok (.aload 13, 2) := by decide +kernel
theorem dL_isSale_1099 : decode cL_isSale 1099 = .ok (.iload 19, 2) := by decide +kernel
theorem dL_isSale_1101 : decode cL_isSale 1101 = .ok (.iload 25, 2) := by decide +kernel
theorem dL_isSale_1103 : decode cL_isSale 1103 = .ok (.iconst 0, 1) := by decide +kernel
theorem dL_isSale_1104 : decode cL_isSale 1104 = .ok (.invokestatic 136, 3) := by decide +kernel
theorem dL_isSale_1107 : decode cL_isSale 1107 = .ok (.goto 4, 3) := by decide +kernel
theorem dL_isSale_1110 : decode cL_isSale 1110 = .ok (.iconst 0, 1) := by decide +kernel
theorem dL_isSale_1111 : decode cL_isSale 1111 = .ok (.istore 26, 2) := by decide +kernel
theorem dL_isSale_1113 : decode cL_isSale 1113 = .ok (.iload 23, 2) := by decide +kernel
theorem dL_isSale_1115 : decode cL_isSale 1115 = .ok (.ifCond .eq 41, 3) := by decide +kernel
theorem dL_isSale_1118 : decode cL_isSale 1118 = .ok (.iload 25, 2) := by decide +kernel
theorem dL_isSale_1120 : decode cL_isSale 1120 = .ok (.ifCond .le 36, 3) := by decide +kernel
theorem dL_isSale_1123 : decode cL_isSale 1123 = .ok (.iload 25, 2) := by decide +kernel
theorem dL_isSale_1125 : decode cL_isSale 1125 = .ok (.iload 24, 2) := by decide +kernel
theorem dL_isSale_1127 : decode cL_isSale 1127 = .ok (.if_icmp .gt 29, 3) := by decide +kernel
theorem dL_isSale_1130 : decode cL_isSale 1130 = .ok (.aload 11, 2) := by decide +kernel
theorem dL_isSale_1132 : decode cL_isSale 1132 = .ok (.bipush 24, 2) := by decide +kernel
theorem dL_isSale_1134 : decode cL_isSale 1134 = .ok (.iload 18, 2) := by decide +kernel
theorem dL_isSale_1136 : decode cL_isSale 1136 = .ok (.iadd, 1) := by decide +kernel
theorem dL_isSale_1137 : decode cL_isSale 1137 = .ok (.iaload, 1) := by decide +kernel
theorem dL_isSale_1138 : decode cL_isSale 1138 = .ok (.aload 11, 2) := by decide +kernel
theorem dL_isSale_1140 : decode cL_isSale 1140 = .ok (.bipush 40, 2) := by decide +kernel
theorem dL_isSale_1142 : decode cL_isSale 1142 = .ok (.iload 18, 2) := by decide +kernel
theorem dL_isSale_1144 : decode cL_isSale 1144 = .ok (.iadd, 1) := by decide +kernel
theorem dL_isSale_1145 : decode cL_isSale 1145 = .ok (.iaload, 1) := by decide +kernel
theorem dL_isSale_1146 : decode cL_isSale 1146 = .ok (.isub, 1) := by decide +kernel
theorem dL_isSale_1147 : decode cL_isSale 1147 = .ok (.iload 26, 2) := by decide +kernel
theorem dL_isSale_1149 : decode cL_isSale 1149 = .ok (.if_icmp .lt 7, 3) := by decide +kernel
theorem dL_isSale_1152 : decode cL_isSale 1152 = .ok (.iconst 1, 1) := by decide +kernel
theorem dL_isSale_1153 : decode cL_isSale 1153 = .ok (.goto 4, 3) := by decide +kernel
theorem dL_isSale_1156 : decode cL_isSale 1156 = .ok (.iconst 0, 1) := by decide +kernel
theorem dL_isSale_1157 : decode cL_isSale 1157 = .ok (.istore 27, 2) := by decide +kernel
theorem dL_isSale_1159 : decode cL_isSale 1159 = .ok (.iload 27, 2) := by decide +kernel
theorem dL_isSale_1161 : decode cL_isSale 1161 = .ok (.ifCond .eq 40, 3) := by decide +kernel
theorem dL_isSale_1164 : decode cL_isSale 1164 = .ok (.aload_n 1, 1) := by decide +kernel
theorem dL_isSale_1165 : decode cL_isSale 1165 = .ok (.aload_n 2, 1) := by decide +kernel
theorem dL_isSale_1166 : decode cL_isSale 1166 = .ok (.aload_n 3, 1) := by decide +kernel
theorem dL_isSale_1167 : decode cL_isSale 1167 = .ok (.aload 4, 2) := by decide +kernel
theorem dL_isSale_1169 : decode cL_isSale 1169 = .ok (.aload 5, 2) := by decide +kernel
theorem dL_isSale_1171 : decode cL_isSale 1171 = .ok (.aload 7, 2) := by decide +kernel
theorem dL_isSale_1173 : decode cL_isSale 1173 = .ok (.aload 11, 2) := by decide +kernel
theorem dL_isSale_1175 : decode cL_isSale 1175 = .ok (.aload 13, 2) := by decide +kernel
theorem dL_isSale_1177 : decode cL_isSale 1177 = .ok (.iload 19, 2) := by decide +kernel
theorem dL_isSale_1179 : decode cL_isSale 1179 = .ok (.iload 25, 2) := by decide +kernel
theorem dL_isSale_1181 : decode cL_isSale 1181 = .ok (.iconst 1, 1) := by decide +kernel
theorem dL_isSale_1182 : decode cL_isSale 1182 = .ok (.invokestatic 136, 3) := by decide +kernel
theorem dL_isSale_1185 : decode cL_isSale 1185 = .ok (.pop, 1) := by decide +kernel
theorem dL_isSale_1186 : decode cL_isSale 1186 = .ok (.aload_n 1, 1) := by decide +kernel
theorem dL_isSale_1187 : decode cL_isSale 1187 = .ok (.aload_n 3, 1) := by decide +kernel
theorem dL_isSale_1188 : decode cL_isSale 1188 = .ok (.aload 6, 2) := by decide +kernel
theorem dL_isSale_1190 : decode cL_isSale 1190 = .ok (.aload 7, 2) := by decide +kernel
theorem dL_isSale_1192 : decode cL_isSale 1192 = .ok (.aload 8, 2) := by decide +kernel
theorem dL_isSale_1194 : decode cL_isSale 1194 = .ok (.aload 11, 2) := by decide +kernel
theorem dL_isSale_1196 : decode cL_isSale 1196 = .ok (.iload 19, 2) := by decide +kernel
theorem dL_isSale_1198 : decode cL_isSale 1198 = .ok (.invokestatic 140, 3) := by decide +kernel
theorem dL_isSale_1201 : decode cL_isSale 1201 = .ok (.aload_n 0, 1) := by decide +kernel
theorem dL_isSale_1202 : decode cL_isSale 1202 = .ok (.bipush 11, 2) := by decide +kernel
theorem dL_isSale_1204 : decode cL_isSale 1204 = .ok (.iload 18, 2) := by decide +kernel
theorem dL_isSale_1206 : decode cL_isSale 1206 = .ok (.iload 19, 2) := by decide +kernel
theorem dL_isSale_1208 : decode cL_isSale 1208 = .ok (.iload 25, 2) := by decide +kernel
theorem dL_isSale_1210 : decode cL_isSale 1210 = .ok (.iconst 0, 1) := by decide +kernel
theorem dL_isSale_1211 : decode cL_isSale 1211 = .ok (.iconst 0, 1) := by decide +kernel
theorem dL_isSale_1212 : decode cL_isSale 1212 = .ok (.iconst 0, 1) := by decide +kernel
theorem dL_isSale_1213 : decode cL_isSale 1213 = .ok (.invokestatic 183, 3) := by decide +kernel
theorem dL_isSale_1216 : decode cL_isSale 1216 = .ok (.iload 20, 2) := by decide +kernel
theorem dL_isSale_1218 : decode cL_isSale 1218 = .ok (.ifCond .ne 8, 3) := by decide +kernel
theorem dL_isSale_1221 : decode cL_isSale 1221 = .ok (.ldc 84, 2) := by decide +kernel
theorem dL_isSale_1223 : decode cL_isSale 1223 = .ok (.goto 15, 3) := by decide +kernel
theorem dL_isSale_1226 : decode cL_isSale 1226 = .ok (.iload 27, 2) := by decide +kernel
theorem dL_isSale_1228 : decode cL_isSale 1228 = .ok (.ifCond .eq 8, 3) := by decide +kernel
theorem dL_isSale_1231 : decode cL_isSale 1231 = .ok (.iload 26, 2) := by decide +kernel
theorem dL_isSale_1233 : decode cL_isSale 1233 = .ok (.goto 5, 3) := by decide +kernel
theorem dL_isSale_1236 : decode cL_isSale 1236 = .ok (.ldc 90, 2) := by decide +kernel
theorem dL_isSale_1238 : decode cL_isSale 1238 = .ok (.if_icmp .ne 7, 3) := by decide +kernel
theorem dL_isSale_1241 : decode cL_isSale 1241 = .ok (.iconst 1, 1) := by decide +kernel
theorem dL_isSale_1242 : decode cL_isSale 1242 = .ok (.goto 4, 3) := by decide +kernel
theorem dL_isSale_1245 : decode cL_isSale 1245 = .ok (.iconst 0, 1) := by decide +kernel
theorem dL_isSale_1246 : decode cL_isSale 1246 = .ok (.ireturn, 1) := by decide +kernel
theorem dL_isSale_1247 : decode cL_isSale 1247 = .ok (.aload 11, 2) := by decide +kernel
theorem dL_isSale_1249 : decode cL_isSale 1249 = .ok (.bipush 6, 2) := by decide +kernel
theorem dL_isSale_1251 : decode cL_isSale 1251 = .ok (.iaload, 1) := by decide +kernel
theorem dL_isSale_1252 : decode cL_isSale 1252 = .ok (.bipush 10, 2) := by decide +kernel
theorem dL_isSale_1254 : decode cL_isSale 1254 = .ok (.if_icmp .ne 5, 3) := by decide +kernel
theorem dL_isSale_1257 : decode cL_isSale 1257 = .ok (.iconst 1, 1) := by decide +kernel
theorem dL_isSale_1258 : decode cL_isSale 1258 = .ok (.ireturn, 1) := by decide +kernel
theorem dL_isSale_1259 : decode cL_isSale 1259 = .ok (.aload 11, 2) := by decide +kernel
theorem dL_isSale_1261 : decode cL_isSale 1261 = .ok (.iconst 0, 1) := by decide +kernel
theorem dL_isSale_1262 : decode cL_isSale 1262 = .ok (.iaload, 1) := by decide +kernel
theorem dL_isSale_1263 : decode cL_isSale 1263 = .ok (.iload 17, 2) := by decide +kernel
theorem dL_isSale_1265 : decode cL_isSale 1265 = .ok (.bipush 40, 2) := by decide +kernel
theorem dL_isSale_1267 : decode cL_isSale 1267 = .ok (.irem, 1) := by decide +kernel
theorem dL_isSale_1268 : decode cL_isSale 1268 = .ok (.iadd, 1) := by decide +kernel
theorem dL_isSale_1269 : decode cL_isSale 1269 = .ok (.istore 22, 2) := by decide +kernel
theorem dL_isSale_1271 : decode cL_isSale 1271 = .ok (.iload 17, 2) := by decide +kernel
theorem dL_isSale_1273 : decode cL_isSale 1273 = .ok (.bipush 40, 2) := by decide +kernel
theorem dL_isSale_1275 : decode cL_isSale 1275 = .ok (.idiv, 1) := by decide +kernel
theorem dL_isSale_1276 : decode cL_isSale 1276 = .ok (.bipush 9, 2) := by decide +kernel
theorem dL_isSale_1278 : decode cL_isSale 1278 = .ok (.irem, 1) := by decide +kernel
theorem dL_isSale_1279 : decode cL_isSale 1279 = .ok (.ifCond .ne 13, 3) := by decide +kernel
theorem dL_isSale_1282 : decode cL_isSale 1282 = .ok (.bipush 51, 2) := by decide +kernel
theorem dL_isSale_1284 : decode cL_isSale 1284 = .ok (.iload 16, 2) := by decide +kernel
theorem dL_isSale_1286 : decode cL_isSale 1286 = .ok (.iconst 2, 1) := by decide +kernel
theorem dL_isSale_1287 : decode cL_isSale 1287 = .ok (.irem, 1) := by decide +kernel
theorem dL_isSale_1288 : decode cL_isSale 1288 = .ok (.imul, 1) := by decide +kernel
theorem dL_isSale_1289 : decode cL_isSale 1289 = .ok (.goto 13, 3) := by decide +kernel
theorem dL_isSale_1292 : decode cL_isSale 1292 = .ok (.iconst 1, 1) := by decide +kernel
theorem dL_isSale_1293 : decode cL_isSale 1293 = .ok (.iload 17, 2) := by decide +kernel
theorem dL_isSale_1295 : decode cL_isSale 1295 = .ok (.bipush 40, 2) := by decide +kernel
theorem dL_isSale_1297 : decode cL_isSale 1297 = .ok (.idiv, 1) := by decide +kernel
theorem dL_isSale_1298 : decode cL_isSale 1298 = .ok (.bipush 6, 2) := by decide +kernel
theorem dL_isSale_1300 : decode cL_isSale 1300 = .ok (.irem, 1) := by decide +kernel
theorem dL_isSale_1301 : decode cL_isSale 1301 = .ok (.iadd, 1) := by decide +kernel
theorem dL_isSale_1302 : decode cL_isSale 1302 = .ok (.istore 23, 2) := by decide +kernel
theorem dL_isSale_1304 : decode cL_isSale 1304 = .ok (.iload 22, 2) := by decide +kernel
theorem dL_isSale_1306 : decode cL_isSale 1306 = .ok (.aload 11, 2) := by decide +kernel
theorem dL_isSale_1308 : decode cL_isSale 1308 = .ok (.iconst 0, 1) := by decide +kernel
theorem dL_isSale_1309 : decode cL_isSale 1309 = .ok (.iaload, 1) := by decide +kernel
theorem dL_isSale_1310 : decode cL_isSale 1310 = .ok (.if_icmp .le 19, 3) := by decide +kernel
theorem dL_isSale_1313 : decode cL_isSale 1313 = .ok (.iload 23, 2) := by decide +kernel
theorem dL_isSale_1315 : decode cL_isSale 1315 = .ok (.ifCond .le 14, 3) := by decide +kernel
theorem dL_isSale_1318 : decode cL_isSale 1318 = .ok (.iload 23, 2) := by decide +kernel
theorem dL_isSale_1320 : decode cL_isSale 1320 = .ok (.bipush 51, 2) := by decide +kernel
theorem dL_isSale_1322 : decode cL_isSale 1322 = .ok (.if_icmp .ge 7, 3) := by decide +kernel
theorem dL_isSale_1325 : decode cL_isSale 1325 = .ok (.iconst 1, 1) := by decide +kernel
theorem dL_isSale_1326 : decode cL_isSale 1326 = .ok (.goto 4, 3) := by decide +kernel
theorem dL_isSale_1329 : decode cL_isSale 1329 = .ok (.iconst 0, 1) := by decide +kernel
theorem dL_isSale_1330 : decode cL_isSale 1330 = .ok (.istore 24, 2) := by decide +kernel
theorem dL_isSale_1332 : decode cL_isSale 1332 = .ok (.iload 18, 2) := by decide +kernel
theorem dL_isSale_1334 : decode cL_isSale 1334 = .ok (.bipush 8, 2) := by decide +kernel
theorem dL_isSale_1336 : decode cL_isSale 1336 = .ok (.if_icmp .ge 12, 3) := by decide +kernel
theorem dL_isSale_1339 : decode cL_isSale 1339 = .ok (.iload 24, 2) := by decide +kernel
theorem dL_isSale_1341 : decode cL_isSale 1341 = .ok (.ifCond .eq 7, 3) := by decide +kernel
theorem dL_isSale_1344 : decode cL_isSale 1344 = .ok (.iconst 1, 1) := by decide +kernel
theorem dL_isSale_1345 : decode cL_isSale 1345 = .ok (.goto 4, 3) := by decide +kernel
theorem dL_isSale_1348 : decode cL_isSale 1348 = .ok (.iconst 0, 1) := by decide +kernel
theorem dL_isSale_1349 : decode cL_isSale 1349 = .ok (.istore 25, 2) := by decide +kernel
theorem dL_isSale_1351 : decode cL_isSale 1351 = .ok (.iload 25, 2) := by decide +kernel
theorem dL_isSale_1353 : decode cL_isSale 1353 = .ok (.ifCond .eq 65, 3) := by decide +kernel
theorem dL_isSale_1356 : decode cL_isSale 1356 = .ok (.aload 14, 2) := by decide +kernel
theorem dL_isSale_1358 : decode cL_isSale 1358 = .ok (.iconst 4, 1) := by decide +kernel
theorem dL_isSale_1359 : decode cL_isSale 1359 = .ok (.aload 11, 2) := by decide +kernel
theorem dL_isSale_1361 : decode cL_isSale 1361 = .ok (.bipush 6, 2) := by decide +kernel
theorem dL_isSale_1363 : decode cL_isSale 1363 = .ok (.iaload, 1) := by decide +kernel
theorem dL_isSale_1364 : decode cL_isSale 1364 = .ok (.imul, 1) := by decide +kernel
theorem dL_isSale_1365 : decode cL_isSale 1365 = .ok (.iload 18, 2) := by decide +kernel
theorem dL_isSale_1367 : decode cL_isSale 1367 = .ok (.iastore, 1) := by decide +kernel
theorem dL_isSale_1368 : decode cL_isSale 1368 = .ok (.aload 14, 2) := by decide +kernel
theorem dL_isSale_1370 : decode cL_isSale 1370 = .ok (.iconst 4, 1) := by decide +kernel
theorem dL_isSale_1371 : decode cL_isSale 1371 = .ok (.aload 11, 2) := by decide +kernel
theorem dL_isSale_1373 : decode cL_isSale 1373 = .ok (.bipush 6, 2) := by decide +kernel
theorem dL_isSale_1375 : decode cL_isSale 1375 = .ok (.iaload, 1) := by decide +kernel
theorem dL_isSale_1376 : decode cL_isSale 1376 = .ok (.imul, 1) := by decide +kernel
theorem dL_isSale_1377 : decode cL_isSale 1377 = .ok (.iconst 1, 1) := by decide +kernel
theorem dL_isSale_1378 : decode cL_isSale 1378 = .ok (.iadd, 1) := by decide +kernel
theorem dL_isSale_1379 : decode cL_isSale 1379 = .ok (.iload 22, 2) := by decide +kernel
theorem dL_isSale_1381 : decode cL_isSale 1381 = .ok (.iastore, 1) := by decide +kernel
theorem dL_isSale_1382 : decode cL_isSale 1382 = .ok (.aload 14, 2) := by decide +kernel
theorem dL_isSale_1384 : decode cL_isSale 1384 = .ok (.iconst 4, 1) := by decide +kernel
theorem dL_isSale_1385 : decode cL_isSale 1385 = .ok (.aload 11, 2) := by decide +kernel
theorem dL_isSale_1387 : decode cL_isSale 1387 = .ok (.bipush 6, 2) := by decide +kernel
theorem dL_isSale_1389 : decode cL_isSale 1389 = .ok (.iaload, 1) := by decide +kernel
theorem dL_isSale_1390 : decode cL_isSale 1390 = .ok (.imul, 1) := by decide +kernel
theorem dL_isSale_1391 : decode cL_isSale 1391 = .ok (.iconst 2, 1) := by decide +kernel
theorem dL_isSale_1392 : decode cL_isSale 1392 = .ok (.iadd, 1) := by decide +kernel
theorem dL_isSale_1393 : decode cL_isSale 1393 = .ok (.iload 23, 2) := by decide +kernel
theorem dL_isSale_1395 : decode cL_isSale 1395 = .ok (.iastore, 1) := by decide +kernel
theorem dL_isSale_1396 : decode cL_isSale 1396 = .ok (.aload 14, 2) := by decide +kernel
theorem dL_isSale_1398 : decode cL_isSale 1398 = .ok (.iconst 4, 1) := by decide +kernel
theorem dL_isSale_1399 : decode cL_isSale 1399 = .ok (.aload 11, 2) := by decide +kernel
theorem dL_isSale_1401 : decode cL_isSale 1401 = .ok (.bipush 6, 2) := by decide +kernel
theorem dL_isSale_1403 : decode cL_isSale 1403 = .ok (.iaload, 1) := by decide +kernel
theorem dL_isSale_1404 : decode cL_isSale 1404 = .ok (.imul, 1) := by decide +kernel
theorem dL_isSale_1405 : decode cL_isSale 1405 = .ok (.iconst 3, 1) := by decide +kernel
theorem dL_isSale_1406 : decode cL_isSale 1406 = .ok (.iadd, 1) := by decide +kernel
theorem dL_isSale_1407 : decode cL_isSale 1407 = .ok (.iconst (-1), 1) := by decide +kernel
theorem dL_isSale_1408 : decode cL_isSale 1408 = .ok (.iastore, 1) := by decide +kernel
theorem dL_isSale_1409 : decode cL_isSale 1409 = .ok (.aload 11, 2) := by decide +kernel
theorem dL_isSale_1411 : decode cL_isSale 1411 = .ok (.bipush 6, 2) := by decide +kernel
theorem dL_isSale_1413 : decode cL_isSale 1413 = .ok (.dup2, 1) := by decide +kernel
theorem dL_isSale_1414 : decode cL_isSale 1414 = .ok (.iaload, 1) := by decide +kernel
theorem dL_isSale_1415 : decode cL_isSale 1415 = .ok (.iconst 1, 1) := by decide +kernel
theorem dL_isSale_1416 : decode cL_isSale 1416 = .ok (.iadd, 1) := by decide +kernel
theorem dL_isSale_1417 : decode cL_isSale 1417 = .ok (.iastore, 1) := by decide +kernel
theorem dL_isSale_1418 : decode cL_isSale 1418 = .ok (.aload_n 0, 1) := by decide +kernel
theorem dL_isSale_1419 : decode cL_isSale 1419 = .ok (.bipush 12, 2) := by decide +kernel
theorem dL_isSale_1421 : decode cL_isSale 1421 = .ok (.iload 18, 2) := by decide +kernel
theorem dL_isSale_1423 : decode cL_isSale 1423 = .ok (.iload 22, 2) := by decide +kernel
theorem dL_isSale_1425 : decode cL_isSale 1425 = .ok (.iload 23, 2) := by decide +kernel
theorem dL_isSale_1427 : decode cL_isSale 1427 = .ok (.iconst 0, 1) := by decide +kernel
theorem dL_isSale_1428 : decode cL_isSale 1428 = .ok (.iconst 0, 1) := by decide +kernel
theorem dL_isSale_1429 : decode cL_isSale 1429 = .ok (.iconst 0, 1) := by decide +kernel
theorem dL_isSale_1430 : decode cL_isSale 1430 = .ok (.invokestatic 183, 3) := by decide +kernel
theorem dL_isSale_1433 : decode cL_isSale 1433 = .ok (.iload 18, 2) := by decide +kernel
theorem dL_isSale_1435 : decode cL_isSale 1435 = .ok (.bipush 8, 2) := by decide +kernel
theorem dL_isSale_1437 : decode cL_isSale 1437 = .ok (.if_icmp .ne 8, 3) := by decide +kernel
theorem dL_isSale_1440 : decode cL_isSale 1440 = .ok (.ldc 84, 2) := by decide +kernel
theorem dL_isSale_1442 : decode cL_isSale 1442 = .ok (.goto 20, 3) := by decide +kernel
theorem dL_isSale_1445 : decode cL_isSale 1445 = .ok (.iload 25, 2) := by decide +kernel
theorem dL_isSale_1447 : decode cL_isSale 1447 = .ok (.ifCond .eq 13, 3) := by decide +kernel
theorem dL_isSale_1450 : decode cL_isSale 1450 = .ok (.aload 11, 2) := by decide +kernel
theorem dL_isSale_1452 : decode cL_isSale 1452 = .ok (.bipush 6, 2) := by decide +kernel
theorem dL_isSale_1454 : decode cL_isSale 1454 = .ok (.iaload, 1) := by decide +kernel
theorem dL_isSale_1455 : decode cL_isSale 1455 = .ok (.iconst 1, 1) := by decide +kernel
theorem dL_isSale_1456 : decode cL_isSale 1456 = .ok (.isub, 1) := by decide +kernel
theorem dL_isSale_1457 : decode cL_isSale 1457 = .ok (.goto 5, 3) := by decide +kernel
theorem dL_isSale_1460 : decode cL_isSale 1460 = .ok (.ldc 87, 2) := by decide +kernel
theorem dL_isSale_1462 : decode cL_isSale 1462 = .ok (.if_icmp .ne 7, 3) := by decide +kernel
theorem dL_isSale_1465 : decode cL_isSale 1465 = .ok (.iconst 1, 1) := by decide +kernel
theorem dL_isSale_1466 : decode cL_isSale 1466 = .ok (.goto 4, 3) := by decide +kernel
theorem dL_isSale_1469 : decode cL_isSale 1469 = .ok (.iconst 0, 1) := by decide +kernel
theorem dL_isSale_1470 : decode cL_isSale 1470 = .ok (.ireturn, 1) := by decide +kernel
theorem dL_law_0 : decode cL_law 0 = .ok (.new 9, 3) := by decide +kernel
theorem dL_law_3 : decode cL_law 3 = .ok (.dup, 1) := by decide +kernel
theorem dL_law_4 : decode cL_law 4 = .ok (.invokespecial 207, 3) := by decide +kernel
theorem dL_law_7 : decode cL_law 7 = .ok (.astore_n 1, 1) := by decide +kernel
theorem dL_law_8 : decode cL_law 8 = .ok (.bipush 40, 2) := by decide +kernel
theorem dL_law_10 : decode cL_law 10 = .ok (.newarray .int, 2) := by decide +kernel
theorem dL_law_12 : decode cL_law 12 = .ok (.astore_n 2, 1) := by decide +kernel
theorem dL_law_13 : decode cL_law 13 = .ok (.bipush 40, 2) := by decide +kernel
theorem dL_law_15 : decode cL_law 15 = .ok (.newarray .int, 2) := by decide +kernel
theorem dL_law_17 : decode cL_law 17 = .ok (.astore_n 3, 1) := by decide +kernel
theorem dL_law_18 : decode cL_law 18 = .ok (.bipush 40, 2) := by decide +kernel
theorem dL_law_20 : decode cL_law 20 = .ok (.newarray .int, 2) := by decide +kernel
theorem dL_law_22 : decode cL_law 22 = .ok (.astore 4, 2) := by decide +kernel
theorem dL_law_24 : decode cL_law 24 = .ok (.bipush 40, 2) := by decide +kernel
theorem dL_law_26 : decode cL_law 26 = .ok (.newarray .int, 2) := by decide +kernel
theorem dL_law_28 : decode cL_law 28 = .ok (.astore 5, 2) := by decide +kernel
theorem dL_law_30 : decode cL_law 30 = .ok (.bipush 40, 2) := by decide +kernel
theorem dL_law_32 : decode cL_law 32 = .ok (.newarray .int, 2) := by decide +kernel
theorem dL_law_34 : decode cL_law 34 = .ok (.astore 6, 2) := by decide +kernel
theorem dL_law_36 : decode cL_law 36 = .ok (.bipush 40, 2) := by decide +kernel
theorem dL_law_38 : decode cL_law 38 = .ok (.newarray .int, 2) := by decide +kernel
theorem dL_law_40 : decode cL_law 40 = .ok (.astore 7, 2) := by decide +kernel
theorem dL_law_42 : decode cL_law 42 = .ok (.bipush 24, 2) := by decide +kernel
theorem dL_law_44 : decode cL_law 44 = .ok (.newarray .int, 2) := by decide +kernel
theorem dL_law_46 : decode cL_law 46 = .ok (.astore 8, 2) := by decide +kernel
theorem dL_law_48 : decode cL_law 48 = .ok (.bipush 24, 2) := by decide +kernel
theorem dL_law_50 : decode cL_law 50 = .ok (.newarray .int, 2) := by decide +kernel
theorem dL_law_52 : decode cL_law 52 = .ok (.astore 9, 2) := by decide +kernel
theorem dL_law_54 : decode cL_law 54 = .ok (.bipush 24, 2) := by decide +kernel
theorem dL_law_56 : decode cL_law 56 = .ok (.newarray .int, 2) := by decide +kernel
theorem dL_law_58 : decode cL_law 58 = .ok (.astore 10, 2) := by decide +kernel
theorem dL_law_60 : decode cL_law 60 = .ok (.bipush 24, 2) := by decide +kernel
theorem dL_law_62 : decode cL_law 62 = .ok (.newarray .int, 2) := by decide +kernel
theorem dL_law_64 : decode cL_law 64 = .ok (.astore 11, 2) := by decide +kernel
theorem dL_law_66 : decode cL_law 66 = .ok (.bipush 56, 2) := by decide +kernel
theorem dL_law_68 : decode cL_law 68 = .ok (.newarray .int, 2) := by decide +kernel
theorem dL_law_70 : decode cL_law 70 = .ok (.astore 12, 2) := by decide +kernel
theorem dL_law_72 : decode cL_law 72 = .ok (.bipush 64, 2) := by decide +kernel
theorem dL_law_74 : decode cL_law 74 = .ok (.newarray .int, 2) := by decide +kernel
theorem dL_law_76 : decode cL_law 76 = .ok (.astore 13, 2) := by decide +kernel
theorem dL_law_78 : decode cL_law 78 = .ok (.bipush 24, 2) := by decide +kernel
theorem dL_law_80 : decode cL_law 80 = .ok (.newarray .int, 2) := by decide +kernel
theorem dL_law_82 : decode cL_law 82 = .ok (.astore 14, 2) := by decide +kernel
theorem dL_law_84 : decode cL_law 84 = .ok (.bipush 40, 2) := by decide +kernel
theorem dL_law_86 : decode cL_law 86 = .ok (.newarray .int, 2) := by decide +kernel
theorem dL_law_88 : decode cL_law 88 = .ok (.astore 15, 2) := by decide +kernel
theorem dL_law_90 : decode cL_law 90 = .ok (.aload 12, 2) := by decide +kernel
theorem dL_law_92 : decode cL_law 92 = .ok (.iconst 3, 1) := by decide +kernel
theorem dL_law_93 : decode cL_law 93 = .ok (.iconst 1, 1) := by decide +kernel
theorem dL_law_94 : decode cL_law 94 = .ok (.iastore, 1) := by decide +kernel
theorem dL_law_95 : decode cL_law 95 = .ok (.iconst 0, 1) := by decide +kernel
theorem dL_law_96 : decode cL_law 96 = .ok (.istore 16, 2) := by decide +kernel
theorem dL_law_98 : decode cL_law 98 = .ok (.iload 16, 2) := by decide +kernel
theorem dL_law_100 : decode cL_law 100 = .ok (.bipush 32, 2) := by decide +kernel
theorem dL_law_102 : decode cL_law 102 = .ok (.if_icmp .ge 17, 3) := by decide +kernel
theorem dL_law_105 : decode cL_law 105 = .ok (.aload 13, 2) := by decide +kernel
theorem dL_law_107 : decode cL_law 107 = .ok (.iload 16, 2) := by decide +kernel
theorem dL_law_109 : decode cL_law 109 = .ok (.sipush 10000, 3) := by decide +kernel
theorem dL_law_112 : decode cL_law 112 = .ok (.iastore, 1) := by decide +kernel
theorem dL_law_113 : decode cL_law 113 = .ok (.iinc 16 1, 3) := by decide +kernel
theorem dL_law_116 : decode cL_law 116 = .ok (.goto (-18), 3) := by decide +kernel
theorem dL_law_119 : decode cL_law 119 = .ok (.iconst 0, 1) := by decide +kernel
theorem dL_law_120 : decode cL_law 120 = .ok (.istore 16, 2) := by decide +kernel
theorem dL_law_122 : decode cL_law 122 = .ok (.iload 16, 2) := by decide +kernel
theorem dL_law_124 : decode cL_law 124 = .ok (.bipush 8, 2) := by decide +kernel
theorem dL_law_126 : decode cL_law 126 = .ok (.if_icmp .ge 27, 3) := by decide +kernel
theorem dL_law_129 : decode cL_law 129 = .ok (.aload 12, 2) := by decide +kernel
theorem dL_law_131 : decode cL_law 131 = .ok (.bipush 32, 2) := by decide +kernel
theorem dL_law_133 : decode cL_law 133 = .ok (.iload 16, 2) := by decide +kernel
theorem dL_law_135 : decode cL_law 135 = .ok (.iadd, 1) := by decide +kernel
theorem dL_law_136 : decode cL_law 136 = .ok (.iconst 1, 1) := by decide +kernel
theorem dL_law_137 : decode cL_law 137 = .ok (.iastore, 1) := by decide +kernel
theorem dL_law_138 : decode cL_law 138 = .ok (.aload 12, 2) := by decide +kernel
theorem dL_law_140 : decode cL_law 140 = .ok (.bipush 48, 2) := by decide +kernel
theorem dL_law_142 : decode cL_law 142 = .ok (.iload 16, 2) := by decide +kernel
theorem dL_law_144 : decode cL_law 144 = .ok (.iadd, 1) := by decide +kernel
theorem dL_law_145 : decode cL_law 145 = .ok (.iconst 1, 1) := by decide +kernel
theorem dL_law_146 : decode cL_law 146 = .ok (.iastore, 1) := by decide +kernel
theorem dL_law_147 : decode cL_law 147 = .ok (.iinc 16 1, 3) := by decide +kernel
theorem dL_law_150 : decode cL_law 150 = .ok (.goto (-28), 3) := by decide +kernel
theorem dL_law_153 : decode cL_law 153 = .ok (.iconst 0, 1) := by decide +kernel
theorem dL_law_154 : decode cL_law 154 = .ok (.istore 16, 2) := by decide +kernel
theorem dL_law_156 : decode cL_law 156 = .ok (.iload 16, 2) := by decide +kernel
theorem dL_law_158 : decode cL_law 158 = .ok (.iconst 4, 1) := by decide +kernel
theorem dL_law_159 : decode cL_law 159 = .ok (.if_icmp .ge 42, 3) := by decide +kernel
theorem dL_law_162 : decode cL_law 162 = .ok (.aload 12, 2) := by decide +kernel
theorem dL_law_164 : decode cL_law 164 = .ok (.bipush 8, 2) := by decide +kernel
theorem dL_law_166 : decode cL_law 166 = .ok (.iload 16, 2) := by decide +kernel
theorem dL_law_168 : decode cL_law 168 = .ok (.iadd, 1) := by decide +kernel
theorem dL_law_169 : decode cL_law 169 = .ok (.sipush 1000, 3) := by decide +kernel
theorem dL_law_172 : decode cL_law 172 = .ok (.iastore, 1) := by decide +kernel
theorem dL_law_173 : decode cL_law 173 = .ok (.aload 12, 2) := by decide +kernel
theorem dL_law_175 : decode cL_law 175 = .ok (.bipush 12, 2) := by decide +kernel
theorem dL_law_177 : decode cL_law 177 = .ok (.iload 16, 2) := by decide +kernel
theorem dL_law_179 : decode cL_law 179 = .ok (.iadd, 1) := by decide +kernel
theorem dL_law_180 : decode cL_law 180 = .ok (.bipush 100, 2) := by decide +kernel
theorem dL_law_182 : decode cL_law 182 = .ok (.iastore, 1) := by decide +kernel
theorem dL_law_183 : decode cL_law 183 = .ok (.aload 12, 2) := by decide +kernel
theorem dL_law_185 : decode cL_law 185 = .ok (.bipush 16, 2) := by decide +kernel
theorem dL_law_187 : decode cL_law 187 = .ok (.iload 16, 2) := by decide +kernel
theorem dL_law_189 : decode cL_law 189 = .ok (.iadd, 1) := by decide +kernel
theorem dL_law_190 : decode cL_law 190 = .ok (.iload 16, 2) := by decide +kernel
theorem dL_law_192 : decode cL_law 192 = .ok (.iconst 3, 1) := by decide +kernel
theorem dL_law_193 : decode cL_law 193 = .ok (.irem, 1) := by decide +kernel
theorem dL_law_194 : decode cL_law 194 = .ok (.iastore, 1) := by decide +kernel
theorem dL_law_195 : decode cL_law 195 = .ok (.iinc 16 1, 3) := by decide +kernel
theorem dL_law_198 : decode cL_law 198 = .ok (.goto (-42), 3) := by decide +kernel
theorem dL_law_201 : decode cL_law 201 = .ok (.iconst 0, 1) := by decide +kernel
theorem dL_law_202 : decode cL_law 202 = .ok (.istore 16, 2) := by decide +kernel
theorem dL_law_204 : decode cL_law 204 = .ok (.iload 16, 2) := by decide +kernel
theorem dL_law_206 : decode cL_law 206 = .ok (.iconst 3, 1) := by decide +kernel
theorem dL_law_207 : decode cL_law 207 = .ok (.if_icmp .ge 62, 3) := by decide +kernel
theorem dL_law_210 : decode cL_law 210 = .ok (.aload 8, 2) := by decide +kernel
theorem dL_law_212 : decode cL_law 212 = .ok (.bipush 8, 2) := by decide +kernel
theorem dL_law_214 : decode cL_law 214 = .ok (.iload 16, 2) := by decide +kernel
theorem dL_law_216 : decode cL_law 216 = .ok (.imul, 1) := by decide +kernel
theorem dL_law_217 : decode cL_law 217 = .ok (.iconst 1, 1) := by decide +kernel
theorem dL_law_218 : decode cL_law 218 = .ok (.iadd, 1) := by decide +kernel
theorem dL_law_219 : decode cL_law 219 = .ok (.iconst (-1), 1) := by decide +kernel
theorem dL_law_220 : decode cL_law 220 = .ok (.iastore, 1) := by decide +kernel
theorem dL_law_221 : decode cL_law 221 = .ok (.aload 8, 2) := by decide +kernel
theorem dL_law_223 : decode cL_law 223 = .ok (.bipush 8, 2) := by decide +kernel
theorem dL_law_225 : decode cL_law 225 = .ok (.iload 16, 2) := by decide +kernel
theorem dL_law_227 : decode cL_law 227 = .ok (.imul, 1) := by decide +kernel
theorem dL_law_228 : decode cL_law 228 = .ok (.iconst 4, 1) := by decide +kernel
theorem dL_law_229 : decode cL_law 229 = .ok (.iadd, 1) := by decide +kernel
theorem dL_law_230 : decode cL_law 230 = .ok (.iconst (-1), 1) := by decide +kernel
theorem dL_law_231 : decode cL_law 231 = .ok (.iastore, 1) := by decide +kernel
theorem dL_law_232 : decode cL_law 232 = .ok (.aload 8, 2) := by decide +kernel
theorem dL_law_234 : decode cL_law 234 = .ok (.bipush 8, 2) := by decide +kernel
theorem dL_law_236 : decode cL_law 236 = .ok (.iload 16, 2) := by decide +kernel
theorem dL_law_238 : decode cL_law 238 = .ok (.imul, 1) := by decide +kernel
theorem dL_law_239 : decode cL_law 239 = .ok (.iconst 5, 1) := by decide +kernel
theorem dL_law_240 : decode cL_law 240 = .ok (.iadd, 1) := by decide +kernel
theorem dL_law_241 : decode cL_law 241 = .ok (.bipush 10, 2) := by decide +kernel
theorem dL_law_243 : decode cL_law 243 = .ok (.iastore, 1) := by decide +kernel
theorem dL_law_244 : decode cL_law 244 = .ok (.aload 8, 2) := by decide +kernel
theorem dL_law_246 : decode cL_law 246 = .ok (.bipush 8, 2) := by decide +kernel
theorem dL_law_248 : decode cL_law 248 = .ok (.iload 16, 2) := by decide +kernel
theorem dL_law_250 : decode cL_law 250 = .ok (.imul, 1) := by decide +kernel
theorem dL_law_251 : decode cL_law 251 = .ok (.bipush 6, 2) := by decide +kernel
theorem dL_law_253 : decode cL_law 253 = .ok (.iadd, 1) := by decide +kernel
theorem dL_law_254 : decode cL_law 254 = .ok (.iconst 1, 1) := by decide +kernel
theorem dL_law_255 : decode cL_law 255 = .ok (.iastore, 1) := by decide +kernel
theorem dL_law_256 : decode cL_law 256 = .ok (.aload 9, 2) := by decide +kernel
theorem dL_law_258 : decode cL_law 258 = .ok (.iload 16, 2) := by decide +kernel
theorem dL_law_260 : decode cL_law 260 = .ok (.invokestatic 103, 3) := by decide +kernel
theorem dL_law_263 : decode cL_law 263 = .ok (.iinc 16 1, 3) := by decide +kernel
theorem dL_law_266 : decode cL_law 266 = .ok (.goto (-62), 3) := by decide +kernel
theorem dL_law_269 : decode cL_law 269 = .ok (.aload_n 1, 1) := by decide +kernel
theorem dL_law_270 : decode cL_law 270 = .ok (.iconst 0, 1) := by decide +kernel
theorem dL_law_271 : decode cL_law 271 = .ok (.iconst 0, 1) := by decide +kernel
theorem dL_law_272 : decode cL_law 272 = .ok (.iconst 4, 1) := by decide +kernel
theorem dL_law_273 : decode cL_law 273 = .ok (.iconst 0, 1) := by decide +kernel
theorem dL_law_274 : decode cL_law 274 = .ok (.iconst 0, 1) := by decide +kernel
theorem dL_law_275 : decode cL_law 275 = .ok (.iconst 0, 1) := by decide +kernel
theorem dL_law_276 : decode cL_law 276 = .ok (.iconst 0, 1) := by decide +kernel
theorem dL_law_277 : decode cL_law 277 = .ok (.invokestatic 183, 3) := by decide +kernel
theorem dL_law_280 : decode cL_law 280 = .ok (.ldc 84, 2) := by decide +kernel
theorem dL_law_282 : decode cL_law 282 = .ok (.if_icmp .ne 111, 3) := by decide +kernel
theorem dL_law_285 : decode cL_law 285 = .ok (.aload_n 1, 1) := by decide +kernel
theorem dL_law_286 : decode cL_law 286 = .ok (.bipush 8, 2) := by decide +kernel
theorem dL_law_288 : decode cL_law 288 = .ok (.iconst 0, 1) := by decide +kernel
theorem dL_law_289 : decode cL_law 289 = .ok (.iconst 0, 1) := by decide +kernel
theorem dL_law_290 : decode cL_law 290 = .ok (.iconst 0, 1) := by decide +kernel
theorem dL_law_291 : decode cL_law 291 = .ok (.iconst 0, 1) := by decide +kernel
theorem dL_law_292 : decode cL_law 292 = .ok (.iconst 0, 1) := by decide +kernel
theorem dL_law_293 : decode cL_law 293 = .ok (.iconst 0, 1) := by decide +kernel
theorem dL_law_294 : decode cL_law 294 = .ok (.invokestatic 183, 3) := by decide +kernel
theorem dL_law_297 : decode cL_law 297 = .ok (.ldc 90, 2) := by decide +kernel
theorem dL_law_299 : decode cL_law 299 = .ok (.if_icmp .ne 94, 3) := by decide +kernel
theorem dL_law_302 : decode cL_law 302 = .ok (.aload_n 1, 1) := by decide +kernel
theorem dL_law_303 : decode cL_law 303 = .ok (.bipush 9, 2) := by decide +kernel
theorem dL_law_305 : decode cL_law 305 = .ok (.iconst 0, 1) := by decide +kernel
theorem dL_law_306 : decode cL_law 306 = .ok (.iconst 0, 1) := by decide +kernel
theorem dL_law_307 : decode cL_law 307 = .ok (.iconst 0, 1) := by decide +kernel
theorem dL_law_308 : decode cL_law 308 = .ok (.iconst 0, 1) := by decide +kernel
theorem dL_law_309 : decode cL_law 309 = .ok (.iconst 0, 1) := by decide +kernel
theorem dL_law_310 : decode cL_law 310 = .ok (.iconst 0, 1) := by decide +kernel
theorem dL_law_311 : decode cL_law 311 = .ok (.invokestatic 183, 3) := by decide +kernel
theorem dL_law_314 : decode cL_law 314 = .ok (.ldc 90, 2) := by decide +kernel
theorem dL_law_316 : decode cL_law 316 = .ok (.if_icmp .ne 77, 3) := by decide +kernel
theorem dL_law_319 : decode cL_law 319 = .ok (.aload_n 1, 1) := by decide +kernel
theorem dL_law_320 : decode cL_law 320 = .ok (.bipush 10, 2) := by decide +kernel
theorem dL_law_322 : decode cL_law 322 = .ok (.iconst 0, 1) := by decide +kernel
theorem dL_law_323 : decode cL_law 323 = .ok (.iconst 0, 1) := by decide +kernel
theorem dL_law_324 : decode cL_law 324 = .ok (.iconst 0, 1) := by decide +kernel
theorem dL_law_325 : decode cL_law 325 = .ok (.iconst 0, 1) := by decide +kernel
theorem dL_law_326 : decode cL_law 326 = .ok (.iconst 0, 1) := by decide +kernel
theorem dL_law_327 : decode cL_law 327 = .ok (.iconst 0, 1) := by decide +kernel
theorem dL_law_328 : decode cL_law 328 = .ok (.invokestatic 183, 3) := by decide +kernel
theorem dL_law_331 : decode cL_law 331 = .ok (.ldc 90, 2) := by decide +kernel
theorem dL_law_333 : decode cL_law 333 = .ok (.if_icmp .ne 60, 3) := by decide +kernel
theorem dL_law_336 : decode cL_law 336 = .ok (.aload_n 1, 1) := by decide +kernel
theorem dL_law_337 : decode cL_law 337 = .ok (.bipush 16, 2) := by decide +kernel
theorem dL_law_339 : decode cL_law 339 = .ok (.sipush 501, 3) := by decide +kernel
theorem dL_law_342 : decode cL_law 342 = .ok (.iconst 0, 1) := by decide +kernel
theorem dL_law_343 : decode cL_law 343 = .ok (.iconst 0, 1) := by decide +kernel
theorem dL_law_344 : decode cL_law 344 = .ok (.iconst 0, 1) := by decide +kernel
theorem dL_law_345 : decode cL_law 345 = .ok (.iconst 0, 1) := by decide +kernel
theorem dL_law_346 : decode cL_law 346 = .ok (.iconst 0, 1) := by decide +kernel
theorem dL_law_347 : decode cL_law 347 = .ok (.invokestatic 183, 3) := by decide +kernel
theorem dL_law_350 : decode cL_law 350 = .ok (.ldc 87, 2) := by decide +kernel
theorem dL_law_352 : decode cL_law 352 = .ok (.if_icmp .ne 41, 3) := by decide +kernel
theorem dL_law_355 : decode cL_law 355 = .ok (.aload_n 1, 1) := by decide +kernel
theorem dL_law_356 : decode cL_law 356 = .ok (.bipush 20, 2) := by decide +kernel
theorem dL_law_358 : decode cL_law 358 = .ok (.iconst 0, 1) := by decide +kernel
theorem dL_law_359 : decode cL_law 359 = .ok (.iconst 0, 1) := by decide +kernel
theorem dL_law_360 : decode cL_law 360 = .ok (.iconst 0, 1) := by decide +kernel
theorem dL_law_361 : decode cL_law 361 = .ok (.iconst 0, 1) := by decide +kernel
theorem dL_law_362 : decode cL_law 362 = .ok (.iconst 0, 1) := by decide +kernel
theorem dL_law_363 : decode cL_law 363 = .ok (.iconst 0, 1) := by decide +kernel
theorem dL_law_364 : decode cL_law 364 = .ok (.invokestatic 183, 3) := by decide +kernel
theorem dL_law_367 : decode cL_law 367 = .ok (.ldc 84, 2) := by decide +kernel
theorem dL_law_369 : decode cL_law 369 = .ok (.if_icmp .ne 24, 3) := by decide +kernel
theorem dL_law_372 : decode cL_law 372 = .ok (.aload_n 1, 1) := by decide +kernel
theorem dL_law_373 : decode cL_law 373 = .ok (.bipush 13, 2) := by decide +kernel
theorem dL_law_375 : decode cL_law 375 = .ok (.iconst 0, 1) := by decide +kernel
theorem dL_law_376 : decode cL_law 376 = .ok (.iconst 0, 1) := by decide +kernel
theorem dL_law_377 : decode cL_law 377 = .ok (.iconst 0, 1) := by decide +kernel
theorem dL_law_378 : decode cL_law 378 = .ok (.iconst 0, 1) := by decide +kernel
theorem dL_law_379 : decode cL_law 379 = .ok (.iconst 0, 1) := by decide +kernel
theorem dL_law_380 : decode cL_law 380 = .ok (.iconst 0, 1) := by decide +kernel
theorem dL_law_381 : decode cL_law 381 = .ok (.invokestatic 183, 3) := by decide +kernel
theorem dL_law_384 : decode cL_law 384 = .ok (.ldc 87, 2) := by decide +kernel
theorem dL_law_386 : decode cL_law 386 = .ok (.if_icmp .ne 7, 3) := by decide +kernel
theorem dL_law_389 : decode cL_law 389 = .ok (.iconst 1, 1) := by decide +kernel
theorem dL_law_390 : decode cL_law 390 = .ok (.goto 4, 3) := by decide +kernel
theorem dL_law_393 : decode cL_law 393 = .ok (.iconst 0, 1) := by decide +kernel
theorem dL_law_394 : decode cL_law 394 = .ok (.istore 16, 2) := by decide +kernel
theorem dL_law_396 : decode cL_law 396 = .ok (.iconst 0, 1) := by decide +kernel
theorem dL_law_397 : decode cL_law 397 = .ok (.istore 17, 2) := by decide +kernel
theorem dL_law_399 : decode cL_law 399 = .ok (.iload 17, 2) := by decide +kernel
theorem dL_law_401 : decode cL_law 401 = .ok (.bipush 64, 2) := by decide +kernel
theorem dL_law_403 : decode cL_law 403 = .ok (.if_icmp .ge 448, 3) := by decide +kernel
theorem dL_law_406 : decode cL_law 406 = .ok (.iload 16, 2) := by decide +kernel
theorem dL_law_408 : decode cL_law 408 = .ok (.ifCond .eq 443, 3) := by decide +kernel
theorem dL_law_411 : decode cL_law 411 = .ok (.iload 17, 2) := by decide +kernel
theorem dL_law_413 : decode cL_law 413 = .ok (.iconst 3, 1) := by decide +kernel
theorem dL_law_414 : decode cL_law 414 = .ok (.if_icmp .ge 7, 3) := by decide +kernel
theorem dL_law_417 : decode cL_law 417 = .ok (.iconst 4, 1) := by decide +kernel
theorem dL_law_418 : decode cL_law 418 = .ok (.goto 47, 3) := by decide +kernel
theorem dL_law_421 : decode cL_law 421 = .ok (.iload 17, 2) := by decide +kernel
theorem dL_law_423 : decode cL_law 423 = .ok (.iconst 4, 1) := by decide +kernel
theorem dL_law_424 : decode cL_law 424 = .ok (.if_icmp .ge 7, 3) := by decide +kernel
theorem dL_law_427 : decode cL_law 427 = .ok (.iconst 2, 1) := by decide +kernel
theorem dL_law_428 : decode cL_law 428 = .ok (.goto 37, 3) := by decide +kernel
theorem dL_law_431 : decode cL_law 431 = .ok (.iload 17, 2) := by decide +kernel
theorem dL_law_433 : decode cL_law 433 = .ok (.bipush 10, 2) := by decide +kernel
theorem dL_law_435 : decode cL_law 435 = .ok (.if_icmp .ge 8, 3) := by decide +kernel
theorem dL_law_438 : decode cL_law 438 = .ok (.bipush 11, 2) := by decide +kernel
theorem dL_law_440 : decode cL_law 440 = .ok (.goto 25, 3) := by decide +kernel
theorem dL_law_443 : decode cL_law 443 = .ok (.iload 17, 2) := by decide +kernel
theorem dL_law_445 : decode cL_law 445 = .ok (.bipush 10, 2) := by decide +kernel
theorem dL_law_447 : decode cL_law 447 = .ok (.if_icmp .ne 8, 3) := by decide +kernel
theorem dL_law_450 : decode cL_law 450 = .ok (.bipush 12, 2) := by decide +kernel
theorem dL_law_452 : decode cL_law 452 = .ok (.goto 13, 3) := by decide +kernel
theorem dL_law_455 : decode cL_law 455 = .ok (.aload_n 0, 1) := by decide +kernel
theorem dL_law_456 : decode cL_law 456 = .ok (.iconst 3, 1) := by decide +kernel
theorem dL_law_457 : decode cL_law 457 = .ok (.iload 17, 2) := by decide +kernel
theorem dL_law_459 : decode cL_law 459 = .ok (.imul, 1) := by decide +kernel
theorem dL_law_460 : decode cL_law 460 = .ok (.bipush 40, 2) := by decide +kernel
theorem dL_law_462 : decode cL_law 462 = .ok (.invokestatic 208, 3) := by decide +kernel
theorem dL_law_465 : decode cL_law 465 = .ok (.istore 18, 2) := by decide +kernel
theorem dL_law_467 : decode cL_law 467 = .ok (.iload 17, 2) := by decide +kernel
theorem dL_law_469 : decode cL_law 469 = .ok (.iconst 3, 1) := by decide +kernel
theorem dL_law_470 : decode cL_law 470 = .ok (.if_icmp .ge 12, 3) := by decide +kernel
theorem dL_law_473 : decode cL_law 473 = .ok (.sipush 414, 3) := by decide +kernel
theorem dL_law_476 : decode cL_law 476 = .ok (.iload 17, 2) := by decide +kernel
theorem dL_law_478 : decode cL_law 478 = .ok (.iadd, 1) := by decide +kernel
theorem dL_law_479 : decode cL_law 479 = .ok (.goto 15, 3) := by decide +kernel
theorem dL_law_482 : decode cL_law 482 = .ok (.aload_n 0, 1) := by decide +kernel
theorem dL_law_483 : decode cL_law 483 = .ok (.iconst 3, 1) := by decide +kernel
theorem dL_law_484 : decode cL_law 484 = .ok (.iload 17, 2) := by decide +kernel
theorem dL_law_486 : decode cL_law 486 = .ok (.imul, 1) := by decide +kernel
theorem dL_law_487 : decode cL_law 487 = .ok (.iconst 1, 1) := by decide +kernel
theorem dL_law_488 : decode cL_law 488 = .ok (.iadd, 1) := by decide +kernel
theorem dL_law_489 : decode cL_law 489 = .ok (.ldc 212, 2) := by decide +kernel
theorem dL_law_491 : decode cL_law 491 = .ok (.invokestatic 208, 3) := by decide +kernel
theorem dL_law_494 : decode cL_law 494 = .ok (.istore 19, 2) := by decide +kernel
theorem dL_law_496 : decode cL_law 496 = .ok (.aload_n 0, 1) := by decide +kernel
theorem dL_law_497 : decode cL_law 497 = .ok (.iconst 3, 1) := by decide +kernel
theorem dL_law_498 : decode cL_law 498 = .ok (.iload 17, 2) := by decide +kernel
theorem dL_law_500 : decode cL_law 500 = .ok (.imul, 1) := by decide +kernel
theorem dL_law_501 : decode cL_law 501 = .ok (.iconst 2, 1) := by decide +kernel
theorem dL_law_502 : decode cL_law 502 = .ok (.iadd, 1) := by decide +kernel
theorem dL_law_503 : decode cL_law 503 = .ok (.ldc 212, 2) := by decide +kernel
theorem dL_law_505 : decode cL_law 505 = .ok (.invokestatic 208, 3) := by decide +kernel
theorem dL_law_508 : decode cL_law 508 = .ok (.istore 20, 2) := by decide +kernel
theorem dL_law_510 : decode cL_law 510 = .ok (.iload 18, 2) := by decide +kernel
theorem dL_law_512 : decode cL_law 512 = .ok (.bipush 11, 2) := by decide +kernel
theorem dL_law_514 : decode cL_law 514 = .ok (.if_icmp .ge 32, 3) := by decide +kernel
theorem dL_law_517 : decode cL_law 517 = .ok (.aload_n 1, 1) := by decide +kernel
theorem dL_law_518 : decode cL_law 518 = .ok (.aload_n 2, 1) := by decide +kernel
theorem dL_law_519 : decode cL_law 519 = .ok (.aload_n 3, 1) := by decide +kernel
theorem dL_law_520 : decode cL_law 520 = .ok (.aload 4, 2) := by decide +kernel
theorem dL_law_522 : decode cL_law 522 = .ok (.aload 5, 2) := by decide +kernel
theorem dL_law_524 : decode cL_law 524 = .ok (.aload 8, 2) := by decide +kernel
theorem dL_law_526 : decode cL_law 526 = .ok (.aload 12, 2) := by decide +kernel
theorem dL_law_528 : decode cL_law 528 = .ok (.aload 13, 2) := by decide +kernel
theorem dL_law_530 : decode cL_law 530 = .ok (.aload 14, 2) := by decide +kernel
theorem dL_law_532 : decode cL_law 532 = .ok (.iload 18, 2) := by decide +kernel
theorem dL_law_534 : decode cL_law 534 = .ok (.iload 19, 2) := by decide +kernel
theorem dL_law_536 : decode cL_law 536 = .ok (.iload 20, 2) := by decide +kernel
theorem dL_law_538 : decode cL_law 538 = .ok (.invokestatic 213, 3) := by decide +kernel
theorem dL_law_541 : decode cL_law 541 = .ok (.istore 16, 2) := by decide +kernel
theorem dL_law_543 : decode cL_law 543 = .ok (.goto 218, 3) := by decide +kernel
theorem dL_law_546 : decode cL_law 546 = .ok (.iload 18, 2) := by decide +kernel
theorem dL_law_548 : decode cL_law 548 = .ok (.bipush 29, 2) := by decide +kernel
theorem dL_law_550 : decode cL_law 550 = .ok (.if_icmp .ge 115, 3) := by decide +kernel
theorem dL_law_553 : decode cL_law 553 = .ok (.iload 18, 2) := by decide +kernel
theorem dL_law_555 : decode cL_law 555 = .ok (.bipush 11, 2) := by decide +kernel
theorem dL_law_557 : decode cL_law 557 = .ok (.if_icmp .ne 7, 3) := by decide +kernel
theorem dL_law_560 : decode cL_law 560 = .ok (.iconst 0, 1) := by decide +kernel
theorem dL_law_561 : decode cL_law 561 = .ok (.goto 61, 3) := by decide +kernel
theorem dL_law_564 : decode cL_law 564 = .ok (.iload 18, 2) := by decide +kernel
theorem dL_law_566 : decode cL_law 566 = .ok (.bipush 12, 2) := by decide +kernel
theorem dL_law_568 : decode cL_law 568 = .ok (.if_icmp .ne 7, 3) := by decide +kernel
theorem dL_law_571 : decode cL_law 571 = .ok (.iconst 1, 1) := by decide +kernel
theorem dL_law_572 : decode cL_law 572 = .ok (.goto 50, 3) := by decide +kernel
theorem dL_law_575 : decode cL_law 575 = .ok (.iload 18, 2) := by decide +kernel
theorem dL_law_577 : decode cL_law 577 = .ok (.bipush 13, 2) := by decide +kernel
theorem dL_law_579 : decode cL_law 579 = .ok (.if_icmp .ne 7, 3) := by decide +kernel
theorem dL_law_582 : decode cL_law 582 = .ok (.iconst 2, 1) := by decide +kernel
theorem dL_law_583 : decode cL_law 583 = .ok (.goto 39, 3) := by decide +kernel
theorem dL_law_586 : decode cL_law 586 = .ok (.iload 18, 2) := by decide +kernel
theorem dL_law_588 : decode cL_law 588 = .ok (.bipush 16, 2) := by decide +kernel
theorem dL_law_590 : decode cL_law 590 = .ok (.if_icmp .ge 7, 3) := by decide +kernel
theorem dL_law_593 : decode cL_law 593 = .ok (.iconst 0, 1) := by decide +kernel
theorem dL_law_594 : decode cL_law 594 = .ok (.goto 28, 3) := by decide +kernel
theorem dL_law_597 : decode cL_law 597 = .ok (.iload 18, 2) := by decide +kernel
theorem dL_law_599 : decode cL_law 599 = .ok (.bipush 23, 2) := by decide +kernel
theorem dL_law_601 : decode cL_law 601 = .ok (.if_icmp .ge 7, 3) := by decide +kernel
theorem dL_law_604 : decode cL_law 604 = .ok (.iconst 3, 1) := by decide +kernel
theorem dL_law_605 : decode cL_law 605 = .ok (.goto 17, 3) := by decide +kernel
theorem dL_law_608 : decode cL_law 608 = .ok (.iload 18, 2) := by decide +kernel
theorem dL_law_610 : decode cL_law 610 = .ok (.bipush 28, 2) := by decide +kernel
theorem dL_law_612 : decode cL_law 612 = .ok (.if_icmp .ge 8, 3) := by decide +kernel
theorem dL_law_615 : decode cL_law 615 = .ok (.bipush 7, 2) := by decide +kernel
theorem dL_law_617 : decode cL_law 617 = .ok (.goto 5, 3) := by decide +kernel
theorem dL_law_620 : decode cL_law 620 = .ok (.bipush 9, 2) := by decide +kernel
theorem dL_law_622 : decode cL_law 622 = .ok (.istore 21, 2) := by decide +kernel
theorem dL_law_624 : decode cL_law 624 = .ok (.aload_n 1, 1) := by decide +kernel
theorem dL_law_625 : decode cL_law 625 = .ok (.aload_n 2, 1) := by decide +kernel
theorem dL_law_626 : decode cL_law 626 = .ok (.aload_n 3, 1) := by decide +kernel
theorem dL_law_627 : decode cL_law 627 = .ok (.aload 4, 2) := by decide +kernel
theorem dL_law_629 : decode cL_law 629 = .ok (.aload 5, 2) := by decide +kernel
theorem dL_law_631 : decode cL_law 631 = .ok (.aload 6, 2) := by decide +kernel
theorem dL_law_633 : decode cL_law 633 = .ok (.aload 7, 2) := by decide +kernel
theorem dL_law_635 : decode cL_law 635 = .ok (.aload 8, 2) := by decide +kernel
theorem dL_law_637 : decode cL_law 637 = .ok (.aload 9, 2) := by decide +kernel
theorem dL_law_639 : decode cL_law 639 = .ok (.aload 10, 2) := by decide +kernel
theorem dL_law_641 : decode cL_law 641 = .ok (.aload 11, 2) := by decide +kernel
theorem dL_law_643 : decode cL_law 643 = .ok (.aload 12, 2) := by decide +kernel
theorem dL_law_645 : decode cL_law 645 = .ok (.aload 13, 2) := by decide +kernel
theorem dL_law_647 : decode cL_law 647 = .ok (.aload 14, 2) := by decide +kernel
theorem dL_law_649 : decode cL_law 649 = .ok (.aload 15, 2) := by decide +kernel
theorem dL_law_651 : decode cL_law 651 = .ok (.iload 21, 2) := by decide +kernel
theorem dL_law_653 : decode cL_law 653 = .ok (.iload 19, 2) := by decide +kernel
theorem dL_law_655 : decode cL_law 655 = .ok (.iload 20, 2) := by decide +kernel
theorem dL_law_657 : decode cL_law 657 = .ok (.invokestatic 217, 3) := by decide +kernel
theorem dL_law_660 : decode cL_law 660 = .ok (.istore 16, 2) := by decide +kernel
theorem dL_law_662 : decode cL_law 662 = .ok (.goto 99, 3) := by decide +kernel
theorem dL_law_665 : decode cL_law 665 = .ok (.iload 19, 2) := by decide +kernel
theorem dL_law_667 : decode cL_law 667 = .ok (.bipush 6, 2) := by decide +kernel
theorem dL_law_669 : decode cL_law 669 = .ok (.irem, 1) := by decide +kernel
theorem dL_law_670 : decode cL_law 670 = .ok (.ifCond .ne 13, 3) := by decide +kernel
theorem dL_law_673 : decode cL_law 673 = .ok (.iconst 1, 1) := by decide +kernel
theorem dL_law_674 : decode cL_law 674 = .ok (.iload 19, 2) := by decide +kernel
theorem dL_law_676 : decode cL_law 676 = .ok (.bipush 40, 2) := by decide +kernel
theorem dL_law_678 : decode cL_law 678 = .ok (.irem, 1) := by decide +kernel
theorem dL_law_679 : decode cL_law 679 = .ok (.iadd, 1) := by decide +kernel
theorem dL_law_680 : decode cL_law 680 = .ok (.goto 9, 3) := by decide +kernel
theorem dL_law_683 : decode cL_law 683 = .ok (.iconst 1, 1) := by decide +kernel
theorem dL_law_684 : decode cL_law 684 = .ok (.iload 19, 2) := by decide +kernel
theorem dL_law_686 : decode cL_law 686 = .ok (.iconst 4, 1) := by decide +kernel
theorem dL_law_687 : decode cL_law 687 = .ok (.irem, 1) := by decide +kernel
theorem dL_law_688 : decode cL_law 688 = .ok (.iadd, 1) := by decide +kernel
theorem dL_law_689 : decode cL_law 689 = .ok (.istore 21, 2) := by decide +kernel
theorem dL_law_691 : decode cL_law 691 = .ok (.iconst 0, 1) := by decide +kernel
theorem dL_law_692 : decode cL_law 692 = .ok (.istore 22, 2) := by decide +kernel
theorem dL_law_694 : decode cL_law 694 = .ok (.iload 22, 2) := by decide +kernel
theorem dL_law_696 : decode cL_law 696 = .ok (.iload 21, 2) := by decide +kernel
theorem dL_law_698 : decode cL_law 698 = .ok (.if_icmp .ge 36, 3) := by decide +kernel
theorem dL_law_701 : decode cL_law 701 = .ok (.aload_n 2, 1) := by decide +kernel
theorem dL_law_702 : decode cL_law 702 = .ok (.aload_n 3, 1) := by decide +kernel
theorem dL_law_703 : decode cL_law 703 = .ok (.aload 4, 2) := by decide +kernel
theorem dL_law_705 : decode cL_law 705 = .ok (.aload 5, 2) := by decide +kernel
theorem dL_law_707 : decode cL_law 707 = .ok (.aload 6, 2) := by decide +kernel
theorem dL_law_709 : decode cL_law 709 = .ok (.aload 7, 2) := by decide +kernel
theorem dL_law_711 : decode cL_law 711 = .ok (.aload 8, 2) := by decide +kernel
theorem dL_law_713 : decode cL_law 713 = .ok (.aload 9, 2) := by decide +kernel
theorem dL_law_715 : decode cL_law 715 = .ok (.aload 10, 2) := by decide +kernel
theorem dL_law_717 : decode cL_law 717 = .ok (.aload 11, 2) := by decide +kernel
theorem dL_law_719 : decode cL_law 719 = .ok (.aload 12, 2) := by decide +kernel
theorem dL_law_721 : decode cL_law 721 = .ok (.aload 14, 2) := by decide +kernel
theorem dL_law_723 : decode cL_law 723 = .ok (.aload 15, 2) := by decide +kernel
theorem dL_law_725 : decode cL_law 725 = .ok (.invokestatic 221, 3) := by decide +kernel
theorem dL_law_728 : decode cL_law 728 = .ok (.iinc 22 1, 3) := by decide +kernel
theorem dL_law_731 : decode cL_law 731 = .ok (.goto (-37), 3) := by decide +kernel
theorem dL_law_734 : decode cL_law 734 = .ok (.aload_n 1, 1) := by decide +kernel
theorem dL_law_735 : decode cL_law 735 = .ok (.bipush 16, 2) := by decide +kernel
theorem dL_law_737 : decode cL_law 737 = .ok (.iload 21, 2) := by decide +kernel
theorem dL_law_739 : decode cL_law 739 = .ok (.iconst 0, 1) := by decide +kernel
theorem dL_law_740 : decode cL_law 740 = .ok (.iconst 0, 1) := by decide +kernel
theorem dL_law_741 : decode cL_law 741 = .ok (.iconst 0, 1) := by decide +kernel
theorem dL_law_742 : decode cL_law 742 = .ok (.iconst 0, 1) := by decide +kernel
theorem dL_law_743 : decode cL_law 743 = .ok (.iconst 0, 1) := by decide +kernel
theorem dL_law_744 : decode cL_law 744 = .ok (.invokestatic 183, 3) := by decide +kernel
theorem dL_law_747 : decode cL_law 747 = .ok (.aload 12, 2) := by decide +kernel
theorem dL_law_749 : decode cL_law 749 = .ok (.iconst 0, 1) := by decide +kernel
theorem dL_law_750 : decode cL_law 750 = .ok (.iaload, 1) := by decide +kernel
theorem dL_law_751 : decode cL_law 751 = .ok (.if_icmp .ne 7, 3) := by decide +kernel
theorem dL_law_754 : decode cL_law 754 = .ok (.iconst 1, 1) := by decide +kernel
theorem dL_law_755 : decode cL_law 755 = .ok (.goto 4, 3) := by decide +kernel
theorem dL_law_758 : decode cL_law 758 = .ok (.iconst 0, 1) := by decide +kernel
theorem dL_law_759 : decode cL_law 759 = .ok (.istore 16, 2) := by decide +kernel
theorem dL_law_761 : decode cL_law 761 = .ok (.iconst 0, 1) := by decide +kernel
theorem dL_law_762 : decode cL_law 762 = .ok (.istore 21, 2) := by decide +kernel
theorem dL_law_764 : decode cL_law 764 = .ok (.iload 21, 2) := by decide +kernel
theorem dL_law_766 : decode cL_law 766 = .ok (.aload 12, 2) := by decide +kernel
theorem dL_law_768 : decode cL_law 768 = .ok (.iconst 4, 1) := by decide +kernel
theorem dL_law_769 : decode cL_law 769 = .ok (.iaload, 1) := by decide +kernel
theorem dL_law_770 : decode cL_law 770 = .ok (.if_icmp .ge 34, 3) := by decide +kernel
theorem dL_law_773 : decode cL_law 773 = .ok (.aload_n 3, 1) := by decide +kernel
theorem dL_law_774 : decode cL_law 774 = .ok (.iload 21, 2) := by decide +kernel
theorem dL_law_776 : decode cL_law 776 = .ok (.aload_n 3, 1) := by decide +kernel
theorem dL_law_777 : decode cL_law 777 = .ok (.iload 21, 2) := by decide +kernel
theorem dL_law_779 : decode cL_law 779 = .ok (.iaload, 1) := by decide +kernel
theorem dL_law_780 : decode cL_law 780 = .ok (.sipush 16384, 3) := by decide +kernel
theorem dL_law_783 : decode cL_law 783 = .ok (.irem, 1) := by decide +kernel
theorem dL_law_784 : decode cL_law 784 = .ok (.sipush 16384, 3) := by decide +kernel
theorem dL_law_787 : decode cL_law 787 = .ok (.aload 6, 2) := by decide +kernel
theorem dL_law_789 : decode cL_law 789 = .ok (.iload 21, 2) := by decide +kernel
theorem dL_law_791 : decode cL_law 791 = .ok (.iaload, 1) := by decide +kernel
theorem dL_law_792 : decode cL_law 792 = .ok (.ldc 115, 2) := by decide +kernel
theorem dL_law_794 : decode cL_law 794 = .ok (.irem, 1) := by decide +kernel
theorem dL_law_795 : decode cL_law 795 = .ok (.imul, 1) := by decide +kernel
theorem dL_law_796 : decode cL_law 796 = .ok (.iadd, 1) := by decide +kernel
theorem dL_law_797 : decode cL_law 797 = .ok (.iastore, 1) := by decide +kernel
theorem dL_law_798 : decode cL_law 798 = .ok (.iinc 21 1, 3) := by decide +kernel
theorem dL_law_801 : decode cL_law 801 = .ok (.goto (-37), 3) := by decide +kernel
theorem dL_law_804 : decode cL_law 804 = .ok (.iload 16, 2) := by decide +kernel
theorem dL_law_806 : decode cL_law 806 = .ok (.ifCond .eq 36, 3) := by decide +kernel
theorem dL_law_809 : decode cL_law 809 = .ok (.aload_n 1, 1) := by decide +kernel
theorem dL_law_810 : decode cL_law 810 = .ok (.aload_n 2, 1) := by decide +kernel
theorem dL_law_811 : decode cL_law 811 = .ok (.aload_n 3, 1) := by decide +kernel
theorem dL_law_812 : decode cL_law 812 = .ok (.aload 4, 2) := by decide +kernel
theorem dL_law_814 : decode cL_law 814 = .ok (.aload 5, 2) := by decide +kernel
theorem dL_law_816 : decode cL_law 816 = .ok (.aload 6, 2) := by decide +kernel
theorem dL_law_818 : decode cL_law 818 = .ok (.aload 7, 2) := by decide +kernel
theorem dL_law_820 : decode cL_law 820 = .ok (.aload 8, 2) := by decide +kernel
theorem dL_law_822 : decode cL_law 822 = .ok (.aload 12, 2) := by decide +kernel
theorem dL_law_824 : decode cL_law 824 = .ok (.aload 13, 2) := by decide +kernel
theorem dL_law_826 : decode cL_law 826 = .ok (.aload 14, 2) := by decide +kernel
theorem dL_law_828 : decode cL_law 828 = .ok (.aload 15, 2) := by decide +kernel
theorem dL_law_830 : decode cL_law 830 = .ok (.iload 19, 2) := by decide +kernel
theorem dL_law_832 : decode cL_law 832 = .ok (.invokestatic 225, 3) := by decide +kernel
theorem dL_law_835 : decode cL_law 835 = .ok (.ifCond .eq 7, 3) := by decide +kernel
theorem dL_law_838 : decode cL_law 838 = .ok (.iconst 1, 1) := by decide +kernel
theorem dL_law_839 : decode cL_law 839 = .ok (.goto 4, 3) := by decide +kernel
theorem dL_law_842 : decode cL_law 842 = .ok (.iconst 0, 1) := by decide +kernel
theorem dL_law_843 : decode cL_law 843 = .ok (.istore 16, 2) := by decide +kernel
theorem dL_law_845 : decode cL_law 845 = .ok (.iinc 17 1, 3) := by decide +kernel
theorem dL_law_848 : decode cL_law 848 = .ok (.goto (-449), 3) := by decide +kernel
theorem dL_law_851 : decode cL_law 851 = .ok (.iload 16, 2) := by decide +kernel
theorem dL_law_853 : decode cL_law 853 = .ok (.ireturn, 1) := by decide +kernel
