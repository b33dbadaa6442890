theorem dL_law__1373 : decode cL_law_ 1373 = .ok (.iadd, 1) := by decide +kernel
theorem dL_law__1374 : decode cL_law_ 1374 = .ok (.iaload, 1) := by decide +kernel
theorem dL_law__1375 : decode cL_law_ 1375 = .ok (.invokevirtual 201, 3) := by decide +kernel
theorem dL_law__1378 : decode cL_law_ 1378 = .ok (.istore 6, 2) := by decide +kernel
theorem dL_law__1380 : decode cL_law_ 1380 = .ok (.aload_n 2, 1) := by decide +kernel
theorem dL_law__1381 : decode cL_law_ 1381 = .ok (.invokevirtual 139, 3) := by decide +kernel
theorem dL_law__1384 : decode cL_law_ 1384 = .ok (.iload 5, 2) := by decide +kernel
theorem dL_law__1386 : decode cL_law_ 1386 = .ok (.if_icmp .eq 5, 3) := by decide +kernel
theorem dL_law__1389 : decode cL_law_ 1389 = .ok (.iconst 0, 1) := by decide +kernel
theorem dL_law__1390 : decode cL_law_ 1390 = .ok (.ireturn, 1) := by decide +kernel
theorem dL_law__1391 : decode cL_law_ 1391 = .ok (.iload 5, 2) := by decide +kernel
theorem dL_law__1393 : decode cL_law_ 1393 = .ok (.ifCond .ne 15, 3) := by decide +kernel
theorem dL_law__1396 : decode cL_law_ 1396 = .ok (.aload_n 3, 1) := by decide +kernel
theorem dL_law__1397 : decode cL_law_ 1397 = .ok (.iconst 0, 1) := by decide +kernel
theorem dL_law__1398 : decode cL_law_ 1398 = .ok (.laload, 1) := by decide +kernel
theorem dL_law__1399 : decode cL_law_ 1399 = .ok (.iload 6, 2) := by decide +kernel
theorem dL_law__1401 : decode cL_law_ 1401 = .ok (.i2l, 1) := by decide +kernel
theorem dL_law__1402 : decode cL_law_ 1402 = .ok (.lcmp, 1) := by decide +kernel
theorem dL_law__1403 : decode cL_law_ 1403 = .ok (.ifCond .eq 5, 3) := by decide +kernel
theorem dL_law__1406 : decode cL_law_ 1406 = .ok (.iconst 0, 1) := by decide +kernel
theorem dL_law__1407 : decode cL_law_ 1407 = .ok (.ireturn, 1) := by decide +kernel
theorem dL_law__1408 : decode cL_law_ 1408 = .ok (.goto 1236, 3) := by decide +kernel
theorem dL_law__1411 : decode cL_law_ 1411 = .ok (.aload_n 1, 1) := by decide +kernel
theorem dL_law__1412 : decode cL_law_ 1412 = .ok (.aload_n 0, 1) := by decide +kernel
theorem dL_law__1413 : decode cL_law_ 1413 = .ok (.iload 4, 2) := by decide +kernel
theorem dL_law__1415 : decode cL_law_ 1415 = .ok (.iconst 1, 1) := by decide +kernel
theorem dL_law__1416 : decode cL_law_ 1416 = .ok (.iadd, 1) := by decide +kernel
theorem dL_law__1417 : decode cL_law_ 1417 = .ok (.iaload, 1) := by decide +kernel
theorem dL_law__1418 : decode cL_law_ 1418 = .ok (.aload_n 0, 1) := by decide +kernel
theorem dL_law__1419 : decode cL_law_ 1419 = .ok (.iload 4, 2) := by decide +kernel
theorem dL_law__1421 : decode cL_law_ 1421 = .ok (.iconst 2, 1) := by decide +kernel
theorem dL_law__1422 : decode cL_law_ 1422 = .ok (.iadd, 1) := by decide +kernel
theorem dL_law__1423 : decode cL_law_ 1423 = .ok (.iaload, 1) := by decide +kernel
theorem dL_law__1424 : decode cL_law_ 1424 = .ok (.aload_n 3, 1) := by decide +kernel
theorem dL_law__1425 : decode cL_law_ 1425 = .ok (.invokestatic 202, 3) := by decide +kernel
theorem dL_law__1428 : decode cL_law_ 1428 = .ok (.istore 5, 2) := by decide +kernel
theorem dL_law__1430 : decode cL_law_ 1430 = .ok (.aload_n 2, 1) := by decide +kernel
theorem dL_law__1431 : decode cL_law_ 1431 = .ok (.aload_n 0, 1) := by decide +kernel
theorem dL_law__1432 : decode cL_law_ 1432 = .ok (.iload 4, 2) := by decide +kernel
theorem dL_law__1434 : decode cL_law_ 1434 = .ok (.iconst 1, 1) := by decide +kernel
theorem dL_law__1435 : decode cL_law_ 1435 = .ok (.iadd, 1) := by decide +kernel
theorem dL_law__1436 : decode cL_law_ 1436 = .ok (.iaload, 1) := by decide +kernel
theorem dL_law__1437 : decode cL_law_ 1437 = .ok (.aload_n 0, 1) := by decide +kernel
theorem dL_law__1438 : decode cL_law_ 1438 = .ok (.iload 4, 2) := by decide +kernel
theorem dL_law__1440 : decode cL_law_ 1440 = .ok (.iconst 2, 1) := by decide +kernel
theorem dL_law__1441 : decode cL_law_ 1441 = .ok (.iadd, 1) := by decide +kernel
theorem dL_law__1442 : decode cL_law_ 1442 = .ok (.iaload, 1) := by decide +kernel
theorem dL_law__1443 : decode cL_law_ 1443 = .ok (.invokevirtual 204, 3) := by decide +kernel
theorem dL_law__1446 : decode cL_law_ 1446 = .ok (.istore 6, 2) := by decide +kernel
theorem dL_law__1448 : decode cL_law_ 1448 = .ok (.aload_n 2, 1) := by decide +kernel
theorem dL_law__1449 : decode cL_law_ 1449 = .ok (.invokevirtual 139, 3) := by decide +kernel
theorem dL_law__1452 : decode cL_law_ 1452 = .ok (.iload 5, 2) := by decide +kernel
theorem dL_law__1454 : decode cL_law_ 1454 = .ok (.if_icmp .eq 5, 3) := by decide +kernel
theorem dL_law__1457 : decode cL_law_ 1457 = .ok (.iconst 0, 1) := by decide +kernel
theorem dL_law__1458 : decode cL_law_ 1458 = .ok (.ireturn, 1) := by decide +kernel
theorem dL_law__1459 : decode cL_law_ 1459 = .ok (.iload 5, 2) := by decide +kernel
theorem dL_law__1461 : decode cL_law_ 1461 = .ok (.ifCond .ne 15, 3) := by decide +kernel
theorem dL_law__1464 : decode cL_law_ 1464 = .ok (.aload_n 3, 1) := by decide +kernel
theorem dL_law__1465 : decode cL_law_ 1465 = .ok (.iconst 0, 1) := by decide +kernel
theorem dL_law__1466 : decode cL_law_ 1466 = .ok (.laload, 1) := by decide +kernel
theorem dL_law__1467 : decode cL_law_ 1467 = .ok (.iload 6, 2) := by decide +kernel
theorem dL_law__1469 : decode cL_law_ 1469 = .ok (.i2l, 1) := by decide +kernel
theorem dL_law__1470 : decode cL_law_ 1470 = .ok (.lcmp, 1) := by decide +kernel
theorem dL_law__1471 : decode cL_law_ 1471 = .ok (.ifCond .eq 5, 3) := by decide +kernel
theorem dL_law__1474 : decode cL_law_ 1474 = .ok (.iconst 0, 1) := by decide +kernel
theorem dL_law__1475 : decode cL_law_ 1475 = .ok (.ireturn, 1) := by decide +kernel
theorem dL_law__1476 : decode cL_law_ 1476 = .ok (.goto 1168, 3) := by decide +kernel
theorem dL_law__1479 : decode cL_law_ 1479 = .ok (.aload_n 1, 1) := by decide +kernel
theorem dL_law__1480 : decode cL_law_ 1480 = .ok (.aload_n 0, 1) := by decide +kernel
theorem dL_law__1481 : decode cL_law_ 1481 = .ok (.iload 4, 2) := by decide +kernel
theorem dL_law__1483 : decode cL_law_ 1483 = .ok (.iconst 1, 1) := by decide +kernel
theorem dL_law__1484 : decode cL_law_ 1484 = .ok (.iadd, 1) := by decide +kernel
theorem dL_law__1485 : decode cL_law_ 1485 = .ok (.iaload, 1) := by decide +kernel
theorem dL_law__1486 : decode cL_law_ 1486 = .ok (.aload_n 0, 1) := by decide +kernel
theorem dL_law__1487 : decode cL_law_ 1487 = .ok (.iload 4, 2) := by decide +kernel
theorem dL_law__1489 : decode cL_law_ 1489 = .ok (.iconst 2, 1) := by decide +kernel
theorem dL_law__1490 : decode cL_law_ 1490 = .ok (.iadd, 1) := by decide +kernel
theorem dL_law__1491 : decode cL_law_ 1491 = .ok (.iaload, 1) := by decide +kernel
theorem dL_law__1492 : decode cL_law_ 1492 = .ok (.aload_n 3, 1) := by decide +kernel
theorem dL_law__1493 : decode cL_law_ 1493 = .ok (.invokestatic 205, 3) := by decide +kernel
theorem dL_law__1496 : decode cL_law_ 1496 = .ok (.istore 5, 2) := by decide +kernel
theorem dL_law__1498 : decode cL_law_ 1498 = .ok (.aload_n 2, 1) := by decide +kernel
theorem dL_law__1499 : decode cL_law_ 1499 = .ok (.aload_n 0, 1) := by decide +kernel
theorem dL_law__1500 : decode cL_law_ 1500 = .ok (.iload 4, 2) := by decide +kernel
theorem dL_law__1502 : decode cL_law_ 1502 = .ok (.iconst 1, 1) := by decide +kernel
theorem dL_law__1503 : decode cL_law_ 1503 = .ok (.iadd, 1) := by decide +kernel
theorem dL_law__1504 : decode cL_law_ 1504 = .ok (.iaload, 1) := by decide +kernel
theorem dL_law__1505 : decode cL_law_ 1505 = .ok (.aload_n 0, 1) := by decide +kernel
theorem dL_law__1506 : decode cL_law_ 1506 = .ok (.iload 4, 2) := by decide +kernel
theorem dL_law__1508 : decode cL_law_ 1508 = .ok (.iconst 2, 1) := by decide +kernel
theorem dL_law__1509 : decode cL_law_ 1509 = .ok (.iadd, 1) := by decide +kernel
theorem dL_law__1510 : decode cL_law_ 1510 = .ok (.iaload, 1) := by decide +kernel
theorem dL_law__1511 : decode cL_law_ 1511 = .ok (.invokevirtual 207, 3) := by decide +kernel
theorem dL_law__1514 : decode cL_law_ 1514 = .ok (.istore 6, 2) := by decide +kernel
theorem dL_law__1516 : decode cL_law_ 1516 = .ok (.aload_n 2, 1) := by decide +kernel
theorem dL_law__1517 : decode cL_law_ 1517 = .ok (.invokevirtual 139, 3) := by decide +kernel
theorem dL_law__1520 : decode cL_law_ 1520 = .ok (.iload 5, 2) := by decide +kernel
theorem dL_law__1522 : decode cL_law_ 1522 = .ok (.if_icmp .eq 5, 3) := by decide +kernel
theorem dL_law__1525 : decode cL_law_ 1525 = .ok (.iconst 0, 1) := by decide +kernel
theorem dL_law__1526 : decode cL_law_ 1526 = .ok (.ireturn, 1) := by decide +kernel
theorem dL_law__1527 : decode cL_law_ 1527 = .ok (.iload 5, 2) := by decide +kernel
theorem dL_law__1529 : decode cL_law_ 1529 = .ok (.ifCond .ne 15, 3) := by decide +kernel
theorem dL_law__1532 : decode cL_law_ 1532 = .ok (.aload_n 3, 1) := by decide +kernel
theorem dL_law__1533 : decode cL_law_ 1533 = .ok (.iconst 0, 1) := by decide +kernel
theorem dL_law__1534 : decode cL_law_ 1534 = .ok (.laload, 1) := by decide +kernel
theorem dL_law__1535 : decode cL_law_ 1535 = .ok (.iload 6, 2) := by decide +kernel
theorem dL_law__1537 : decode cL_law_ 1537 = .ok (.i2l, 1) := by decide +kernel
theorem dL_law__1538 : decode cL_law_ 1538 = .ok (.lcmp, 1) := by decide +kernel
theorem dL_law__1539 : decode cL_law_ 1539 = .ok (.ifCond .eq 5, 3) := by decide +kernel
theorem dL_law__1542 : decode cL_law_ 1542 = .ok (.iconst 0, 1) := by decide +kernel
theorem dL_law__1543 : decode cL_law_ 1543 = .ok (.ireturn, 1) := by decide +kernel
theorem dL_law__1544 : decode cL_law_ 1544 = .ok (.goto 1100, 3) := by decide +kernel
theorem dL_law__1547 : decode cL_law_ 1547 = .ok (.aload_n 1, 1) := by decide +kernel
theorem dL_law__1548 : decode cL_law_ 1548 = .ok (.invokevirtual 208, 3) := by decide +kernel
theorem dL_law__1551 : decode cL_law_ 1551 = .ok (.aload_n 2, 1) := by decide +kernel
theorem dL_law__1552 : decode cL_law_ 1552 = .ok (.invokevirtual 211, 3) := by decide +kernel
theorem dL_law__1555 : decode cL_law_ 1555 = .ok (.if_icmp .eq 1089, 3) := by decide +kernel
theorem dL_law__1558 : decode cL_law_ 1558 = .ok (.iconst 0, 1) := by decide +kernel
theorem dL_law__1559 : decode cL_law_ 1559 = .ok (.ireturn, 1) := by decide +kernel
theorem dL_law__1560 : decode cL_law_ 1560 = .ok (.aload_n 1, 1) := by decide +kernel
theorem dL_law__1561 : decode cL_law_ 1561 = .ok (.aload_n 0, 1) := by decide +kernel
theorem dL_law__1562 : decode cL_law_ 1562 = .ok (.iload 4, 2) := by decide +kernel
theorem dL_law__1564 : decode cL_law_ 1564 = .ok (.iconst 1, 1) := by decide +kernel
theorem dL_law__1565 : decode cL_law_ 1565 = .ok (.iadd, 1) := by decide +kernel
theorem dL_law__1566 : decode cL_law_ 1566 = .ok (.iaload, 1) := by decide +kernel
theorem dL_law__1567 : decode cL_law_ 1567 = .ok (.aload_n 0, 1) := by decide +kernel
theorem dL_law__1568 : decode cL_law_ 1568 = .ok (.iload 4, 2) := by decide +kernel
theorem dL_law__1570 : decode cL_law_ 1570 = .ok (.iconst 2, 1) := by decide +kernel
theorem dL_law__1571 : decode cL_law_ 1571 = .ok (.iadd, 1) := by decide +kernel
theorem dL_law__1572 : decode cL_law_ 1572 = .ok (.iaload, 1) := by decide +kernel
theorem dL_law__1573 : decode cL_law_ 1573 = .ok (.aload_n 3, 1) := by decide +kernel
theorem dL_law__1574 : decode cL_law_ 1574 = .ok (.invokestatic 212, 3) := by decide +kernel
theorem dL_law__1577 : decode cL_law_ 1577 = .ok (.istore 5, 2) := by decide +kernel
theorem dL_law__1579 : decode cL_law_ 1579 = .ok (.aload_n 2, 1) := by decide +kernel
theorem dL_law__1580 : decode cL_law_ 1580 = .ok (.aload_n 0, 1) := by decide +kernel
theorem dL_law__1581 : decode cL_law_ 1581 = .ok (.iload 4, 2) := by decide +kernel
theorem dL_law__1583 : decode cL_law_ 1583 = .ok (.iconst 1, 1) := by decide +kernel
theorem dL_law__1584 : decode cL_law_ 1584 = .ok (.iadd, 1) := by decide +kernel
theorem dL_law__1585 : decode cL_law_ 1585 = .ok (.iaload, 1) := by decide +kernel
theorem dL_law__1586 : decode cL_law_ 1586 = .ok (.aload_n 0, 1) := by decide +kernel
theorem dL_law__1587 : decode cL_law_ 1587 = .ok (.iload 4, 2) := by decide +kernel
theorem dL_law__1589 : decode cL_law_ 1589 = .ok (.iconst 2, 1) := by decide +kernel
theorem dL_law__1590 : decode cL_law_ 1590 = .ok (.iadd, 1) := by decide +kernel
theorem dL_law__1591 : decode cL_law_ 1591 = .ok (.iaload, 1) := by decide +kernel
theorem dL_law__1592 : decode cL_law_ 1592 = .ok (.invokevirtual 214, 3) := by decide +kernel
theorem dL_law__1595 : decode cL_law_ 1595 = .ok (.istore 6, 2) := by decide +kernel
theorem dL_law__1597 : decode cL_law_ 1597 = .ok (.aload_n 2, 1) := by decide +kernel
theorem dL_law__1598 : decode cL_law_ 1598 = .ok (.invokevirtual 139, 3) := by decide +kernel
theorem dL_law__1601 : decode cL_law_ 1601 = .ok (.iload 5, 2) := by decide +kernel
theorem dL_law__1603 : decode cL_law_ 1603 = .ok (.if_icmp .eq 5, 3) := by decide +kernel
theorem dL_law__1606 : decode cL_law_ 1606 = .ok (.iconst 0, 1) := by decide +kernel
theorem dL_law__1607 : decode cL_law_ 1607 = .ok (.ireturn, 1) := by decide +kernel
theorem dL_law__1608 : decode cL_law_ 1608 = .ok (.iload 5, 2) := by decide +kernel
theorem dL_law__1610 : decode cL_law_ 1610 = .ok (.ifCond .ne 15, 3) := by decide +kernel
theorem dL_law__1613 : decode cL_law_ 1613 = .ok (.aload_n 3, 1) := by decide +kernel
theorem dL_law__1614 : decode cL_law_ 1614 = .ok (.iconst 0, 1) := by decide +kernel
theorem dL_law__1615 : decode cL_law_ 1615 = .ok (.laload, 1) := by decide +kernel
theorem dL_law__1616 : decode cL_law_ 1616 = .ok (.iload 6, 2) := by decide +kernel
theorem dL_law__1618 : decode cL_law_ 1618 = .ok (.i2l, 1) := by decide +kernel
theorem dL_law__1619 : decode cL_law_ 1619 = .ok (.lcmp, 1) := by decide +kernel
theorem dL_law__1620 : decode cL_law_ 1620 = .ok (.ifCond .eq 5, 3) := by decide +kernel
theorem dL_law__1623 : decode cL_law_ 1623 = .ok (.iconst 0, 1) := by decide +kernel
theorem dL_law__1624 : decode cL_law_ 1624 = .ok (.ireturn, 1) := by decide +kernel
theorem dL_law__1625 : decode cL_law_ 1625 = .ok (.goto 1019, 3) := by decide +kernel
theorem dL_law__1628 : decode cL_law_ 1628 = .ok (.aload_n 1, 1) := by decide +kernel
theorem dL_law__1629 : decode cL_law_ 1629 = .ok (.aload_n 0, 1) := by decide +kernel
theorem dL_law__1630 : decode cL_law_ 1630 = .ok (.iload 4, 2) := by decide +kernel
theorem dL_law__1632 : decode cL_law_ 1632 = .ok (.iconst 1, 1) := by decide +kernel
theorem dL_law__1633 : decode cL_law_ 1633 = .ok (.iadd, 1) := by decide +kernel
theorem dL_law__1634 : decode cL_law_ 1634 = .ok (.iaload, 1) := by decide +kernel
theorem dL_law__1635 : decode cL_law_ 1635 = .ok (.ifCond .eq 7, 3) := by decide +kernel
theorem dL_law__1638 : decode cL_law_ 1638 = .ok (.iconst 1, 1) := by decide +kernel
theorem dL_law__1639 : decode cL_law_ 1639 = .ok (.goto 4, 3) := by decide +kernel
theorem dL_law__1642 : decode cL_law_ 1642 = .ok (.iconst 0, 1) := by decide +kernel
theorem dL_law__1643 : decode cL_law_ 1643 = .ok (.aload_n 3, 1) := by decide +kernel
theorem dL_law__1644 : decode cL_law_ 1644 = .ok (.invokestatic 215, 3) := by decide +kernel
theorem dL_law__1647 : decode cL_law_ 1647 = .ok (.istore 5, 2) := by decide +kernel
theorem dL_law__1649 : decode cL_law_ 1649 = .ok (.aload_n 2, 1) := by decide +kernel
theorem dL_law__1650 : decode cL_law_ 1650 = .ok (.aload_n 0, 1) := by decide +kernel
theorem dL_law__1651 : decode cL_law_ 1651 = .ok (.iload 4, 2) := by decide +kernel
theorem dL_law__1653 : decode cL_law_ 1653 = .ok (.iconst 1, 1) := by decide +kernel
theorem dL_law__1654 : decode cL_law_ 1654 = .ok (.iadd, 1) := by decide +kernel
theorem dL_law__1655 : decode cL_law_ 1655 = .ok (.iaload, 1) := by decide +kernel
theorem dL_law__1656 : decode cL_law_ 1656 = .ok (.ifCond .eq 7, 3) := by decide +kernel
theorem dL_law__1659 : decode cL_law_ 1659 = .ok (.iconst 1, 1) := by decide +kernel
theorem dL_law__1660 : decode cL_law_ 1660 = .ok (.goto 4, 3) := by decide +kernel
theorem dL_law__1663 : decode cL_law_ 1663 = .ok (.iconst 0, 1) := by decide +kernel
theorem dL_law__1664 : decode cL_law_ 1664 = .ok (.invokevirtual 218, 3) := by decide +kernel
theorem dL_law__1667 : decode cL_law_ 1667 = .ok (.istore 6, 2) := by decide +kernel
theorem dL_law__1669 : decode cL_law_ 1669 = .ok (.aload_n 2, 1) := by decide +kernel
theorem dL_law__1670 : decode cL_law_ 1670 = .ok (.invokevirtual 139, 3) := by decide +kernel
theorem dL_law__1673 : decode cL_law_ 1673 = .ok (.iload 5, 2) := by decide +kernel
theorem dL_law__1675 : decode cL_law_ 1675 = .ok (.if_icmp .eq 5, 3) := by decide +kernel
theorem dL_law__1678 : decode cL_law_ 1678 = .ok (.iconst 0, 1) := by decide +kernel
theorem dL_law__1679 : decode cL_law_ 1679 = .ok (.ireturn, 1) := by decide +kernel
theorem dL_law__1680 : decode cL_law_ 1680 = .ok (.iload 5, 2) := by decide +kernel
theorem dL_law__1682 : decode cL_law_ 1682 = .ok (.ifCond .ne 15, 3) := by decide +kernel
theorem dL_law__1685 : decode cL_law_ 1685 = .ok (.aload_n 3, 1) := by decide +kernel
theorem dL_law__1686 : decode cL_law_ 1686 = .ok (.iconst 0, 1) := by decide +kernel
theorem dL_law__1687 : decode cL_law_ 1687 = .ok (.laload, 1) := by decide +kernel
theorem dL_law__1688 : decode cL_law_ 1688 = .ok (.iload 6, 2) := by decide +kernel
theorem dL_law__1690 : decode cL_law_ 1690 = .ok (.i2l, 1) := by decide +kernel
theorem dL_law__1691 : decode cL_law_ 1691 = .ok (.lcmp, 1) := by decide +kernel
theorem dL_law__1692 : decode cL_law_ 1692 = .ok (.ifCond .eq 5, 3) := by decide +kernel
theorem dL_law__1695 : decode cL_law_ 1695 = .ok (.iconst 0, 1) := by decide +kernel
theorem dL_law__1696 : decode cL_law_ 1696 = .ok (.ireturn, 1) := by decide +kernel
theorem dL_law__1697 : decode cL_law_ 1697 = .ok (.goto 947, 3) := by decide +kernel
theorem dL_law__1700 : decode cL_law_ 1700 = .ok (.aload_n 1, 1) := by decide +kernel
theorem dL_law__1701 : decode cL_law_ 1701 = .ok (.aload_n 0, 1) := by decide +kernel
theorem dL_law__1702 : decode cL_law_ 1702 = .ok (.iload 4, 2) := by decide +kernel
theorem dL_law__1704 : decode cL_law_ 1704 = .ok (.iconst 1, 1) := by decide +kernel
theorem dL_law__1705 : decode cL_law_ 1705 = .ok (.iadd, 1) := by decide +kernel
theorem dL_law__1706 : decode cL_law_ 1706 = .ok (.iaload, 1) := by decide +kernel
theorem dL_law__1707 : decode cL_law_ 1707 = .ok (.aload_n 3, 1) := by decide +kernel
theorem dL_law__1708 : decode cL_law_ 1708 = .ok (.invokestatic 219, 3) := by decide +kernel
theorem dL_law__1711 : decode cL_law_ 1711 = .ok (.istore 5, 2) := by decide +kernel
theorem dL_law__1713 : decode cL_law_ 1713 = .ok (.aload_n 2, 1) := by decide +kernel
theorem dL_law__1714 : decode cL_law_ 1714 = .ok (.aload_n 0, 1) := by decide +kernel
theorem dL_law__1715 : decode cL_law_ 1715 = .ok (.iload 4, 2) := by decide +kernel
theorem dL_law__1717 : decode cL_law_ 1717 = .ok (.iconst 1, 1) := by decide +kernel
theorem dL_law__1718 : decode cL_law_ 1718 = .ok (.iadd, 1) := by decide +kernel
theorem dL_law__1719 : decode cL_law_ 1719 = .ok (.iaload, 1) := by decide +kernel
theorem dL_law__1720 : decode cL_law_ 1720 = .ok (.invokevirtual 221, 3) := by decide +kernel
theorem dL_law__1723 : decode cL_law_ 1723 = .ok (.istore 6, 2) := by decide +kernel
theorem dL_law__1725 : decode cL_law_ 1725 = .ok (.aload_n 2, 1) := by decide +kernel
theorem dL_law__1726 : decode cL_law_ 1726 = .ok (.invokevirtual 139, 3) := by decide +kernel
theorem dL_law__1729 : decode cL_law_ 1729 = .ok (.iload 5, 2) := by decide +kernel
theorem dL_law__1731 : decode cL_law_ 1731 = .ok (.if_icmp .eq 5, 3) := by decide +kernel
theorem dL_law__1734 : decode cL_law_ 1734 = .ok (.iconst 0, 1) := by decide +kernel
theorem dL_law__1735 : decode cL_law_ 1735 = .ok (.ireturn, 1) := by decide +kernel
theorem dL_law__1736 : decode cL_law_ 1736 = .ok (.iload 5, 2) := by decide +kernel
theorem dL_law__1738 : decode cL_law_ 1738 = .ok (.ifCond .ne 15, 3) := by decide +kernel
theorem dL_law__1741 : decode cL_law_ 1741 = .ok (.aload_n 3, 1) := by decide +kernel
theorem dL_law__1742 : decode cL_law_ 1742 = .ok (.iconst 0, 1) := by decide +kernel
theorem dL_law__1743 : decode cL_law_ 1743 = .ok (.laload, 1) := by decide +kernel
theorem dL_law__1744 : decode cL_law_ 1744 = .ok (.iload 6, 2) := by decide +kernel
theorem dL_law__1746 : decode cL_law_ 1746 = .ok (.i2l, 1) := by decide +kernel
theorem dL_law__1747 : decode cL_law_ 1747 = .ok (.lcmp, 1) := by decide +kernel
theorem dL_law__1748 : decode cL_law_ 1748 = .ok (.ifCond .eq 5, 3) := by decide +kernel
theorem dL_law__1751 : decode cL_law_ 1751 = .ok (.iconst 0, 1) := by decide +kernel
theorem dL_law__1752 : decode cL_law_ 1752 = .ok (.ireturn, 1) := by decide +kernel
theorem dL_law__1753 : decode cL_law_ 1753 = .ok (.goto 891, 3) := by decide +kernel
theorem dL_law__1756 : decode cL_law_ 1756 = .ok (.aload_n 1, 1) := by decide +kernel
theorem dL_law__1757 : decode cL_law_ 1757 = .ok (.aload_n 0, 1) := by decide +kernel
theorem dL_law__1758 : decode cL_law_ 1758 = .ok (.iload 4, 2) := by decide +kernel
theorem dL_law__1760 : decode cL_law_ 1760 = .ok (.iconst 1, 1) := by decide +kernel
theorem dL_law__1761 : decode cL_law_ 1761 = .ok (.iadd, 1) := by decide +kernel
theorem dL_law__1762 : decode cL_law_ 1762 = .ok (.iaload, 1) := by decide +kernel
theorem dL_law__1763 : decode cL_law_ 1763 = .ok (.aload_n 3, 1) := by decide +kernel
theorem dL_law__1764 : decode cL_law_ 1764 = .ok (.invokestatic 222, 3) := by decide +kernel
