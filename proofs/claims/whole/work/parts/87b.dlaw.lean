theorem dL_law_1478 : decode code 1478 = .ok (.iconst 0, 1) := decode_sh lwA23 (q := 6) (by decide +kernel) 3 ⟨by decide +kernel, by decide +kernel⟩ rfl
theorem dL_law_1479 : decode code 1479 = .ok (.ireturn, 1) := decode_sh lwA23 (q := 7) (by decide +kernel) 172 ⟨by decide +kernel, by decide +kernel⟩ rfl
theorem dL_law_1480 : decode code 1480 = .ok (.goto 2315, 3) := decode_sh lwA23 (q := 8) (by decide +kernel) 167 ⟨by decide +kernel, by decide +kernel⟩ rfl
theorem dL_law_1483 : decode code 1483 = .ok (.aload_n 1, 1) := decode_sh lwA23 (q := 11) (by decide +kernel) 43 ⟨by decide +kernel, by decide +kernel⟩ rfl
theorem dL_law_1484 : decode code 1484 = .ok (.aload_n 0, 1) := decode_sh lwA23 (q := 12) (by decide +kernel) 42 ⟨by decide +kernel, by decide +kernel⟩ rfl
theorem dL_law_1485 : decode code 1485 = .ok (.iload 5, 2) := decode_sh lwA23 (q := 13) (by decide +kernel) 21 ⟨by decide +kernel, by decide +kernel⟩ rfl
theorem dL_law_1487 : decode code 1487 = .ok (.iconst 1, 1) := decode_sh lwA23 (q := 15) (by decide +kernel) 4 ⟨by decide +kernel, by decide +kernel⟩ rfl
theorem dL_law_1488 : decode code 1488 = .ok (.iadd, 1) := decode_sh lwA23 (q := 16) (by decide +kernel) 96 ⟨by decide +kernel, by decide +kernel⟩ rfl
theorem dL_law_1489 : decode code 1489 = .ok (.iaload, 1) := decode_sh lwA23 (q := 17) (by decide +kernel) 46 ⟨by decide +kernel, by decide +kernel⟩ rfl
theorem dL_law_1490 : decode code 1490 = .ok (.aload_n 3, 1) := decode_sh lwA23 (q := 18) (by decide +kernel) 45 ⟨by decide +kernel, by decide +kernel⟩ rfl
theorem dL_law_1491 : decode code 1491 = .ok (.invokestatic 288, 3) := decode_sh lwA23 (q := 19) (by decide +kernel) 184 ⟨by decide +kernel, by decide +kernel⟩ rfl
theorem dL_law_1494 : decode code 1494 = .ok (.istore 6, 2) := decode_sh lwA23 (q := 22) (by decide +kernel) 54 ⟨by decide +kernel, by decide +kernel⟩ rfl
theorem dL_law_1496 : decode code 1496 = .ok (.aload_n 2, 1) := decode_sh lwA23 (q := 24) (by decide +kernel) 44 ⟨by decide +kernel, by decide +kernel⟩ rfl
theorem dL_law_1497 : decode code 1497 = .ok (.aload_n 0, 1) := decode_sh lwA23 (q := 25) (by decide +kernel) 42 ⟨by decide +kernel, by decide +kernel⟩ rfl
theorem dL_law_1498 : decode code 1498 = .ok (.iload 5, 2) := decode_sh lwA23 (q := 26) (by decide +kernel) 21 ⟨by decide +kernel, by decide +kernel⟩ rfl
theorem dL_law_1500 : decode code 1500 = .ok (.iconst 1, 1) := decode_sh lwA23 (q := 28) (by decide +kernel) 4 ⟨by decide +kernel, by decide +kernel⟩ rfl
theorem dL_law_1501 : decode code 1501 = .ok (.iadd, 1) := decode_sh lwA23 (q := 29) (by decide +kernel) 96 ⟨by decide +kernel, by decide +kernel⟩ rfl
theorem dL_law_1502 : decode code 1502 = .ok (.iaload, 1) := decode_sh lwA23 (q := 30) (by decide +kernel) 46 ⟨by decide +kernel, by decide +kernel⟩ rfl
theorem dL_law_1503 : decode code 1503 = .ok (.invokevirtual 290, 3) := decode_sh lwA23 (q := 31) (by decide +kernel) 182 ⟨by decide +kernel, by decide +kernel⟩ rfl
theorem dL_law_1506 : decode code 1506 = .ok (.istore 7, 2) := decode_sh lwA23 (q := 34) (by decide +kernel) 54 ⟨by decide +kernel, by decide +kernel⟩ rfl
theorem dL_law_1508 : decode code 1508 = .ok (.aload_n 2, 1) := decode_sh lwA23 (q := 36) (by decide +kernel) 44 ⟨by decide +kernel, by decide +kernel⟩ rfl
theorem dL_law_1509 : decode code 1509 = .ok (.invokevirtual 213, 3) := decode_sh lwA23 (q := 37) (by decide +kernel) 182 ⟨by decide +kernel, by decide +kernel⟩ rfl
theorem dL_law_1512 : decode code 1512 = .ok (.iload 6, 2) := decode_sh lwA23 (q := 40) (by decide +kernel) 21 ⟨by decide +kernel, by decide +kernel⟩ rfl
theorem dL_law_1514 : decode code 1514 = .ok (.if_icmp .eq 5, 3) := decode_sh lwA23 (q := 42) (by decide +kernel) 159 ⟨by decide +kernel, by decide +kernel⟩ rfl
theorem dL_law_1517 : decode code 1517 = .ok (.iconst 0, 1) := decode_sh lwA23 (q := 45) (by decide +kernel) 3 ⟨by decide +kernel, by decide +kernel⟩ rfl
theorem dL_law_1518 : decode code 1518 = .ok (.ireturn, 1) := decode_sh lwA23 (q := 46) (by decide +kernel) 172 ⟨by decide +kernel, by decide +kernel⟩ rfl
theorem dL_law_1519 : decode code 1519 = .ok (.iload 6, 2) := decode_sh lwA23 (q := 47) (by decide +kernel) 21 ⟨by decide +kernel, by decide +kernel⟩ rfl
theorem dL_law_1521 : decode code 1521 = .ok (.ifCond .ne 15, 3) := decode_sh lwA23 (q := 49) (by decide +kernel) 154 ⟨by decide +kernel, by decide +kernel⟩ rfl
theorem dL_law_1524 : decode code 1524 = .ok (.aload_n 3, 1) := decode_sh lwA23 (q := 52) (by decide +kernel) 45 ⟨by decide +kernel, by decide +kernel⟩ rfl
theorem dL_law_1525 : decode code 1525 = .ok (.iconst 0, 1) := decode_sh lwA23 (q := 53) (by decide +kernel) 3 ⟨by decide +kernel, by decide +kernel⟩ rfl
theorem dL_law_1526 : decode code 1526 = .ok (.laload, 1) := decode_sh lwA23 (q := 54) (by decide +kernel) 47 ⟨by decide +kernel, by decide +kernel⟩ rfl
theorem dL_law_1527 : decode code 1527 = .ok (.iload 7, 2) := decode_sh lwA23 (q := 55) (by decide +kernel) 21 ⟨by decide +kernel, by decide +kernel⟩ rfl
theorem dL_law_1529 : decode code 1529 = .ok (.i2l, 1) := decode_sh lwA23 (q := 57) (by decide +kernel) 133 ⟨by decide +kernel, by decide +kernel⟩ rfl
theorem dL_law_1530 : decode code 1530 = .ok (.lcmp, 1) := decode_sh lwA23 (q := 58) (by decide +kernel) 148 ⟨by decide +kernel, by decide +kernel⟩ rfl
theorem dL_law_1531 : decode code 1531 = .ok (.ifCond .eq 5, 3) := decode_sh lwA23 (q := 59) (by decide +kernel) 153 ⟨by decide +kernel, by decide +kernel⟩ rfl
theorem dL_law_1534 : decode code 1534 = .ok (.iconst 0, 1) := decode_sh lwA23 (q := 62) (by decide +kernel) 3 ⟨by decide +kernel, by decide +kernel⟩ rfl
theorem dL_law_1535 : decode code 1535 = .ok (.ireturn, 1) := decode_sh lwA23 (q := 63) (by decide +kernel) 172 ⟨by decide +kernel, by decide +kernel⟩ rfl
theorem dL_law_1536 : decode code 1536 = .ok (.goto 2259, 3) := decode_sh lwA24 (q := 0) (by decide +kernel) 167 ⟨by decide +kernel, by decide +kernel⟩ rfl
theorem dL_law_1539 : decode code 1539 = .ok (.aload_n 1, 1) := decode_sh lwA24 (q := 3) (by decide +kernel) 43 ⟨by decide +kernel, by decide +kernel⟩ rfl
theorem dL_law_1540 : decode code 1540 = .ok (.aload_n 0, 1) := decode_sh lwA24 (q := 4) (by decide +kernel) 42 ⟨by decide +kernel, by decide +kernel⟩ rfl
theorem dL_law_1541 : decode code 1541 = .ok (.iload 5, 2) := decode_sh lwA24 (q := 5) (by decide +kernel) 21 ⟨by decide +kernel, by decide +kernel⟩ rfl
theorem dL_law_1543 : decode code 1543 = .ok (.iconst 1, 1) := decode_sh lwA24 (q := 7) (by decide +kernel) 4 ⟨by decide +kernel, by decide +kernel⟩ rfl
theorem dL_law_1544 : decode code 1544 = .ok (.iadd, 1) := decode_sh lwA24 (q := 8) (by decide +kernel) 96 ⟨by decide +kernel, by decide +kernel⟩ rfl
theorem dL_law_1545 : decode code 1545 = .ok (.iaload, 1) := decode_sh lwA24 (q := 9) (by decide +kernel) 46 ⟨by decide +kernel, by decide +kernel⟩ rfl
theorem dL_law_1546 : decode code 1546 = .ok (.aload_n 3, 1) := decode_sh lwA24 (q := 10) (by decide +kernel) 45 ⟨by decide +kernel, by decide +kernel⟩ rfl
theorem dL_law_1547 : decode code 1547 = .ok (.invokestatic 291, 3) := decode_sh lwA24 (q := 11) (by decide +kernel) 184 ⟨by decide +kernel, by decide +kernel⟩ rfl
theorem dL_law_1550 : decode code 1550 = .ok (.istore 6, 2) := decode_sh lwA24 (q := 14) (by decide +kernel) 54 ⟨by decide +kernel, by decide +kernel⟩ rfl
theorem dL_law_1552 : decode code 1552 = .ok (.aload_n 2, 1) := decode_sh lwA24 (q := 16) (by decide +kernel) 44 ⟨by decide +kernel, by decide +kernel⟩ rfl
theorem dL_law_1553 : decode code 1553 = .ok (.aload_n 0, 1) := decode_sh lwA24 (q := 17) (by decide +kernel) 42 ⟨by decide +kernel, by decide +kernel⟩ rfl
theorem dL_law_1554 : decode code 1554 = .ok (.iload 5, 2) := decode_sh lwA24 (q := 18) (by decide +kernel) 21 ⟨by decide +kernel, by decide +kernel⟩ rfl
theorem dL_law_1556 : decode code 1556 = .ok (.iconst 1, 1) := decode_sh lwA24 (q := 20) (by decide +kernel) 4 ⟨by decide +kernel, by decide +kernel⟩ rfl
theorem dL_law_1557 : decode code 1557 = .ok (.iadd, 1) := decode_sh lwA24 (q := 21) (by decide +kernel) 96 ⟨by decide +kernel, by decide +kernel⟩ rfl
theorem dL_law_1558 : decode code 1558 = .ok (.iaload, 1) := decode_sh lwA24 (q := 22) (by decide +kernel) 46 ⟨by decide +kernel, by decide +kernel⟩ rfl
theorem dL_law_1559 : decode code 1559 = .ok (.invokevirtual 293, 3) := decode_sh lwA24 (q := 23) (by decide +kernel) 182 ⟨by decide +kernel, by decide +kernel⟩ rfl
theorem dL_law_1562 : decode code 1562 = .ok (.istore 7, 2) := decode_sh lwA24 (q := 26) (by decide +kernel) 54 ⟨by decide +kernel, by decide +kernel⟩ rfl
theorem dL_law_1564 : decode code 1564 = .ok (.aload_n 2, 1) := decode_sh lwA24 (q := 28) (by decide +kernel) 44 ⟨by decide +kernel, by decide +kernel⟩ rfl
theorem dL_law_1565 : decode code 1565 = .ok (.invokevirtual 213, 3) := decode_sh lwA24 (q := 29) (by decide +kernel) 182 ⟨by decide +kernel, by decide +kernel⟩ rfl
theorem dL_law_1568 : decode code 1568 = .ok (.iload 6, 2) := decode_sh lwA24 (q := 32) (by decide +kernel) 21 ⟨by decide +kernel, by decide +kernel⟩ rfl
theorem dL_law_1570 : decode code 1570 = .ok (.if_icmp .eq 5, 3) := decode_sh lwA24 (q := 34) (by decide +kernel) 159 ⟨by decide +kernel, by decide +kernel⟩ rfl
theorem dL_law_1573 : decode code 1573 = .ok (.iconst 0, 1) := decode_sh lwA24 (q := 37) (by decide +kernel) 3 ⟨by decide +kernel, by decide +kernel⟩ rfl
theorem dL_law_1574 : decode code 1574 = .ok (.ireturn, 1) := decode_sh lwA24 (q := 38) (by decide +kernel) 172 ⟨by decide +kernel, by decide +kernel⟩ rfl
theorem dL_law_1575 : decode code 1575 = .ok (.iload 6, 2) := decode_sh lwA24 (q := 39) (by decide +kernel) 21 ⟨by decide +kernel, by decide +kernel⟩ rfl
theorem dL_law_1577 : decode code 1577 = .ok (.ifCond .ne 15, 3) := decode_sh lwA24 (q := 41) (by decide +kernel) 154 ⟨by decide +kernel, by decide +kernel⟩ rfl
theorem dL_law_1580 : decode code 1580 = .ok (.aload_n 3, 1) := decode_sh lwA24 (q := 44) (by decide +kernel) 45 ⟨by decide +kernel, by decide +kernel⟩ rfl
theorem dL_law_1581 : decode code 1581 = .ok (.iconst 0, 1) := decode_sh lwA24 (q := 45) (by decide +kernel) 3 ⟨by decide +kernel, by decide +kernel⟩ rfl
theorem dL_law_1582 : decode code 1582 = .ok (.laload, 1) := decode_sh lwA24 (q := 46) (by decide +kernel) 47 ⟨by decide +kernel, by decide +kernel⟩ rfl
theorem dL_law_1583 : decode code 1583 = .ok (.iload 7, 2) := decode_sh lwA24 (q := 47) (by decide +kernel) 21 ⟨by decide +kernel, by decide +kernel⟩ rfl
theorem dL_law_1585 : decode code 1585 = .ok (.i2l, 1) := decode_sh lwA24 (q := 49) (by decide +kernel) 133 ⟨by decide +kernel, by decide +kernel⟩ rfl
theorem dL_law_1586 : decode code 1586 = .ok (.lcmp, 1) := decode_sh lwA24 (q := 50) (by decide +kernel) 148 ⟨by decide +kernel, by decide +kernel⟩ rfl
theorem dL_law_1587 : decode code 1587 = .ok (.ifCond .eq 5, 3) := decode_sh lwA24 (q := 51) (by decide +kernel) 153 ⟨by decide +kernel, by decide +kernel⟩ rfl
theorem dL_law_1590 : decode code 1590 = .ok (.iconst 0, 1) := decode_sh lwA24 (q := 54) (by decide +kernel) 3 ⟨by decide +kernel, by decide +kernel⟩ rfl
theorem dL_law_1591 : decode code 1591 = .ok (.ireturn, 1) := decode_sh lwA24 (q := 55) (by decide +kernel) 172 ⟨by decide +kernel, by decide +kernel⟩ rfl
theorem dL_law_1592 : decode code 1592 = .ok (.goto 2203, 3) := decode_sh lwA24 (q := 56) (by decide +kernel) 167 ⟨by decide +kernel, by decide +kernel⟩ rfl
theorem dL_law_1595 : decode code 1595 = .ok (.aload_n 1, 1) := decode_sh lwA24 (q := 59) (by decide +kernel) 43 ⟨by decide +kernel, by decide +kernel⟩ rfl
theorem dL_law_1596 : decode code 1596 = .ok (.aload_n 0, 1) := decode_sh lwA24 (q := 60) (by decide +kernel) 42 ⟨by decide +kernel, by decide +kernel⟩ rfl
theorem dL_law_1597 : decode code 1597 = .ok (.iload 5, 2) := decode_sh lwA24 (q := 61) (by decide +kernel) 21 ⟨by decide +kernel, by decide +kernel⟩ rfl
theorem dL_law_1599 : decode code 1599 = .ok (.iconst 1, 1) := decode_sh lwA24 (q := 63) (by decide +kernel) 4 ⟨by decide +kernel, by decide +kernel⟩ rfl
theorem dL_law_1600 : decode code 1600 = .ok (.iadd, 1) := decode_sh lwA25 (q := 0) (by decide +kernel) 96 ⟨by decide +kernel, by decide +kernel⟩ rfl
theorem dL_law_1601 : decode code 1601 = .ok (.iaload, 1) := decode_sh lwA25 (q := 1) (by decide +kernel) 46 ⟨by decide +kernel, by decide +kernel⟩ rfl
theorem dL_law_1602 : decode code 1602 = .ok (.aload_n 3, 1) := decode_sh lwA25 (q := 2) (by decide +kernel) 45 ⟨by decide +kernel, by decide +kernel⟩ rfl
theorem dL_law_1603 : decode code 1603 = .ok (.invokestatic 294, 3) := decode_sh lwA25 (q := 3) (by decide +kernel) 184 ⟨by decide +kernel, by decide +kernel⟩ rfl
theorem dL_law_1606 : decode code 1606 = .ok (.istore 6, 2) := decode_sh lwA25 (q := 6) (by decide +kernel) 54 ⟨by decide +kernel, by decide +kernel⟩ rfl
theorem dL_law_1608 : decode code 1608 = .ok (.aload_n 2, 1) := decode_sh lwA25 (q := 8) (by decide +kernel) 44 ⟨by decide +kernel, by decide +kernel⟩ rfl
theorem dL_law_1609 : decode code 1609 = .ok (.aload_n 0, 1) := decode_sh lwA25 (q := 9) (by decide +kernel) 42 ⟨by decide +kernel, by decide +kernel⟩ rfl
theorem dL_law_1610 : decode code 1610 = .ok (.iload 5, 2) := decode_sh lwA25 (q := 10) (by decide +kernel) 21 ⟨by decide +kernel, by decide +kernel⟩ rfl
theorem dL_law_1612 : decode code 1612 = .ok (.iconst 1, 1) := decode_sh lwA25 (q := 12) (by decide +kernel) 4 ⟨by decide +kernel, by decide +kernel⟩ rfl
theorem dL_law_1613 : decode code 1613 = .ok (.iadd, 1) := decode_sh lwA25 (q := 13) (by decide +kernel) 96 ⟨by decide +kernel, by decide +kernel⟩ rfl
theorem dL_law_1614 : decode code 1614 = .ok (.iaload, 1) := decode_sh lwA25 (q := 14) (by decide +kernel) 46 ⟨by decide +kernel, by decide +kernel⟩ rfl
theorem dL_law_1615 : decode code 1615 = .ok (.invokevirtual 296, 3) := decode_sh lwA25 (q := 15) (by decide +kernel) 182 ⟨by decide +kernel, by decide +kernel⟩ rfl
theorem dL_law_1618 : decode code 1618 = .ok (.istore 7, 2) := decode_sh lwA25 (q := 18) (by decide +kernel) 54 ⟨by decide +kernel, by decide +kernel⟩ rfl
theorem dL_law_1620 : decode code 1620 = .ok (.aload_n 2, 1) := decode_sh lwA25 (q := 20) (by decide +kernel) 44 ⟨by decide +kernel, by decide +kernel⟩ rfl
theorem dL_law_1621 : decode code 1621 = .ok (.invokevirtual 213, 3) := decode_sh lwA25 (q := 21) (by decide +kernel) 182 ⟨by decide +kernel, by decide +kernel⟩ rfl
theorem dL_law_1624 : decode code 1624 = .ok (.iload 6, 2) := decode_sh lwA25 (q := 24) (by decide +kernel) 21 ⟨by decide +kernel, by decide +kernel⟩ rfl
theorem dL_law_1626 : decode code 1626 = .ok (.if_icmp .eq 5, 3) := decode_sh lwA25 (q := 26) (by decide +kernel) 159 ⟨by decide +kernel, by decide +kernel⟩ rfl
theorem dL_law_1629 : decode code 1629 = .ok (.iconst 0, 1) := decode_sh lwA25 (q := 29) (by decide +kernel) 3 ⟨by decide +kernel, by decide +kernel⟩ rfl
theorem dL_law_1630 : decode code 1630 = .ok (.ireturn, 1) := decode_sh lwA25 (q := 30) (by decide +kernel) 172 ⟨by decide +kernel, by decide +kernel⟩ rfl
theorem dL_law_1631 : decode code 1631 = .ok (.iload 6, 2) := decode_sh lwA25 (q := 31) (by decide +kernel) 21 ⟨by decide +kernel, by decide +kernel⟩ rfl
theorem dL_law_1633 : decode code 1633 = .ok (.ifCond .ne 15, 3) := decode_sh lwA25 (q := 33) (by decide +kernel) 154 ⟨by decide +kernel, by decide +kernel⟩ rfl
theorem dL_law_1636 : decode code 1636 = .ok (.aload_n 3, 1) := decode_sh lwA25 (q := 36) (by decide +kernel) 45 ⟨by decide +kernel, by decide +kernel⟩ rfl
theorem dL_law_1637 : decode code 1637 = .ok (.iconst 0, 1) := decode_sh lwA25 (q := 37) (by decide +kernel) 3 ⟨by decide +kernel, by decide +kernel⟩ rfl
theorem dL_law_1638 : decode code 1638 = .ok (.laload, 1) := decode_sh lwA25 (q := 38) (by decide +kernel) 47 ⟨by decide +kernel, by decide +kernel⟩ rfl
theorem dL_law_1639 : decode code 1639 = .ok (.iload 7, 2) := decode_sh lwA25 (q := 39) (by decide +kernel) 21 ⟨by decide +kernel, by decide +kernel⟩ rfl
theorem dL_law_1641 : decode code 1641 = .ok (.i2l, 1) := decode_sh lwA25 (q := 41) (by decide +kernel) 133 ⟨by decide +kernel, by decide +kernel⟩ rfl
theorem dL_law_1642 : decode code 1642 = .ok (.lcmp, 1) := decode_sh lwA25 (q := 42) (by decide +kernel) 148 ⟨by decide +kernel, by decide +kernel⟩ rfl
theorem dL_law_1643 : decode code 1643 = .ok (.ifCond .eq 5, 3) := decode_sh lwA25 (q := 43) (by decide +kernel) 153 ⟨by decide +kernel, by decide +kernel⟩ rfl
theorem dL_law_1646 : decode code 1646 = .ok (.iconst 0, 1) := decode_sh lwA25 (q := 46) (by decide +kernel) 3 ⟨by decide +kernel, by decide +kernel⟩ rfl
theorem dL_law_1647 : decode code 1647 = .ok (.ireturn, 1) := decode_sh lwA25 (q := 47) (by decide +kernel) 172 ⟨by decide +kernel, by decide +kernel⟩ rfl
theorem dL_law_1648 : decode code 1648 = .ok (.goto 2147, 3) := decode_sh lwA25 (q := 48) (by decide +kernel) 167 ⟨by decide +kernel, by decide +kernel⟩ rfl
theorem dL_law_1651 : decode code 1651 = .ok (.aload_n 1, 1) := decode_sh lwA25 (q := 51) (by decide +kernel) 43 ⟨by decide +kernel, by decide +kernel⟩ rfl
theorem dL_law_1652 : decode code 1652 = .ok (.aload_n 0, 1) := decode_sh lwA25 (q := 52) (by decide +kernel) 42 ⟨by decide +kernel, by decide +kernel⟩ rfl
theorem dL_law_1653 : decode code 1653 = .ok (.iload 5, 2) := decode_sh lwA25 (q := 53) (by decide +kernel) 21 ⟨by decide +kernel, by decide +kernel⟩ rfl
theorem dL_law_1655 : decode code 1655 = .ok (.iconst 1, 1) := decode_sh lwA25 (q := 55) (by decide +kernel) 4 ⟨by decide +kernel, by decide +kernel⟩ rfl
theorem dL_law_1656 : decode code 1656 = .ok (.iadd, 1) := decode_sh lwA25 (q := 56) (by decide +kernel) 96 ⟨by decide +kernel, by decide +kernel⟩ rfl
theorem dL_law_1657 : decode code 1657 = .ok (.iaload, 1) := decode_sh lwA25 (q := 57) (by decide +kernel) 46 ⟨by decide +kernel, by decide +kernel⟩ rfl
theorem dL_law_1658 : decode code 1658 = .ok (.aload_n 0, 1) := decode_sh lwA25 (q := 58) (by decide +kernel) 42 ⟨by decide +kernel, by decide +kernel⟩ rfl
theorem dL_law_1659 : decode code 1659 = .ok (.iload 5, 2) := decode_sh lwA25 (q := 59) (by decide +kernel) 21 ⟨by decide +kernel, by decide +kernel⟩ rfl
theorem dL_law_1661 : decode code 1661 = .ok (.iconst 2, 1) := decode_sh lwA25 (q := 61) (by decide +kernel) 5 ⟨by decide +kernel, by decide +kernel⟩ rfl
theorem dL_law_1662 : decode code 1662 = .ok (.iadd, 1) := decode_sh lwA25 (q := 62) (by decide +kernel) 96 ⟨by decide +kernel, by decide +kernel⟩ rfl
theorem dL_law_1663 : decode code 1663 = .ok (.iaload, 1) := decode_sh lwA25 (q := 63) (by decide +kernel) 46 ⟨by decide +kernel, by decide +kernel⟩ rfl
theorem dL_law_1664 : decode code 1664 = .ok (.aload_n 3, 1) := decode_sh lwA26 (q := 0) (by decide +kernel) 45 ⟨by decide +kernel, by decide +kernel⟩ rfl
theorem dL_law_1665 : decode code 1665 = .ok (.invokestatic 297, 3) := decode_sh lwA26 (q := 1) (by decide +kernel) 184 ⟨by decide +kernel, by decide +kernel⟩ rfl
theorem dL_law_1668 : decode code 1668 = .ok (.istore 6, 2) := decode_sh lwA26 (q := 4) (by decide +kernel) 54 ⟨by decide +kernel, by decide +kernel⟩ rfl
theorem dL_law_1670 : decode code 1670 = .ok (.aload_n 2, 1) := decode_sh lwA26 (q := 6) (by decide +kernel) 44 ⟨by decide +kernel, by decide +kernel⟩ rfl
theorem dL_law_1671 : decode code 1671 = .ok (.aload_n 0, 1) := decode_sh lwA26 (q := 7) (by decide +kernel) 42 ⟨by decide +kernel, by decide +kernel⟩ rfl
theorem dL_law_1672 : decode code 1672 = .ok (.iload 5, 2) := decode_sh lwA26 (q := 8) (by decide +kernel) 21 ⟨by decide +kernel, by decide +kernel⟩ rfl
theorem dL_law_1674 : decode code 1674 = .ok (.iconst 1, 1) := decode_sh lwA26 (q := 10) (by decide +kernel) 4 ⟨by decide +kernel, by decide +kernel⟩ rfl
theorem dL_law_1675 : decode code 1675 = .ok (.iadd, 1) := decode_sh lwA26 (q := 11) (by decide +kernel) 96 ⟨by decide +kernel, by decide +kernel⟩ rfl
theorem dL_law_1676 : decode code 1676 = .ok (.iaload, 1) := decode_sh lwA26 (q := 12) (by decide +kernel) 46 ⟨by decide +kernel, by decide +kernel⟩ rfl
theorem dL_law_1677 : decode code 1677 = .ok (.aload_n 0, 1) := decode_sh lwA26 (q := 13) (by decide +kernel) 42 ⟨by decide +kernel, by decide +kernel⟩ rfl
theorem dL_law_1678 : decode code 1678 = .ok (.iload 5, 2) := decode_sh lwA26 (q := 14) (by decide +kernel) 21 ⟨by decide +kernel, by decide +kernel⟩ rfl
theorem dL_law_1680 : decode code 1680 = .ok (.iconst 2, 1) := decode_sh lwA26 (q := 16) (by decide +kernel) 5 ⟨by decide +kernel, by decide +kernel⟩ rfl
theorem dL_law_1681 : decode code 1681 = .ok (.iadd, 1) := decode_sh lwA26 (q := 17) (by decide +kernel) 96 ⟨by decide +kernel, by decide +kernel⟩ rfl
theorem dL_law_1682 : decode code 1682 = .ok (.iaload, 1) := decode_sh lwA26 (q := 18) (by decide +kernel) 46 ⟨by decide +kernel, by decide +kernel⟩ rfl
theorem dL_law_1683 : decode code 1683 = .ok (.invokevirtual 299, 3) := decode_sh lwA26 (q := 19) (by decide +kernel) 182 ⟨by decide +kernel, by decide +kernel⟩ rfl
theorem dL_law_1686 : decode code 1686 = .ok (.istore 7, 2) := decode_sh lwA26 (q := 22) (by decide +kernel) 54 ⟨by decide +kernel, by decide +kernel⟩ rfl
theorem dL_law_1688 : decode code 1688 = .ok (.aload_n 2, 1) := decode_sh lwA26 (q := 24) (by decide +kernel) 44 ⟨by decide +kernel, by decide +kernel⟩ rfl
theorem dL_law_1689 : decode code 1689 = .ok (.invokevirtual 213, 3) := decode_sh lwA26 (q := 25) (by decide +kernel) 182 ⟨by decide +kernel, by decide +kernel⟩ rfl
theorem dL_law_1692 : decode code 1692 = .ok (.iload 6, 2) := decode_sh lwA26 (q := 28) (by decide +kernel) 21 ⟨by decide +kernel, by decide +kernel⟩ rfl
theorem dL_law_1694 : decode code 1694 = .ok (.if_icmp .eq 5, 3) := decode_sh lwA26 (q := 30) (by decide +kernel) 159 ⟨by decide +kernel, by decide +kernel⟩ rfl
theorem dL_law_1697 : decode code 1697 = .ok (.iconst 0, 1) := decode_sh lwA26 (q := 33) (by decide +kernel) 3 ⟨by decide +kernel, by decide +kernel⟩ rfl
theorem dL_law_1698 : decode code 1698 = .ok (.ireturn, 1) := decode_sh lwA26 (q := 34) (by decide +kernel) 172 ⟨by decide +kernel, by decide +kernel⟩ rfl
theorem dL_law_1699 : decode code 1699 = .ok (.iload 6, 2) := decode_sh lwA26 (q := 35) (by decide +kernel) 21 ⟨by decide +kernel, by decide +kernel⟩ rfl
theorem dL_law_1701 : decode code 1701 = .ok (.ifCond .ne 15, 3) := decode_sh lwA26 (q := 37) (by decide +kernel) 154 ⟨by decide +kernel, by decide +kernel⟩ rfl
theorem dL_law_1704 : decode code 1704 = .ok (.aload_n 3, 1) := decode_sh lwA26 (q := 40) (by decide +kernel) 45 ⟨by decide +kernel, by decide +kernel⟩ rfl
theorem dL_law_1705 : decode code 1705 = .ok (.iconst 0, 1) := decode_sh lwA26 (q := 41) (by decide +kernel) 3 ⟨by decide +kernel, by decide +kernel⟩ rfl
theorem dL_law_1706 : decode code 1706 = .ok (.laload, 1) := decode_sh lwA26 (q := 42) (by decide +kernel) 47 ⟨by decide +kernel, by decide +kernel⟩ rfl
theorem dL_law_1707 : decode code 1707 = .ok (.iload 7, 2) := decode_sh lwA26 (q := 43) (by decide +kernel) 21 ⟨by decide +kernel, by decide +kernel⟩ rfl
theorem dL_law_1709 : decode code 1709 = .ok (.i2l, 1) := decode_sh lwA26 (q := 45) (by decide +kernel) 133 ⟨by decide +kernel, by decide +kernel⟩ rfl
theorem dL_law_1710 : decode code 1710 = .ok (.lcmp, 1) := decode_sh lwA26 (q := 46) (by decide +kernel) 148 ⟨by decide +kernel, by decide +kernel⟩ rfl
theorem dL_law_1711 : decode code 1711 = .ok (.ifCond .eq 5, 3) := decode_sh lwA26 (q := 47) (by decide +kernel) 153 ⟨by decide +kernel, by decide +kernel⟩ rfl
theorem dL_law_1714 : decode code 1714 = .ok (.iconst 0, 1) := decode_sh lwA26 (q := 50) (by decide +kernel) 3 ⟨by decide +kernel, by decide +kernel⟩ rfl
theorem dL_law_1715 : decode code 1715 = .ok (.ireturn, 1) := decode_sh lwA26 (q := 51) (by decide +kernel) 172 ⟨by decide +kernel, by decide +kernel⟩ rfl
theorem dL_law_1716 : decode code 1716 = .ok (.goto 2079, 3) := decode_sh lwA26 (q := 52) (by decide +kernel) 167 ⟨by decide +kernel, by decide +kernel⟩ rfl
theorem dL_law_1719 : decode code 1719 = .ok (.aload_n 1, 1) := decode_sh lwA26 (q := 55) (by decide +kernel) 43 ⟨by decide +kernel, by decide +kernel⟩ rfl
theorem dL_law_1720 : decode code 1720 = .ok (.aload_n 0, 1) := decode_sh lwA26 (q := 56) (by decide +kernel) 42 ⟨by decide +kernel, by decide +kernel⟩ rfl
theorem dL_law_1721 : decode code 1721 = .ok (.iload 5, 2) := decode_sh lwA26 (q := 57) (by decide +kernel) 21 ⟨by decide +kernel, by decide +kernel⟩ rfl
theorem dL_law_1723 : decode code 1723 = .ok (.iconst 1, 1) := decode_sh lwA26 (q := 59) (by decide +kernel) 4 ⟨by decide +kernel, by decide +kernel⟩ rfl
theorem dL_law_1724 : decode code 1724 = .ok (.iadd, 1) := decode_sh lwA26 (q := 60) (by decide +kernel) 96 ⟨by decide +kernel, by decide +kernel⟩ rfl
theorem dL_law_1725 : decode code 1725 = .ok (.iaload, 1) := decode_sh lwA26 (q := 61) (by decide +kernel) 46 ⟨by decide +kernel, by decide +kernel⟩ rfl
theorem dL_law_1726 : decode code 1726 = .ok (.aload_n 3, 1) := decode_sh lwA26 (q := 62) (by decide +kernel) 45 ⟨by decide +kernel, by decide +kernel⟩ rfl
theorem dL_law_1727 : decode code 1727 = .ok (.invokestatic 300, 3) := decode_sh lwA26 (q := 63) (by decide +kernel) 184 ⟨by decide +kernel, by decide +kernel⟩ rfl
theorem dL_law_1730 : decode code 1730 = .ok (.istore 6, 2) := decode_sh lwA27 (q := 2) (by decide +kernel) 54 ⟨by decide +kernel, by decide +kernel⟩ rfl
theorem dL_law_1732 : decode code 1732 = .ok (.aload_n 2, 1) := decode_sh lwA27 (q := 4) (by decide +kernel) 44 ⟨by decide +kernel, by decide +kernel⟩ rfl
theorem dL_law_1733 : decode code 1733 = .ok (.aload_n 0, 1) := decode_sh lwA27 (q := 5) (by decide +kernel) 42 ⟨by decide +kernel, by decide +kernel⟩ rfl
theorem dL_law_1734 : decode code 1734 = .ok (.iload 5, 2) := decode_sh lwA27 (q := 6) (by decide +kernel) 21 ⟨by decide +kernel, by decide +kernel⟩ rfl
theorem dL_law_1736 : decode code 1736 = .ok (.iconst 1, 1) := decode_sh lwA27 (q := 8) (by decide +kernel) 4 ⟨by decide +kernel, by decide +kernel⟩ rfl
theorem dL_law_1737 : decode code 1737 = .ok (.iadd, 1) := decode_sh lwA27 (q := 9) (by decide +kernel) 96 ⟨by decide +kernel, by decide +kernel⟩ rfl
theorem dL_law_1738 : decode code 1738 = .ok (.iaload, 1) := decode_sh lwA27 (q := 10) (by decide +kernel) 46 ⟨by decide +kernel, by decide +kernel⟩ rfl
theorem dL_law_1739 : decode code 1739 = .ok (.invokevirtual 302, 3) := decode_sh lwA27 (q := 11) (by decide +kernel) 182 ⟨by decide +kernel, by decide +kernel⟩ rfl
theorem dL_law_1742 : decode code 1742 = .ok (.istore 7, 2) := decode_sh lwA27 (q := 14) (by decide +kernel) 54 ⟨by decide +kernel, by decide +kernel⟩ rfl
theorem dL_law_1744 : decode code 1744 = .ok (.aload_n 2, 1) := decode_sh lwA27 (q := 16) (by decide +kernel) 44 ⟨by decide +kernel, by decide +kernel⟩ rfl
theorem dL_law_1745 : decode code 1745 = .ok (.invokevirtual 213, 3) := decode_sh lwA27 (q := 17) (by decide +kernel) 182 ⟨by decide +kernel, by decide +kernel⟩ rfl
theorem dL_law_1748 : decode code 1748 = .ok (.iload 6, 2) := decode_sh lwA27 (q := 20) (by decide +kernel) 21 ⟨by decide +kernel, by decide +kernel⟩ rfl
theorem dL_law_1750 : decode code 1750 = .ok (.if_icmp .eq 5, 3) := decode_sh lwA27 (q := 22) (by decide +kernel) 159 ⟨by decide +kernel, by decide +kernel⟩ rfl
theorem dL_law_1753 : decode code 1753 = .ok (.iconst 0, 1) := decode_sh lwA27 (q := 25) (by decide +kernel) 3 ⟨by decide +kernel, by decide +kernel⟩ rfl
theorem dL_law_1754 : decode code 1754 = .ok (.ireturn, 1) := decode_sh lwA27 (q := 26) (by decide +kernel) 172 ⟨by decide +kernel, by decide +kernel⟩ rfl
theorem dL_law_1755 : decode code 1755 = .ok (.iload 6, 2) := decode_sh lwA27 (q := 27) (by decide +kernel) 21 ⟨by decide +kernel, by decide +kernel⟩ rfl
theorem dL_law_1757 : decode code 1757 = .ok (.ifCond .ne 15, 3) := decode_sh lwA27 (q := 29) (by decide +kernel) 154 ⟨by decide +kernel, by decide +kernel⟩ rfl
theorem dL_law_1760 : decode code 1760 = .ok (.aload_n 3, 1) := decode_sh lwA27 (q := 32) (by decide +kernel) 45 ⟨by decide +kernel, by decide +kernel⟩ rfl
theorem dL_law_1761 : decode code 1761 = .ok (.iconst 0, 1) := decode_sh lwA27 (q := 33) (by decide +kernel) 3 ⟨by decide +kernel, by decide +kernel⟩ rfl
theorem dL_law_1762 : decode code 1762 = .ok (.laload, 1) := decode_sh lwA27 (q := 34) (by decide +kernel) 47 ⟨by decide +kernel, by decide +kernel⟩ rfl
theorem dL_law_1763 : decode code 1763 = .ok (.iload 7, 2) := decode_sh lwA27 (q := 35) (by decide +kernel) 21 ⟨by decide +kernel, by decide +kernel⟩ rfl
theorem dL_law_1765 : decode code 1765 = .ok (.i2l, 1) := decode_sh lwA27 (q := 37) (by decide +kernel) 133 ⟨by decide +kernel, by decide +kernel⟩ rfl
theorem dL_law_1766 : decode code 1766 = .ok (.lcmp, 1) := decode_sh lwA27 (q := 38) (by decide +kernel) 148 ⟨by decide +kernel, by decide +kernel⟩ rfl
theorem dL_law_1767 : decode code 1767 = .ok (.ifCond .eq 5, 3) := decode_sh lwA27 (q := 39) (by decide +kernel) 153 ⟨by decide +kernel, by decide +kernel⟩ rfl
theorem dL_law_1770 : decode code 1770 = .ok (.iconst 0, 1) := decode_sh lwA27 (q := 42) (by decide +kernel) 3 ⟨by decide +kernel, by decide +kernel⟩ rfl
theorem dL_law_1771 : decode code 1771 = .ok (.ireturn, 1) := decode_sh lwA27 (q := 43) (by decide +kernel) 172 ⟨by decide +kernel, by decide +kernel⟩ rfl
theorem dL_law_1772 : decode code 1772 = .ok (.goto 2023, 3) := decode_sh lwA27 (q := 44) (by decide +kernel) 167 ⟨by decide +kernel, by decide +kernel⟩ rfl
theorem dL_law_1775 : decode code 1775 = .ok (.aload_n 1, 1) := decode_sh lwA27 (q := 47) (by decide +kernel) 43 ⟨by decide +kernel, by decide +kernel⟩ rfl
theorem dL_law_1776 : decode code 1776 = .ok (.aload_n 0, 1) := decode_sh lwA27 (q := 48) (by decide +kernel) 42 ⟨by decide +kernel, by decide +kernel⟩ rfl
theorem dL_law_1777 : decode code 1777 = .ok (.iload 5, 2) := decode_sh lwA27 (q := 49) (by decide +kernel) 21 ⟨by decide +kernel, by decide +kernel⟩ rfl
theorem dL_law_1779 : decode code 1779 = .ok (.iconst 1, 1) := decode_sh lwA27 (q := 51) (by decide +kernel) 4 ⟨by decide +kernel, by decide +kernel⟩ rfl
theorem dL_law_1780 : decode code 1780 = .ok (.iadd, 1) := decode_sh lwA27 (q := 52) (by decide +kernel) 96 ⟨by decide +kernel, by decide +kernel⟩ rfl
theorem dL_law_1781 : decode code 1781 = .ok (.iaload, 1) := decode_sh lwA27 (q := 53) (by decide +kernel) 46 ⟨by decide +kernel, by decide +kernel⟩ rfl
theorem dL_law_1782 : decode code 1782 = .ok (.aload_n 3, 1) := decode_sh lwA27 (q := 54) (by decide +kernel) 45 ⟨by decide +kernel, by decide +kernel⟩ rfl
theorem dL_law_1783 : decode code 1783 = .ok (.invokestatic 303, 3) := decode_sh lwA27 (q := 55) (by decide +kernel) 184 ⟨by decide +kernel, by decide +kernel⟩ rfl
theorem dL_law_1786 : decode code 1786 = .ok (.istore 6, 2) := decode_sh lwA27 (q := 58) (by decide +kernel) 54 ⟨by decide +kernel, by decide +kernel⟩ rfl
theorem dL_law_1788 : decode code 1788 = .ok (.aload_n 2, 1) := decode_sh lwA27 (q := 60) (by decide +kernel) 44 ⟨by decide +kernel, by decide +kernel⟩ rfl
theorem dL_law_1789 : decode code 1789 = .ok (.aload_n 0, 1) := decode_sh lwA27 (q := 61) (by decide +kernel) 42 ⟨by decide +kernel, by decide +kernel⟩ rfl
theorem dL_law_1790 : decode code 1790 = .ok (.iload 5, 2) := decode_sh lwA27 (q := 62) (by decide +kernel) 21 ⟨by decide +kernel, by decide +kernel⟩ rfl
theorem dL_law_1792 : decode code 1792 = .ok (.iconst 1, 1) := decode_sh lwA28 (q := 0) (by decide +kernel) 4 ⟨by decide +kernel, by decide +kernel⟩ rfl
theorem dL_law_1793 : decode code 1793 = .ok (.iadd, 1) := decode_sh lwA28 (q := 1) (by decide +kernel) 96 ⟨by decide +kernel, by decide +kernel⟩ rfl
theorem dL_law_1794 : decode code 1794 = .ok (.iaload, 1) := decode_sh lwA28 (q := 2) (by decide +kernel) 46 ⟨by decide +kernel, by decide +kernel⟩ rfl
theorem dL_law_1795 : decode code 1795 = .ok (.invokevirtual 305, 3) := decode_sh lwA28 (q := 3) (by decide +kernel) 182 ⟨by decide +kernel, by decide +kernel⟩ rfl
theorem dL_law_1798 : decode code 1798 = .ok (.istore 7, 2) := decode_sh lwA28 (q := 6) (by decide +kernel) 54 ⟨by decide +kernel, by decide +kernel⟩ rfl
theorem dL_law_1800 : decode code 1800 = .ok (.aload_n 2, 1) := decode_sh lwA28 (q := 8) (by decide +kernel) 44 ⟨by decide +kernel, by decide +kernel⟩ rfl
theorem dL_law_1801 : decode code 1801 = .ok (.invokevirtual 213, 3) := decode_sh lwA28 (q := 9) (by decide +kernel) 182 ⟨by decide +kernel, by decide +kernel⟩ rfl
theorem dL_law_1804 : decode code 1804 = .ok (.iload 6, 2) := decode_sh lwA28 (q := 12) (by decide +kernel) 21 ⟨by decide +kernel, by decide +kernel⟩ rfl
theorem dL_law_1806 : decode code 1806 = .ok (.if_icmp .eq 5, 3) := decode_sh lwA28 (q := 14) (by decide +kernel) 159 ⟨by decide +kernel, by decide +kernel⟩ rfl
theorem dL_law_1809 : decode code 1809 = .ok (.iconst 0, 1) := decode_sh lwA28 (q := 17) (by decide +kernel) 3 ⟨by decide +kernel, by decide +kernel⟩ rfl
theorem dL_law_1810 : decode code 1810 = .ok (.ireturn, 1) := decode_sh lwA28 (q := 18) (by decide +kernel) 172 ⟨by decide +kernel, by decide +kernel⟩ rfl
theorem dL_law_1811 : decode code 1811 = .ok (.iload 6, 2) := decode_sh lwA28 (q := 19) (by decide +kernel) 21 ⟨by decide +kernel, by decide +kernel⟩ rfl
theorem dL_law_1813 : decode code 1813 = .ok (.ifCond .ne 15, 3) := decode_sh lwA28 (q := 21) (by decide +kernel) 154 ⟨by decide +kernel, by decide +kernel⟩ rfl
theorem dL_law_1816 : decode code 1816 = .ok (.aload_n 3, 1) := decode_sh lwA28 (q := 24) (by decide +kernel) 45 ⟨by decide +kernel, by decide +kernel⟩ rfl
theorem dL_law_1817 : decode code 1817 = .ok (.iconst 0, 1) := decode_sh lwA28 (q := 25) (by decide +kernel) 3 ⟨by decide +kernel, by decide +kernel⟩ rfl
theorem dL_law_1818 : decode code 1818 = .ok (.laload, 1) := decode_sh lwA28 (q := 26) (by decide +kernel) 47 ⟨by decide +kernel, by decide +kernel⟩ rfl
theorem dL_law_1819 : decode code 1819 = .ok (.iload 7, 2) := decode_sh lwA28 (q := 27) (by decide +kernel) 21 ⟨by decide +kernel, by decide +kernel⟩ rfl
theorem dL_law_1821 : decode code 1821 = .ok (.i2l, 1) := decode_sh lwA28 (q := 29) (by decide +kernel) 133 ⟨by decide +kernel, by decide +kernel⟩ rfl
theorem dL_law_1822 : decode code 1822 = .ok (.lcmp, 1) := decode_sh lwA28 (q := 30) (by decide +kernel) 148 ⟨by decide +kernel, by decide +kernel⟩ rfl
theorem dL_law_1823 : decode code 1823 = .ok (.ifCond .eq 5, 3) := decode_sh lwA28 (q := 31) (by decide +kernel) 153 ⟨by decide +kernel, by decide +kernel⟩ rfl
theorem dL_law_1826 : decode code 1826 = .ok (.iconst 0, 1) := decode_sh lwA28 (q := 34) (by decide +kernel) 3 ⟨by decide +kernel, by decide +kernel⟩ rfl
theorem dL_law_1827 : decode code 1827 = .ok (.ireturn, 1) := decode_sh lwA28 (q := 35) (by decide +kernel) 172 ⟨by decide +kernel, by decide +kernel⟩ rfl
theorem dL_law_1828 : decode code 1828 = .ok (.goto 1967, 3) := decode_sh lwA28 (q := 36) (by decide +kernel) 167 ⟨by decide +kernel, by decide +kernel⟩ rfl
theorem dL_law_1831 : decode code 1831 = .ok (.aload_n 1, 1) := decode_sh lwA28 (q := 39) (by decide +kernel) 43 ⟨by decide +kernel, by decide +kernel⟩ rfl
theorem dL_law_1832 : decode code 1832 = .ok (.aload_n 0, 1) := decode_sh lwA28 (q := 40) (by decide +kernel) 42 ⟨by decide +kernel, by decide +kernel⟩ rfl
theorem dL_law_1833 : decode code 1833 = .ok (.iload 5, 2) := decode_sh lwA28 (q := 41) (by decide +kernel) 21 ⟨by decide +kernel, by decide +kernel⟩ rfl
theorem dL_law_1835 : decode code 1835 = .ok (.iconst 1, 1) := decode_sh lwA28 (q := 43) (by decide +kernel) 4 ⟨by decide +kernel, by decide +kernel⟩ rfl
theorem dL_law_1836 : decode code 1836 = .ok (.iadd, 1) := decode_sh lwA28 (q := 44) (by decide +kernel) 96 ⟨by decide +kernel, by decide +kernel⟩ rfl
theorem dL_law_1837 : decode code 1837 = .ok (.iaload, 1) := decode_sh lwA28 (q := 45) (by decide +kernel) 46 ⟨by decide +kernel, by decide +kernel⟩ rfl
theorem dL_law_1838 : decode code 1838 = .ok (.aload_n 3, 1) := decode_sh lwA28 (q := 46) (by decide +kernel) 45 ⟨by decide +kernel, by decide +kernel⟩ rfl
theorem dL_law_1839 : decode code 1839 = .ok (.invokestatic 306, 3) := decode_sh lwA28 (q := 47) (by decide +kernel) 184 ⟨by decide +kernel, by decide +kernel⟩ rfl
theorem dL_law_1842 : decode code 1842 = .ok (.istore 6, 2) := decode_sh lwA28 (q := 50) (by decide +kernel) 54 ⟨by decide +kernel, by decide +kernel⟩ rfl
theorem dL_law_1844 : decode code 1844 = .ok (.aload_n 2, 1) := decode_sh lwA28 (q := 52) (by decide +kernel) 44 ⟨by decide +kernel, by decide +kernel⟩ rfl
theorem dL_law_1845 : decode code 1845 = .ok (.aload_n 0, 1) := decode_sh lwA28 (q := 53) (by decide +kernel) 42 ⟨by decide +kernel, by decide +kernel⟩ rfl
theorem dL_law_1846 : decode code 1846 = .ok (.iload 5, 2) := decode_sh lwA28 (q := 54) (by decide +kernel) 21 ⟨by decide +kernel, by decide +kernel⟩ rfl
theorem dL_law_1848 : decode code 1848 = .ok (.iconst 1, 1) := decode_sh lwA28 (q := 56) (by decide +kernel) 4 ⟨by decide +kernel, by decide +kernel⟩ rfl
theorem dL_law_1849 : decode code 1849 = .ok (.iadd, 1) := decode_sh lwA28 (q := 57) (by decide +kernel) 96 ⟨by decide +kernel, by decide +kernel⟩ rfl
theorem dL_law_1850 : decode code 1850 = .ok (.iaload, 1) := decode_sh lwA28 (q := 58) (by decide +kernel) 46 ⟨by decide +kernel, by decide +kernel⟩ rfl
theorem dL_law_1851 : decode code 1851 = .ok (.invokevirtual 308, 3) := decode_sh lwA28 (q := 59) (by decide +kernel) 182 ⟨by decide +kernel, by decide +kernel⟩ rfl
theorem dL_law_1854 : decode code 1854 = .ok (.istore 7, 2) := decode_sh lwA28 (q := 62) (by decide +kernel) 54 ⟨by decide +kernel, by decide +kernel⟩ rfl
theorem dL_law_1856 : decode code 1856 = .ok (.aload_n 2, 1) := decode_sh lwA29 (q := 0) (by decide +kernel) 44 ⟨by decide +kernel, by decide +kernel⟩ rfl
theorem dL_law_1857 : decode code 1857 = .ok (.invokevirtual 213, 3) := decode_sh lwA29 (q := 1) (by decide +kernel) 182 ⟨by decide +kernel, by decide +kernel⟩ rfl
theorem dL_law_1860 : decode code 1860 = .ok (.iload 6, 2) := decode_sh lwA29 (q := 4) (by decide +kernel) 21 ⟨by decide +kernel, by decide +kernel⟩ rfl
theorem dL_law_1862 : decode code 1862 = .ok (.if_icmp .eq 5, 3) := decode_sh lwA29 (q := 6) (by decide +kernel) 159 ⟨by decide +kernel, by decide +kernel⟩ rfl
theorem dL_law_1865 : decode code 1865 = .ok (.iconst 0, 1) := decode_sh lwA29 (q := 9) (by decide +kernel) 3 ⟨by decide +kernel, by decide +kernel⟩ rfl
theorem dL_law_1866 : decode code 1866 = .ok (.ireturn, 1) := decode_sh lwA29 (q := 10) (by decide +kernel) 172 ⟨by decide +kernel, by decide +kernel⟩ rfl
theorem dL_law_1867 : decode code 1867 = .ok (.iload 6, 2) := decode_sh lwA29 (q := 11) (by decide +kernel) 21 ⟨by decide +kernel, by decide +kernel⟩ rfl
theorem dL_law_1869 : decode code 1869 = .ok (.ifCond .ne 15, 3) := decode_sh lwA29 (q := 13) (by decide +kernel) 154 ⟨by decide +kernel, by decide +kernel⟩ rfl
theorem dL_law_1872 : decode code 1872 = .ok (.aload_n 3, 1) := decode_sh lwA29 (q := 16) (by decide +kernel) 45 ⟨by decide +kernel, by decide +kernel⟩ rfl
theorem dL_law_1873 : decode code 1873 = .ok (.iconst 0, 1) := decode_sh lwA29 (q := 17) (by decide +kernel) 3 ⟨by decide +kernel, by decide +kernel⟩ rfl
theorem dL_law_1874 : decode code 1874 = .ok (.laload, 1) := decode_sh lwA29 (q := 18) (by decide +kernel) 47 ⟨by decide +kernel, by decide +kernel⟩ rfl
theorem dL_law_1875 : decode code 1875 = .ok (.iload 7, 2) := decode_sh lwA29 (q := 19) (by decide +kernel) 21 ⟨by decide +kernel, by decide +kernel⟩ rfl
theorem dL_law_1877 : decode code 1877 = .ok (.i2l, 1) := decode_sh lwA29 (q := 21) (by decide +kernel) 133 ⟨by decide +kernel, by decide +kernel⟩ rfl
theorem dL_law_1878 : decode code 1878 = .ok (.lcmp, 1) := decode_sh lwA29 (q := 22) (by decide +kernel) 148 ⟨by decide +kernel, by decide +kernel⟩ rfl
theorem dL_law_1879 : decode code 1879 = .ok (.ifCond .eq 5, 3) := decode_sh lwA29 (q := 23) (by decide +kernel) 153 ⟨by decide +kernel, by decide +kernel⟩ rfl
theorem dL_law_1882 : decode code 1882 = .ok (.iconst 0, 1) := decode_sh lwA29 (q := 26) (by decide +kernel) 3 ⟨by decide +kernel, by decide +kernel⟩ rfl
theorem dL_law_1883 : decode code 1883 = .ok (.ireturn, 1) := decode_sh lwA29 (q := 27) (by decide +kernel) 172 ⟨by decide +kernel, by decide +kernel⟩ rfl
theorem dL_law_1884 : decode code 1884 = .ok (.goto 1911, 3) := decode_sh lwA29 (q := 28) (by decide +kernel) 167 ⟨by decide +kernel, by decide +kernel⟩ rfl
theorem dL_law_1887 : decode code 1887 = .ok (.aload_n 1, 1) := decode_sh lwA29 (q := 31) (by decide +kernel) 43 ⟨by decide +kernel, by decide +kernel⟩ rfl
theorem dL_law_1888 : decode code 1888 = .ok (.aload_n 0, 1) := decode_sh lwA29 (q := 32) (by decide +kernel) 42 ⟨by decide +kernel, by decide +kernel⟩ rfl
theorem dL_law_1889 : decode code 1889 = .ok (.iload 5, 2) := decode_sh lwA29 (q := 33) (by decide +kernel) 21 ⟨by decide +kernel, by decide +kernel⟩ rfl
theorem dL_law_1891 : decode code 1891 = .ok (.iconst 1, 1) := decode_sh lwA29 (q := 35) (by decide +kernel) 4 ⟨by decide +kernel, by decide +kernel⟩ rfl
theorem dL_law_1892 : decode code 1892 = .ok (.iadd, 1) := decode_sh lwA29 (q := 36) (by decide +kernel) 96 ⟨by decide +kernel, by decide +kernel⟩ rfl
theorem dL_law_1893 : decode code 1893 = .ok (.iaload, 1) := decode_sh lwA29 (q := 37) (by decide +kernel) 46 ⟨by decide +kernel, by decide +kernel⟩ rfl
theorem dL_law_1894 : decode code 1894 = .ok (.aload_n 3, 1) := decode_sh lwA29 (q := 38) (by decide +kernel) 45 ⟨by decide +kernel, by decide +kernel⟩ rfl
theorem dL_law_1895 : decode code 1895 = .ok (.invokestatic 309, 3) := decode_sh lwA29 (q := 39) (by decide +kernel) 184 ⟨by decide +kernel, by decide +kernel⟩ rfl
theorem dL_law_1898 : decode code 1898 = .ok (.istore 6, 2) := decode_sh lwA29 (q := 42) (by decide +kernel) 54 ⟨by decide +kernel, by decide +kernel⟩ rfl
theorem dL_law_1900 : decode code 1900 = .ok (.aload_n 2, 1) := decode_sh lwA29 (q := 44) (by decide +kernel) 44 ⟨by decide +kernel, by decide +kernel⟩ rfl
theorem dL_law_1901 : decode code 1901 = .ok (.aload_n 0, 1) := decode_sh lwA29 (q := 45) (by decide +kernel) 42 ⟨by decide +kernel, by decide +kernel⟩ rfl
theorem dL_law_1902 : decode code 1902 = .ok (.iload 5, 2) := decode_sh lwA29 (q := 46) (by decide +kernel) 21 ⟨by decide +kernel, by decide +kernel⟩ rfl
theorem dL_law_1904 : decode code 1904 = .ok (.iconst 1, 1) := decode_sh lwA29 (q := 48) (by decide +kernel) 4 ⟨by decide +kernel, by decide +kernel⟩ rfl
theorem dL_law_1905 : decode code 1905 = .ok (.iadd, 1) := decode_sh lwA29 (q := 49) (by decide +kernel) 96 ⟨by decide +kernel, by decide +kernel⟩ rfl
theorem dL_law_1906 : decode code 1906 = .ok (.iaload, 1) := decode_sh lwA29 (q := 50) (by decide +kernel) 46 ⟨by decide +kernel, by decide +kernel⟩ rfl
theorem dL_law_1907 : decode code 1907 = .ok (.invokevirtual 311, 3) := decode_sh lwA29 (q := 51) (by decide +kernel) 182 ⟨by decide +kernel, by decide +kernel⟩ rfl
theorem dL_law_1910 : decode code 1910 = .ok (.istore 7, 2) := decode_sh lwA29 (q := 54) (by decide +kernel) 54 ⟨by decide +kernel, by decide +kernel⟩ rfl
theorem dL_law_1912 : decode code 1912 = .ok (.aload_n 2, 1) := decode_sh lwA29 (q := 56) (by decide +kernel) 44 ⟨by decide +kernel, by decide +kernel⟩ rfl
theorem dL_law_1913 : decode code 1913 = .ok (.invokevirtual 213, 3) := decode_sh lwA29 (q := 57) (by decide +kernel) 182 ⟨by decide +kernel, by decide +kernel⟩ rfl
theorem dL_law_1916 : decode code 1916 = .ok (.iload 6, 2) := decode_sh lwA29 (q := 60) (by decide +kernel) 21 ⟨by decide +kernel, by decide +kernel⟩ rfl
theorem dL_law_1918 : decode code 1918 = .ok (.if_icmp .eq 5, 3) := decode_sh lwA29 (q := 62) (by decide +kernel) 159 ⟨by decide +kernel, by decide +kernel⟩ rfl
theorem dL_law_1921 : decode code 1921 = .ok (.iconst 0, 1) := decode_sh lwA30 (q := 1) (by decide +kernel) 3 ⟨by decide +kernel, by decide +kernel⟩ rfl
theorem dL_law_1922 : decode code 1922 = .ok (.ireturn, 1) := decode_sh lwA30 (q := 2) (by decide +kernel) 172 ⟨by decide +kernel, by decide +kernel⟩ rfl
theorem dL_law_1923 : decode code 1923 = .ok (.iload 6, 2) := decode_sh lwA30 (q := 3) (by decide +kernel) 21 ⟨by decide +kernel, by decide +kernel⟩ rfl
theorem dL_law_1925 : decode code 1925 = .ok (.ifCond .ne 15, 3) := decode_sh lwA30 (q := 5) (by decide +kernel) 154 ⟨by decide +kernel, by decide +kernel⟩ rfl
theorem dL_law_1928 : decode code 1928 = .ok (.aload_n 3, 1) := decode_sh lwA30 (q := 8) (by decide +kernel) 45 ⟨by decide +kernel, by decide +kernel⟩ rfl
theorem dL_law_1929 : decode code 1929 = .ok (.iconst 0, 1) := decode_sh lwA30 (q := 9) (by decide +kernel) 3 ⟨by decide +kernel, by decide +kernel⟩ rfl
theorem dL_law_1930 : decode code 1930 = .ok (.laload, 1) := decode_sh lwA30 (q := 10) (by decide +kernel) 47 ⟨by decide +kernel, by decide +kernel⟩ rfl
theorem dL_law_1931 : decode code 1931 = .ok (.iload 7, 2) := decode_sh lwA30 (q := 11) (by decide +kernel) 21 ⟨by decide +kernel, by decide +kernel⟩ rfl
theorem dL_law_1933 : decode code 1933 = .ok (.i2l, 1) := decode_sh lwA30 (q := 13) (by decide +kernel) 133 ⟨by decide +kernel, by decide +kernel⟩ rfl
theorem dL_law_1934 : decode code 1934 = .ok (.lcmp, 1) := decode_sh lwA30 (q := 14) (by decide +kernel) 148 ⟨by decide +kernel, by decide +kernel⟩ rfl
theorem dL_law_1935 : decode code 1935 = .ok (.ifCond .eq 5, 3) := decode_sh lwA30 (q := 15) (by decide +kernel) 153 ⟨by decide +kernel, by decide +kernel⟩ rfl
theorem dL_law_1938 : decode code 1938 = .ok (.iconst 0, 1) := decode_sh lwA30 (q := 18) (by decide +kernel) 3 ⟨by decide +kernel, by decide +kernel⟩ rfl
theorem dL_law_1939 : decode code 1939 = .ok (.ireturn, 1) := decode_sh lwA30 (q := 19) (by decide +kernel) 172 ⟨by decide +kernel, by decide +kernel⟩ rfl
theorem dL_law_1940 : decode code 1940 = .ok (.goto 1855, 3) := decode_sh lwA30 (q := 20) (by decide +kernel) 167 ⟨by decide +kernel, by decide +kernel⟩ rfl
theorem dL_law_1943 : decode code 1943 = .ok (.aload_n 1, 1) := decode_sh lwA30 (q := 23) (by decide +kernel) 43 ⟨by decide +kernel, by decide +kernel⟩ rfl
theorem dL_law_1944 : decode code 1944 = .ok (.aload_n 0, 1) := decode_sh lwA30 (q := 24) (by decide +kernel) 42 ⟨by decide +kernel, by decide +kernel⟩ rfl
theorem dL_law_1945 : decode code 1945 = .ok (.iload 5, 2) := decode_sh lwA30 (q := 25) (by decide +kernel) 21 ⟨by decide +kernel, by decide +kernel⟩ rfl
theorem dL_law_1947 : decode code 1947 = .ok (.iconst 1, 1) := decode_sh lwA30 (q := 27) (by decide +kernel) 4 ⟨by decide +kernel, by decide +kernel⟩ rfl
theorem dL_law_1948 : decode code 1948 = .ok (.iadd, 1) := decode_sh lwA30 (q := 28) (by decide +kernel) 96 ⟨by decide +kernel, by decide +kernel⟩ rfl
theorem dL_law_1949 : decode code 1949 = .ok (.iaload, 1) := decode_sh lwA30 (q := 29) (by decide +kernel) 46 ⟨by decide +kernel, by decide +kernel⟩ rfl
theorem dL_law_1950 : decode code 1950 = .ok (.aload_n 3, 1) := decode_sh lwA30 (q := 30) (by decide +kernel) 45 ⟨by decide +kernel, by decide +kernel⟩ rfl
theorem dL_law_1951 : decode code 1951 = .ok (.invokestatic 312, 3) := decode_sh lwA30 (q := 31) (by decide +kernel) 184 ⟨by decide +kernel, by decide +kernel⟩ rfl
theorem dL_law_1954 : decode code 1954 = .ok (.istore 6, 2) := decode_sh lwA30 (q := 34) (by decide +kernel) 54 ⟨by decide +kernel, by decide +kernel⟩ rfl
theorem dL_law_1956 : decode code 1956 = .ok (.aload_n 2, 1) := decode_sh lwA30 (q := 36) (by decide +kernel) 44 ⟨by decide +kernel, by decide +kernel⟩ rfl
theorem dL_law_1957 : decode code 1957 = .ok (.aload_n 0, 1) := decode_sh lwA30 (q := 37) (by decide +kernel) 42 ⟨by decide +kernel, by decide +kernel⟩ rfl
theorem dL_law_1958 : decode code 1958 = .ok (.iload 5, 2) := decode_sh lwA30 (q := 38) (by decide +kernel) 21 ⟨by decide +kernel, by decide +kernel⟩ rfl
theorem dL_law_1960 : decode code 1960 = .ok (.iconst 1, 1) := decode_sh lwA30 (q := 40) (by decide +kernel) 4 ⟨by decide +kernel, by decide +kernel⟩ rfl
theorem dL_law_1961 : decode code 1961 = .ok (.iadd, 1) := decode_sh lwA30 (q := 41) (by decide +kernel) 96 ⟨by decide +kernel, by decide +kernel⟩ rfl
theorem dL_law_1962 : decode code 1962 = .ok (.iaload, 1) := decode_sh lwA30 (q := 42) (by decide +kernel) 46 ⟨by decide +kernel, by decide +kernel⟩ rfl
theorem dL_law_1963 : decode code 1963 = .ok (.invokevirtual 314, 3) := decode_sh lwA30 (q := 43) (by decide +kernel) 182 ⟨by decide +kernel, by decide +kernel⟩ rfl
theorem dL_law_1966 : decode code 1966 = .ok (.istore 7, 2) := decode_sh lwA30 (q := 46) (by decide +kernel) 54 ⟨by decide +kernel, by decide +kernel⟩ rfl
theorem dL_law_1968 : decode code 1968 = .ok (.aload_n 2, 1) := decode_sh lwA30 (q := 48) (by decide +kernel) 44 ⟨by decide +kernel, by decide +kernel⟩ rfl
theorem dL_law_1969 : decode code 1969 = .ok (.invokevirtual 213, 3) := decode_sh lwA30 (q := 49) (by decide +kernel) 182 ⟨by decide +kernel, by decide +kernel⟩ rfl
theorem dL_law_1972 : decode code 1972 = .ok (.iload 6, 2) := decode_sh lwA30 (q := 52) (by decide +kernel) 21 ⟨by decide +kernel, by decide +kernel⟩ rfl
theorem dL_law_1974 : decode code 1974 = .ok (.if_icmp .eq 5, 3) := decode_sh lwA30 (q := 54) (by decide +kernel) 159 ⟨by decide +kernel, by decide +kernel⟩ rfl
theorem dL_law_1977 : decode code 1977 = .ok (.iconst 0, 1) := decode_sh lwA30 (q := 57) (by decide +kernel) 3 ⟨by decide +kernel, by decide +kernel⟩ rfl
theorem dL_law_1978 : decode code 1978 = .ok (.ireturn, 1) := decode_sh lwA30 (q := 58) (by decide +kernel) 172 ⟨by decide +kernel, by decide +kernel⟩ rfl
theorem dL_law_1979 : decode code 1979 = .ok (.iload 6, 2) := decode_sh lwA30 (q := 59) (by decide +kernel) 21 ⟨by decide +kernel, by decide +kernel⟩ rfl
theorem dL_law_1981 : decode code 1981 = .ok (.ifCond .ne 15, 3) := decode_sh lwA30 (q := 61) (by decide +kernel) 154 ⟨by decide +kernel, by decide +kernel⟩ rfl
theorem dL_law_1984 : decode code 1984 = .ok (.aload_n 3, 1) := decode_sh lwA31 (q := 0) (by decide +kernel) 45 ⟨by decide +kernel, by decide +kernel⟩ rfl
theorem dL_law_1985 : decode code 1985 = .ok (.iconst 0, 1) := decode_sh lwA31 (q := 1) (by decide +kernel) 3 ⟨by decide +kernel, by decide +kernel⟩ rfl
theorem dL_law_1986 : decode code 1986 = .ok (.laload, 1) := decode_sh lwA31 (q := 2) (by decide +kernel) 47 ⟨by decide +kernel, by decide +kernel⟩ rfl
theorem dL_law_1987 : decode code 1987 = .ok (.iload 7, 2) := decode_sh lwA31 (q := 3) (by decide +kernel) 21 ⟨by decide +kernel, by decide +kernel⟩ rfl
theorem dL_law_1989 : decode code 1989 = .ok (.i2l, 1) := decode_sh lwA31 (q := 5) (by decide +kernel) 133 ⟨by decide +kernel, by decide +kernel⟩ rfl
theorem dL_law_1990 : decode code 1990 = .ok (.lcmp, 1) := decode_sh lwA31 (q := 6) (by decide +kernel) 148 ⟨by decide +kernel, by decide +kernel⟩ rfl
theorem dL_law_1991 : decode code 1991 = .ok (.ifCond .eq 5, 3) := decode_sh lwA31 (q := 7) (by decide +kernel) 153 ⟨by decide +kernel, by decide +kernel⟩ rfl
theorem dL_law_1994 : decode code 1994 = .ok (.iconst 0, 1) := decode_sh lwA31 (q := 10) (by decide +kernel) 3 ⟨by decide +kernel, by decide +kernel⟩ rfl
theorem dL_law_1995 : decode code 1995 = .ok (.ireturn, 1) := decode_sh lwA31 (q := 11) (by decide +kernel) 172 ⟨by decide +kernel, by decide +kernel⟩ rfl
theorem dL_law_1996 : decode code 1996 = .ok (.goto 1799, 3) := decode_sh lwA31 (q := 12) (by decide +kernel) 167 ⟨by decide +kernel, by decide +kernel⟩ rfl
theorem dL_law_1999 : decode code 1999 = .ok (.aload_n 1, 1) := decode_sh lwA31 (q := 15) (by decide +kernel) 43 ⟨by decide +kernel, by decide +kernel⟩ rfl
theorem dL_law_2000 : decode code 2000 = .ok (.aload_n 0, 1) := decode_sh lwA31 (q := 16) (by decide +kernel) 42 ⟨by decide +kernel, by decide +kernel⟩ rfl
theorem dL_law_2001 : decode code 2001 = .ok (.iload 5, 2) := decode_sh lwA31 (q := 17) (by decide +kernel) 21 ⟨by decide +kernel, by decide +kernel⟩ rfl
theorem dL_law_2003 : decode code 2003 = .ok (.iconst 1, 1) := decode_sh lwA31 (q := 19) (by decide +kernel) 4 ⟨by decide +kernel, by decide +kernel⟩ rfl
theorem dL_law_2004 : decode code 2004 = .ok (.iadd, 1) := decode_sh lwA31 (q := 20) (by decide +kernel) 96 ⟨by decide +kernel, by decide +kernel⟩ rfl
theorem dL_law_2005 : decode code 2005 = .ok (.iaload, 1) := decode_sh lwA31 (q := 21) (by decide +kernel) 46 ⟨by decide +kernel, by decide +kernel⟩ rfl
theorem dL_law_2006 : decode code 2006 = .ok (.aload_n 3, 1) := decode_sh lwA31 (q := 22) (by decide +kernel) 45 ⟨by decide +kernel, by decide +kernel⟩ rfl
theorem dL_law_2007 : decode code 2007 = .ok (.invokestatic 315, 3) := decode_sh lwA31 (q := 23) (by decide +kernel) 184 ⟨by decide +kernel, by decide +kernel⟩ rfl
theorem dL_law_2010 : decode code 2010 = .ok (.istore 6, 2) := decode_sh lwA31 (q := 26) (by decide +kernel) 54 ⟨by decide +kernel, by decide +kernel⟩ rfl
theorem dL_law_2012 : decode code 2012 = .ok (.aload_n 2, 1) := decode_sh lwA31 (q := 28) (by decide +kernel) 44 ⟨by decide +kernel, by decide +kernel⟩ rfl
theorem dL_law_2013 : decode code 2013 = .ok (.aload_n 0, 1) := decode_sh lwA31 (q := 29) (by decide +kernel) 42 ⟨by decide +kernel, by decide +kernel⟩ rfl
theorem dL_law_2014 : decode code 2014 = .ok (.iload 5, 2) := decode_sh lwA31 (q := 30) (by decide +kernel) 21 ⟨by decide +kernel, by decide +kernel⟩ rfl
theorem dL_law_2016 : decode code 2016 = .ok (.iconst 1, 1) := decode_sh lwA31 (q := 32) (by decide +kernel) 4 ⟨by decide +kernel, by decide +kernel⟩ rfl
theorem dL_law_2017 : decode code 2017 = .ok (.iadd, 1) := decode_sh lwA31 (q := 33) (by decide +kernel) 96 ⟨by decide +kernel, by decide +kernel⟩ rfl
theorem dL_law_2018 : decode code 2018 = .ok (.iaload, 1) := decode_sh lwA31 (q := 34) (by decide +kernel) 46 ⟨by decide +kernel, by decide +kernel⟩ rfl
theorem dL_law_2019 : decode code 2019 = .ok (.invokevirtual 317, 3) := decode_sh lwA31 (q := 35) (by decide +kernel) 182 ⟨by decide +kernel, by decide +kernel⟩ rfl
theorem dL_law_2022 : decode code 2022 = .ok (.istore 7, 2) := decode_sh lwA31 (q := 38) (by decide +kernel) 54 ⟨by decide +kernel, by decide +kernel⟩ rfl
theorem dL_law_2024 : decode code 2024 = .ok (.aload_n 2, 1) := decode_sh lwA31 (q := 40) (by decide +kernel) 44 ⟨by decide +kernel, by decide +kernel⟩ rfl
theorem dL_law_2025 : decode code 2025 = .ok (.invokevirtual 213, 3) := decode_sh lwA31 (q := 41) (by decide +kernel) 182 ⟨by decide +kernel, by decide +kernel⟩ rfl
theorem dL_law_2028 : decode code 2028 = .ok (.iload 6, 2) := decode_sh lwA31 (q := 44) (by decide +kernel) 21 ⟨by decide +kernel, by decide +kernel⟩ rfl
theorem dL_law_2030 : decode code 2030 = .ok (.if_icmp .eq 5, 3) := decode_sh lwA31 (q := 46) (by decide +kernel) 159 ⟨by decide +kernel, by decide +kernel⟩ rfl
theorem dL_law_2033 : decode code 2033 = .ok (.iconst 0, 1) := decode_sh lwA31 (q := 49) (by decide +kernel) 3 ⟨by decide +kernel, by decide +kernel⟩ rfl
theorem dL_law_2034 : decode code 2034 = .ok (.ireturn, 1) := decode_sh lwA31 (q := 50) (by decide +kernel) 172 ⟨by decide +kernel, by decide +kernel⟩ rfl
theorem dL_law_2035 : decode code 2035 = .ok (.iload 6, 2) := decode_sh lwA31 (q := 51) (by decide +kernel) 21 ⟨by decide +kernel, by decide +kernel⟩ rfl
theorem dL_law_2037 : decode code 2037 = .ok (.ifCond .ne 15, 3) := decode_sh lwA31 (q := 53) (by decide +kernel) 154 ⟨by decide +kernel, by decide +kernel⟩ rfl
theorem dL_law_2040 : decode code 2040 = .ok (.aload_n 3, 1) := decode_sh lwA31 (q := 56) (by decide +kernel) 45 ⟨by decide +kernel, by decide +kernel⟩ rfl
theorem dL_law_2041 : decode code 2041 = .ok (.iconst 0, 1) := decode_sh lwA31 (q := 57) (by decide +kernel) 3 ⟨by decide +kernel, by decide +kernel⟩ rfl
theorem dL_law_2042 : decode code 2042 = .ok (.laload, 1) := decode_sh lwA31 (q := 58) (by decide +kernel) 47 ⟨by decide +kernel, by decide +kernel⟩ rfl
theorem dL_law_2043 : decode code 2043 = .ok (.iload 7, 2) := decode_sh lwA31 (q := 59) (by decide +kernel) 21 ⟨by decide +kernel, by decide +kernel⟩ rfl
theorem dL_law_2045 : decode code 2045 = .ok (.i2l, 1) := decode_sh lwA31 (q := 61) (by decide +kernel) 133 ⟨by decide +kernel, by decide +kernel⟩ rfl
theorem dL_law_2046 : decode code 2046 = .ok (.lcmp, 1) := decode_sh lwA31 (q := 62) (by decide +kernel) 148 ⟨by decide +kernel, by decide +kernel⟩ rfl
theorem dL_law_2047 : decode code 2047 = .ok (.ifCond .eq 5, 3) := decode_sh lwA31 (q := 63) (by decide +kernel) 153 ⟨by decide +kernel, by decide +kernel⟩ rfl
theorem dL_law_2050 : decode code 2050 = .ok (.iconst 0, 1) := decode_sh lwA32 (q := 2) (by decide +kernel) 3 ⟨by decide +kernel, by decide +kernel⟩ rfl
theorem dL_law_2051 : decode code 2051 = .ok (.ireturn, 1) := decode_sh lwA32 (q := 3) (by decide +kernel) 172 ⟨by decide +kernel, by decide +kernel⟩ rfl
theorem dL_law_2052 : decode code 2052 = .ok (.goto 1743, 3) := decode_sh lwA32 (q := 4) (by decide +kernel) 167 ⟨by decide +kernel, by decide +kernel⟩ rfl
theorem dL_law_2055 : decode code 2055 = .ok (.aload_n 1, 1) := decode_sh lwA32 (q := 7) (by decide +kernel) 43 ⟨by decide +kernel, by decide +kernel⟩ rfl
theorem dL_law_2056 : decode code 2056 = .ok (.aload_n 0, 1) := decode_sh lwA32 (q := 8) (by decide +kernel) 42 ⟨by decide +kernel, by decide +kernel⟩ rfl
theorem dL_law_2057 : decode code 2057 = .ok (.iload 5, 2) := decode_sh lwA32 (q := 9) (by decide +kernel) 21 ⟨by decide +kernel, by decide +kernel⟩ rfl
theorem dL_law_2059 : decode code 2059 = .ok (.iconst 1, 1) := decode_sh lwA32 (q := 11) (by decide +kernel) 4 ⟨by decide +kernel, by decide +kernel⟩ rfl
theorem dL_law_2060 : decode code 2060 = .ok (.iadd, 1) := decode_sh lwA32 (q := 12) (by decide +kernel) 96 ⟨by decide +kernel, by decide +kernel⟩ rfl
theorem dL_law_2061 : decode code 2061 = .ok (.iaload, 1) := decode_sh lwA32 (q := 13) (by decide +kernel) 46 ⟨by decide +kernel, by decide +kernel⟩ rfl
theorem dL_law_2062 : decode code 2062 = .ok (.aload_n 3, 1) := decode_sh lwA32 (q := 14) (by decide +kernel) 45 ⟨by decide +kernel, by decide +kernel⟩ rfl
theorem dL_law_2063 : decode code 2063 = .ok (.invokestatic 318, 3) := decode_sh lwA32 (q := 15) (by decide +kernel) 184 ⟨by decide +kernel, by decide +kernel⟩ rfl
theorem dL_law_2066 : decode code 2066 = .ok (.istore 6, 2) := decode_sh lwA32 (q := 18) (by decide +kernel) 54 ⟨by decide +kernel, by decide +kernel⟩ rfl
theorem dL_law_2068 : decode code 2068 = .ok (.aload_n 2, 1) := decode_sh lwA32 (q := 20) (by decide +kernel) 44 ⟨by decide +kernel, by decide +kernel⟩ rfl
theorem dL_law_2069 : decode code 2069 = .ok (.aload_n 0, 1) := decode_sh lwA32 (q := 21) (by decide +kernel) 42 ⟨by decide +kernel, by decide +kernel⟩ rfl
theorem dL_law_2070 : decode code 2070 = .ok (.iload 5, 2) := decode_sh lwA32 (q := 22) (by decide +kernel) 21 ⟨by decide +kernel, by decide +kernel⟩ rfl
theorem dL_law_2072 : decode code 2072 = .ok (.iconst 1, 1) := decode_sh lwA32 (q := 24) (by decide +kernel) 4 ⟨by decide +kernel, by decide +kernel⟩ rfl
theorem dL_law_2073 : decode code 2073 = .ok (.iadd, 1) := decode_sh lwA32 (q := 25) (by decide +kernel) 96 ⟨by decide +kernel, by decide +kernel⟩ rfl
theorem dL_law_2074 : decode code 2074 = .ok (.iaload, 1) := decode_sh lwA32 (q := 26) (by decide +kernel) 46 ⟨by decide +kernel, by decide +kernel⟩ rfl
theorem dL_law_2075 : decode code 2075 = .ok (.invokevirtual 320, 3) := decode_sh lwA32 (q := 27) (by decide +kernel) 182 ⟨by decide +kernel, by decide +kernel⟩ rfl
theorem dL_law_2078 : decode code 2078 = .ok (.istore 7, 2) := decode_sh lwA32 (q := 30) (by decide +kernel) 54 ⟨by decide +kernel, by decide +kernel⟩ rfl
theorem dL_law_2080 : decode code 2080 = .ok (.aload_n 2, 1) := decode_sh lwA32 (q := 32) (by decide +kernel) 44 ⟨by decide +kernel, by decide +kernel⟩ rfl
theorem dL_law_2081 : decode code 2081 = .ok (.invokevirtual 213, 3) := decode_sh lwA32 (q := 33) (by decide +kernel) 182 ⟨by decide +kernel, by decide +kernel⟩ rfl
theorem dL_law_2084 : decode code 2084 = .ok (.iload 6, 2) := decode_sh lwA32 (q := 36) (by decide +kernel) 21 ⟨by decide +kernel, by decide +kernel⟩ rfl
theorem dL_law_2086 : decode code 2086 = .ok (.if_icmp .eq 5, 3) := decode_sh lwA32 (q := 38) (by decide +kernel) 159 ⟨by decide +kernel, by decide +kernel⟩ rfl
theorem dL_law_2089 : decode code 2089 = .ok (.iconst 0, 1) := decode_sh lwA32 (q := 41) (by decide +kernel) 3 ⟨by decide +kernel, by decide +kernel⟩ rfl
theorem dL_law_2090 : decode code 2090 = .ok (.ireturn, 1) := decode_sh lwA32 (q := 42) (by decide +kernel) 172 ⟨by decide +kernel, by decide +kernel⟩ rfl
theorem dL_law_2091 : decode code 2091 = .ok (.iload 6, 2) := decode_sh lwA32 (q := 43) (by decide +kernel) 21 ⟨by decide +kernel, by decide +kernel⟩ rfl
theorem dL_law_2093 : decode code 2093 = .ok (.ifCond .ne 22, 3) := decode_sh lwA32 (q := 45) (by decide +kernel) 154 ⟨by decide +kernel, by decide +kernel⟩ rfl
theorem dL_law_2096 : decode code 2096 = .ok (.aload_n 3, 1) := decode_sh lwA32 (q := 48) (by decide +kernel) 45 ⟨by decide +kernel, by decide +kernel⟩ rfl
theorem dL_law_2097 : decode code 2097 = .ok (.iconst 0, 1) := decode_sh lwA32 (q := 49) (by decide +kernel) 3 ⟨by decide +kernel, by decide +kernel⟩ rfl
theorem dL_law_2098 : decode code 2098 = .ok (.laload, 1) := decode_sh lwA32 (q := 50) (by decide +kernel) 47 ⟨by decide +kernel, by decide +kernel⟩ rfl
theorem dL_law_2099 : decode code 2099 = .ok (.iload 7, 2) := decode_sh lwA32 (q := 51) (by decide +kernel) 21 ⟨by decide +kernel, by decide +kernel⟩ rfl
theorem dL_law_2101 : decode code 2101 = .ok (.ifCond .eq 7, 3) := decode_sh lwA32 (q := 53) (by decide +kernel) 153 ⟨by decide +kernel, by decide +kernel⟩ rfl
theorem dL_law_2104 : decode code 2104 = .ok (.lconst 1, 1) := decode_sh lwA32 (q := 56) (by decide +kernel) 10 ⟨by decide +kernel, by decide +kernel⟩ rfl
theorem dL_law_2105 : decode code 2105 = .ok (.goto 4, 3) := decode_sh lwA32 (q := 57) (by decide +kernel) 167 ⟨by decide +kernel, by decide +kernel⟩ rfl
theorem dL_law_2108 : decode code 2108 = .ok (.lconst 0, 1) := decode_sh lwA32 (q := 60) (by decide +kernel) 9 ⟨by decide +kernel, by decide +kernel⟩ rfl
theorem dL_law_2109 : decode code 2109 = .ok (.lcmp, 1) := decode_sh lwA32 (q := 61) (by decide +kernel) 148 ⟨by decide +kernel, by decide +kernel⟩ rfl
theorem dL_law_2110 : decode code 2110 = .ok (.ifCond .eq 5, 3) := decode_sh lwA32 (q := 62) (by decide +kernel) 153 ⟨by decide +kernel, by decide +kernel⟩ rfl
theorem dL_law_2113 : decode code 2113 = .ok (.iconst 0, 1) := decode_sh lwA33 (q := 1) (by decide +kernel) 3 ⟨by decide +kernel, by decide +kernel⟩ rfl
theorem dL_law_2114 : decode code 2114 = .ok (.ireturn, 1) := decode_sh lwA33 (q := 2) (by decide +kernel) 172 ⟨by decide +kernel, by decide +kernel⟩ rfl
theorem dL_law_2115 : decode code 2115 = .ok (.goto 1680, 3) := decode_sh lwA33 (q := 3) (by decide +kernel) 167 ⟨by decide +kernel, by decide +kernel⟩ rfl
theorem dL_law_2118 : decode code 2118 = .ok (.aload_n 1, 1) := decode_sh lwA33 (q := 6) (by decide +kernel) 43 ⟨by decide +kernel, by decide +kernel⟩ rfl
theorem dL_law_2119 : decode code 2119 = .ok (.aload_n 0, 1) := decode_sh lwA33 (q := 7) (by decide +kernel) 42 ⟨by decide +kernel, by decide +kernel⟩ rfl
theorem dL_law_2120 : decode code 2120 = .ok (.iload 5, 2) := decode_sh lwA33 (q := 8) (by decide +kernel) 21 ⟨by decide +kernel, by decide +kernel⟩ rfl
theorem dL_law_2122 : decode code 2122 = .ok (.iconst 1, 1) := decode_sh lwA33 (q := 10) (by decide +kernel) 4 ⟨by decide +kernel, by decide +kernel⟩ rfl
theorem dL_law_2123 : decode code 2123 = .ok (.iadd, 1) := decode_sh lwA33 (q := 11) (by decide +kernel) 96 ⟨by decide +kernel, by decide +kernel⟩ rfl
theorem dL_law_2124 : decode code 2124 = .ok (.iaload, 1) := decode_sh lwA33 (q := 12) (by decide +kernel) 46 ⟨by decide +kernel, by decide +kernel⟩ rfl
theorem dL_law_2125 : decode code 2125 = .ok (.aload_n 3, 1) := decode_sh lwA33 (q := 13) (by decide +kernel) 45 ⟨by decide +kernel, by decide +kernel⟩ rfl
theorem dL_law_2126 : decode code 2126 = .ok (.invokestatic 321, 3) := decode_sh lwA33 (q := 14) (by decide +kernel) 184 ⟨by decide +kernel, by decide +kernel⟩ rfl
theorem dL_law_2129 : decode code 2129 = .ok (.istore 6, 2) := decode_sh lwA33 (q := 17) (by decide +kernel) 54 ⟨by decide +kernel, by decide +kernel⟩ rfl
theorem dL_law_2131 : decode code 2131 = .ok (.aload_n 2, 1) := decode_sh lwA33 (q := 19) (by decide +kernel) 44 ⟨by decide +kernel, by decide +kernel⟩ rfl
theorem dL_law_2132 : decode code 2132 = .ok (.aload_n 0, 1) := decode_sh lwA33 (q := 20) (by decide +kernel) 42 ⟨by decide +kernel, by decide +kernel⟩ rfl
theorem dL_law_2133 : decode code 2133 = .ok (.iload 5, 2) := decode_sh lwA33 (q := 21) (by decide +kernel) 21 ⟨by decide +kernel, by decide +kernel⟩ rfl
theorem dL_law_2135 : decode code 2135 = .ok (.iconst 1, 1) := decode_sh lwA33 (q := 23) (by decide +kernel) 4 ⟨by decide +kernel, by decide +kernel⟩ rfl
theorem dL_law_2136 : decode code 2136 = .ok (.iadd, 1) := decode_sh lwA33 (q := 24) (by decide +kernel) 96 ⟨by decide +kernel, by decide +kernel⟩ rfl
theorem dL_law_2137 : decode code 2137 = .ok (.iaload, 1) := decode_sh lwA33 (q := 25) (by decide +kernel) 46 ⟨by decide +kernel, by decide +kernel⟩ rfl
theorem dL_law_2138 : decode code 2138 = .ok (.invokevirtual 323, 3) := decode_sh lwA33 (q := 26) (by decide +kernel) 182 ⟨by decide +kernel, by decide +kernel⟩ rfl
theorem dL_law_2141 : decode code 2141 = .ok (.istore 7, 2) := decode_sh lwA33 (q := 29) (by decide +kernel) 54 ⟨by decide +kernel, by decide +kernel⟩ rfl
theorem dL_law_2143 : decode code 2143 = .ok (.aload_n 2, 1) := decode_sh lwA33 (q := 31) (by decide +kernel) 44 ⟨by decide +kernel, by decide +kernel⟩ rfl
theorem dL_law_2144 : decode code 2144 = .ok (.invokevirtual 213, 3) := decode_sh lwA33 (q := 32) (by decide +kernel) 182 ⟨by decide +kernel, by decide +kernel⟩ rfl
theorem dL_law_2147 : decode code 2147 = .ok (.iload 6, 2) := decode_sh lwA33 (q := 35) (by decide +kernel) 21 ⟨by decide +kernel, by decide +kernel⟩ rfl
theorem dL_law_2149 : decode code 2149 = .ok (.if_icmp .eq 5, 3) := decode_sh lwA33 (q := 37) (by decide +kernel) 159 ⟨by decide +kernel, by decide +kernel⟩ rfl
theorem dL_law_2152 : decode code 2152 = .ok (.iconst 0, 1) := decode_sh lwA33 (q := 40) (by decide +kernel) 3 ⟨by decide +kernel, by decide +kernel⟩ rfl
theorem dL_law_2153 : decode code 2153 = .ok (.ireturn, 1) := decode_sh lwA33 (q := 41) (by decide +kernel) 172 ⟨by decide +kernel, by decide +kernel⟩ rfl
theorem dL_law_2154 : decode code 2154 = .ok (.iload 6, 2) := decode_sh lwA33 (q := 42) (by decide +kernel) 21 ⟨by decide +kernel, by decide +kernel⟩ rfl
theorem dL_law_2156 : decode code 2156 = .ok (.ifCond .ne 15, 3) := decode_sh lwA33 (q := 44) (by decide +kernel) 154 ⟨by decide +kernel, by decide +kernel⟩ rfl
theorem dL_law_2159 : decode code 2159 = .ok (.aload_n 3, 1) := decode_sh lwA33 (q := 47) (by decide +kernel) 45 ⟨by decide +kernel, by decide +kernel⟩ rfl
theorem dL_law_2160 : decode code 2160 = .ok (.iconst 0, 1) := decode_sh lwA33 (q := 48) (by decide +kernel) 3 ⟨by decide +kernel, by decide +kernel⟩ rfl
theorem dL_law_2161 : decode code 2161 = .ok (.laload, 1) := decode_sh lwA33 (q := 49) (by decide +kernel) 47 ⟨by decide +kernel, by decide +kernel⟩ rfl
theorem dL_law_2162 : decode code 2162 = .ok (.iload 7, 2) := decode_sh lwA33 (q := 50) (by decide +kernel) 21 ⟨by decide +kernel, by decide +kernel⟩ rfl
theorem dL_law_2164 : decode code 2164 = .ok (.i2l, 1) := decode_sh lwA33 (q := 52) (by decide +kernel) 133 ⟨by decide +kernel, by decide +kernel⟩ rfl
theorem dL_law_2165 : decode code 2165 = .ok (.lcmp, 1) := decode_sh lwA33 (q := 53) (by decide +kernel) 148 ⟨by decide +kernel, by decide +kernel⟩ rfl
theorem dL_law_2166 : decode code 2166 = .ok (.ifCond .eq 5, 3) := decode_sh lwA33 (q := 54) (by decide +kernel) 153 ⟨by decide +kernel, by decide +kernel⟩ rfl
theorem dL_law_2169 : decode code 2169 = .ok (.iconst 0, 1) := decode_sh lwA33 (q := 57) (by decide +kernel) 3 ⟨by decide +kernel, by decide +kernel⟩ rfl
theorem dL_law_2170 : decode code 2170 = .ok (.ireturn, 1) := decode_sh lwA33 (q := 58) (by decide +kernel) 172 ⟨by decide +kernel, by decide +kernel⟩ rfl
theorem dL_law_2171 : decode code 2171 = .ok (.goto 1624, 3) := decode_sh lwA33 (q := 59) (by decide +kernel) 167 ⟨by decide +kernel, by decide +kernel⟩ rfl
theorem dL_law_2174 : decode code 2174 = .ok (.aload_n 1, 1) := decode_sh lwA33 (q := 62) (by decide +kernel) 43 ⟨by decide +kernel, by decide +kernel⟩ rfl
theorem dL_law_2175 : decode code 2175 = .ok (.aload_n 0, 1) := decode_sh lwA33 (q := 63) (by decide +kernel) 42 ⟨by decide +kernel, by decide +kernel⟩ rfl
theorem dL_law_2176 : decode code 2176 = .ok (.iload 5, 2) := decode_sh lwA34 (q := 0) (by decide +kernel) 21 ⟨by decide +kernel, by decide +kernel⟩ rfl
theorem dL_law_2178 : decode code 2178 = .ok (.iconst 1, 1) := decode_sh lwA34 (q := 2) (by decide +kernel) 4 ⟨by decide +kernel, by decide +kernel⟩ rfl
theorem dL_law_2179 : decode code 2179 = .ok (.iadd, 1) := decode_sh lwA34 (q := 3) (by decide +kernel) 96 ⟨by decide +kernel, by decide +kernel⟩ rfl
theorem dL_law_2180 : decode code 2180 = .ok (.iaload, 1) := decode_sh lwA34 (q := 4) (by decide +kernel) 46 ⟨by decide +kernel, by decide +kernel⟩ rfl
theorem dL_law_2181 : decode code 2181 = .ok (.aload_n 3, 1) := decode_sh lwA34 (q := 5) (by decide +kernel) 45 ⟨by decide +kernel, by decide +kernel⟩ rfl
theorem dL_law_2182 : decode code 2182 = .ok (.invokestatic 324, 3) := decode_sh lwA34 (q := 6) (by decide +kernel) 184 ⟨by decide +kernel, by decide +kernel⟩ rfl
theorem dL_law_2185 : decode code 2185 = .ok (.istore 6, 2) := decode_sh lwA34 (q := 9) (by decide +kernel) 54 ⟨by decide +kernel, by decide +kernel⟩ rfl
theorem dL_law_2187 : decode code 2187 = .ok (.aload_n 2, 1) := decode_sh lwA34 (q := 11) (by decide +kernel) 44 ⟨by decide +kernel, by decide +kernel⟩ rfl
theorem dL_law_2188 : decode code 2188 = .ok (.aload_n 0, 1) := decode_sh lwA34 (q := 12) (by decide +kernel) 42 ⟨by decide +kernel, by decide +kernel⟩ rfl
theorem dL_law_2189 : decode code 2189 = .ok (.iload 5, 2) := decode_sh lwA34 (q := 13) (by decide +kernel) 21 ⟨by decide +kernel, by decide +kernel⟩ rfl
theorem dL_law_2191 : decode code 2191 = .ok (.iconst 1, 1) := decode_sh lwA34 (q := 15) (by decide +kernel) 4 ⟨by decide +kernel, by decide +kernel⟩ rfl
theorem dL_law_2192 : decode code 2192 = .ok (.iadd, 1) := decode_sh lwA34 (q := 16) (by decide +kernel) 96 ⟨by decide +kernel, by decide +kernel⟩ rfl
theorem dL_law_2193 : decode code 2193 = .ok (.iaload, 1) := decode_sh lwA34 (q := 17) (by decide +kernel) 46 ⟨by decide +kernel, by decide +kernel⟩ rfl
theorem dL_law_2194 : decode code 2194 = .ok (.invokevirtual 326, 3) := decode_sh lwA34 (q := 18) (by decide +kernel) 182 ⟨by decide +kernel, by decide +kernel⟩ rfl
theorem dL_law_2197 : decode code 2197 = .ok (.istore 7, 2) := decode_sh lwA34 (q := 21) (by decide +kernel) 54 ⟨by decide +kernel, by decide +kernel⟩ rfl
theorem dL_law_2199 : decode code 2199 = .ok (.aload_n 2, 1) := decode_sh lwA34 (q := 23) (by decide +kernel) 44 ⟨by decide +kernel, by decide +kernel⟩ rfl
theorem dL_law_2200 : decode code 2200 = .ok (.invokevirtual 213, 3) := decode_sh lwA34 (q := 24) (by decide +kernel) 182 ⟨by decide +kernel, by decide +kernel⟩ rfl
theorem dL_law_2203 : decode code 2203 = .ok (.iload 6, 2) := decode_sh lwA34 (q := 27) (by decide +kernel) 21 ⟨by decide +kernel, by decide +kernel⟩ rfl
theorem dL_law_2205 : decode code 2205 = .ok (.if_icmp .eq 5, 3) := decode_sh lwA34 (q := 29) (by decide +kernel) 159 ⟨by decide +kernel, by decide +kernel⟩ rfl
theorem dL_law_2208 : decode code 2208 = .ok (.iconst 0, 1) := decode_sh lwA34 (q := 32) (by decide +kernel) 3 ⟨by decide +kernel, by decide +kernel⟩ rfl
theorem dL_law_2209 : decode code 2209 = .ok (.ireturn, 1) := decode_sh lwA34 (q := 33) (by decide +kernel) 172 ⟨by decide +kernel, by decide +kernel⟩ rfl
theorem dL_law_2210 : decode code 2210 = .ok (.iload 6, 2) := decode_sh lwA34 (q := 34) (by decide +kernel) 21 ⟨by decide +kernel, by decide +kernel⟩ rfl
theorem dL_law_2212 : decode code 2212 = .ok (.ifCond .ne 15, 3) := decode_sh lwA34 (q := 36) (by decide +kernel) 154 ⟨by decide +kernel, by decide +kernel⟩ rfl
theorem dL_law_2215 : decode code 2215 = .ok (.aload_n 3, 1) := decode_sh lwA34 (q := 39) (by decide +kernel) 45 ⟨by decide +kernel, by decide +kernel⟩ rfl
theorem dL_law_2216 : decode code 2216 = .ok (.iconst 0, 1) := decode_sh lwA34 (q := 40) (by decide +kernel) 3 ⟨by decide +kernel, by decide +kernel⟩ rfl
theorem dL_law_2217 : decode code 2217 = .ok (.laload, 1) := decode_sh lwA34 (q := 41) (by decide +kernel) 47 ⟨by decide +kernel, by decide +kernel⟩ rfl
theorem dL_law_2218 : decode code 2218 = .ok (.iload 7, 2) := decode_sh lwA34 (q := 42) (by decide +kernel) 21 ⟨by decide +kernel, by decide +kernel⟩ rfl
theorem dL_law_2220 : decode code 2220 = .ok (.i2l, 1) := decode_sh lwA34 (q := 44) (by decide +kernel) 133 ⟨by decide +kernel, by decide +kernel⟩ rfl
theorem dL_law_2221 : decode code 2221 = .ok (.lcmp, 1) := decode_sh lwA34 (q := 45) (by decide +kernel) 148 ⟨by decide +kernel, by decide +kernel⟩ rfl
theorem dL_law_2222 : decode code 2222 = .ok (.ifCond .eq 5, 3) := decode_sh lwA34 (q := 46) (by decide +kernel) 153 ⟨by decide +kernel, by decide +kernel⟩ rfl
theorem dL_law_2225 : decode code 2225 = .ok (.iconst 0, 1) := decode_sh lwA34 (q := 49) (by decide +kernel) 3 ⟨by decide +kernel, by decide +kernel⟩ rfl
theorem dL_law_2226 : decode code 2226 = .ok (.ireturn, 1) := decode_sh lwA34 (q := 50) (by decide +kernel) 172 ⟨by decide +kernel, by decide +kernel⟩ rfl
theorem dL_law_2227 : decode code 2227 = .ok (.goto 1568, 3) := decode_sh lwA34 (q := 51) (by decide +kernel) 167 ⟨by decide +kernel, by decide +kernel⟩ rfl
theorem dL_law_2230 : decode code 2230 = .ok (.aload_n 1, 1) := decode_sh lwA34 (q := 54) (by decide +kernel) 43 ⟨by decide +kernel, by decide +kernel⟩ rfl
theorem dL_law_2231 : decode code 2231 = .ok (.aload_n 0, 1) := decode_sh lwA34 (q := 55) (by decide +kernel) 42 ⟨by decide +kernel, by decide +kernel⟩ rfl
theorem dL_law_2232 : decode code 2232 = .ok (.iload 5, 2) := decode_sh lwA34 (q := 56) (by decide +kernel) 21 ⟨by decide +kernel, by decide +kernel⟩ rfl
theorem dL_law_2234 : decode code 2234 = .ok (.iconst 1, 1) := decode_sh lwA34 (q := 58) (by decide +kernel) 4 ⟨by decide +kernel, by decide +kernel⟩ rfl
theorem dL_law_2235 : decode code 2235 = .ok (.iadd, 1) := decode_sh lwA34 (q := 59) (by decide +kernel) 96 ⟨by decide +kernel, by decide +kernel⟩ rfl
theorem dL_law_2236 : decode code 2236 = .ok (.iaload, 1) := decode_sh lwA34 (q := 60) (by decide +kernel) 46 ⟨by decide +kernel, by decide +kernel⟩ rfl
theorem dL_law_2237 : decode code 2237 = .ok (.aload_n 3, 1) := decode_sh lwA34 (q := 61) (by decide +kernel) 45 ⟨by decide +kernel, by decide +kernel⟩ rfl
theorem dL_law_2238 : decode code 2238 = .ok (.invokestatic 327, 3) := decode_sh lwA34 (q := 62) (by decide +kernel) 184 ⟨by decide +kernel, by decide +kernel⟩ rfl
theorem dL_law_2241 : decode code 2241 = .ok (.istore 6, 2) := decode_sh lwA35 (q := 1) (by decide +kernel) 54 ⟨by decide +kernel, by decide +kernel⟩ rfl
theorem dL_law_2243 : decode code 2243 = .ok (.aload_n 2, 1) := decode_sh lwA35 (q := 3) (by decide +kernel) 44 ⟨by decide +kernel, by decide +kernel⟩ rfl
theorem dL_law_2244 : decode code 2244 = .ok (.aload_n 0, 1) := decode_sh lwA35 (q := 4) (by decide +kernel) 42 ⟨by decide +kernel, by decide +kernel⟩ rfl
theorem dL_law_2245 : decode code 2245 = .ok (.iload 5, 2) := decode_sh lwA35 (q := 5) (by decide +kernel) 21 ⟨by decide +kernel, by decide +kernel⟩ rfl
theorem dL_law_2247 : decode code 2247 = .ok (.iconst 1, 1) := decode_sh lwA35 (q := 7) (by decide +kernel) 4 ⟨by decide +kernel, by decide +kernel⟩ rfl
theorem dL_law_2248 : decode code 2248 = .ok (.iadd, 1) := decode_sh lwA35 (q := 8) (by decide +kernel) 96 ⟨by decide +kernel, by decide +kernel⟩ rfl
theorem dL_law_2249 : decode code 2249 = .ok (.iaload, 1) := decode_sh lwA35 (q := 9) (by decide +kernel) 46 ⟨by decide +kernel, by decide +kernel⟩ rfl
theorem dL_law_2250 : decode code 2250 = .ok (.invokevirtual 329, 3) := decode_sh lwA35 (q := 10) (by decide +kernel) 182 ⟨by decide +kernel, by decide +kernel⟩ rfl
theorem dL_law_2253 : decode code 2253 = .ok (.istore 7, 2) := decode_sh lwA35 (q := 13) (by decide +kernel) 54 ⟨by decide +kernel, by decide +kernel⟩ rfl
theorem dL_law_2255 : decode code 2255 = .ok (.aload_n 2, 1) := decode_sh lwA35 (q := 15) (by decide +kernel) 44 ⟨by decide +kernel, by decide +kernel⟩ rfl
theorem dL_law_2256 : decode code 2256 = .ok (.invokevirtual 213, 3) := decode_sh lwA35 (q := 16) (by decide +kernel) 182 ⟨by decide +kernel, by decide +kernel⟩ rfl
theorem dL_law_2259 : decode code 2259 = .ok (.iload 6, 2) := decode_sh lwA35 (q := 19) (by decide +kernel) 21 ⟨by decide +kernel, by decide +kernel⟩ rfl
theorem dL_law_2261 : decode code 2261 = .ok (.if_icmp .eq 5, 3) := decode_sh lwA35 (q := 21) (by decide +kernel) 159 ⟨by decide +kernel, by decide +kernel⟩ rfl
theorem dL_law_2264 : decode code 2264 = .ok (.iconst 0, 1) := decode_sh lwA35 (q := 24) (by decide +kernel) 3 ⟨by decide +kernel, by decide +kernel⟩ rfl
theorem dL_law_2265 : decode code 2265 = .ok (.ireturn, 1) := decode_sh lwA35 (q := 25) (by decide +kernel) 172 ⟨by decide +kernel, by decide +kernel⟩ rfl
theorem dL_law_2266 : decode code 2266 = .ok (.iload 6, 2) := decode_sh lwA35 (q := 26) (by decide +kernel) 21 ⟨by decide +kernel, by decide +kernel⟩ rfl
theorem dL_law_2268 : decode code 2268 = .ok (.ifCond .ne 15, 3) := decode_sh lwA35 (q := 28) (by decide +kernel) 154 ⟨by decide +kernel, by decide +kernel⟩ rfl
theorem dL_law_2271 : decode code 2271 = .ok (.aload_n 3, 1) := decode_sh lwA35 (q := 31) (by decide +kernel) 45 ⟨by decide +kernel, by decide +kernel⟩ rfl
theorem dL_law_2272 : decode code 2272 = .ok (.iconst 0, 1) := decode_sh lwA35 (q := 32) (by decide +kernel) 3 ⟨by decide +kernel, by decide +kernel⟩ rfl
theorem dL_law_2273 : decode code 2273 = .ok (.laload, 1) := decode_sh lwA35 (q := 33) (by decide +kernel) 47 ⟨by decide +kernel, by decide +kernel⟩ rfl
theorem dL_law_2274 : decode code 2274 = .ok (.iload 7, 2) := decode_sh lwA35 (q := 34) (by decide +kernel) 21 ⟨by decide +kernel, by decide +kernel⟩ rfl
theorem dL_law_2276 : decode code 2276 = .ok (.i2l, 1) := decode_sh lwA35 (q := 36) (by decide +kernel) 133 ⟨by decide +kernel, by decide +kernel⟩ rfl
theorem dL_law_2277 : decode code 2277 = .ok (.lcmp, 1) := decode_sh lwA35 (q := 37) (by decide +kernel) 148 ⟨by decide +kernel, by decide +kernel⟩ rfl
theorem dL_law_2278 : decode code 2278 = .ok (.ifCond .eq 5, 3) := decode_sh lwA35 (q := 38) (by decide +kernel) 153 ⟨by decide +kernel, by decide +kernel⟩ rfl
theorem dL_law_2281 : decode code 2281 = .ok (.iconst 0, 1) := decode_sh lwA35 (q := 41) (by decide +kernel) 3 ⟨by decide +kernel, by decide +kernel⟩ rfl
theorem dL_law_2282 : decode code 2282 = .ok (.ireturn, 1) := decode_sh lwA35 (q := 42) (by decide +kernel) 172 ⟨by decide +kernel, by decide +kernel⟩ rfl
theorem dL_law_2283 : decode code 2283 = .ok (.goto 1512, 3) := decode_sh lwA35 (q := 43) (by decide +kernel) 167 ⟨by decide +kernel, by decide +kernel⟩ rfl
theorem dL_law_2286 : decode code 2286 = .ok (.aload_n 1, 1) := decode_sh lwA35 (q := 46) (by decide +kernel) 43 ⟨by decide +kernel, by decide +kernel⟩ rfl
theorem dL_law_2287 : decode code 2287 = .ok (.aload_n 0, 1) := decode_sh lwA35 (q := 47) (by decide +kernel) 42 ⟨by decide +kernel, by decide +kernel⟩ rfl
theorem dL_law_2288 : decode code 2288 = .ok (.iload 5, 2) := decode_sh lwA35 (q := 48) (by decide +kernel) 21 ⟨by decide +kernel, by decide +kernel⟩ rfl
theorem dL_law_2290 : decode code 2290 = .ok (.iconst 1, 1) := decode_sh lwA35 (q := 50) (by decide +kernel) 4 ⟨by decide +kernel, by decide +kernel⟩ rfl
theorem dL_law_2291 : decode code 2291 = .ok (.iadd, 1) := decode_sh lwA35 (q := 51) (by decide +kernel) 96 ⟨by decide +kernel, by decide +kernel⟩ rfl
theorem dL_law_2292 : decode code 2292 = .ok (.iaload, 1) := decode_sh lwA35 (q := 52) (by decide +kernel) 46 ⟨by decide +kernel, by decide +kernel⟩ rfl
theorem dL_law_2293 : decode code 2293 = .ok (.aload_n 0, 1) := decode_sh lwA35 (q := 53) (by decide +kernel) 42 ⟨by decide +kernel, by decide +kernel⟩ rfl
theorem dL_law_2294 : decode code 2294 = .ok (.iload 5, 2) := decode_sh lwA35 (q := 54) (by decide +kernel) 21 ⟨by decide +kernel, by decide +kernel⟩ rfl
theorem dL_law_2296 : decode code 2296 = .ok (.iconst 2, 1) := decode_sh lwA35 (q := 56) (by decide +kernel) 5 ⟨by decide +kernel, by decide +kernel⟩ rfl
theorem dL_law_2297 : decode code 2297 = .ok (.iadd, 1) := decode_sh lwA35 (q := 57) (by decide +kernel) 96 ⟨by decide +kernel, by decide +kernel⟩ rfl
theorem dL_law_2298 : decode code 2298 = .ok (.iaload, 1) := decode_sh lwA35 (q := 58) (by decide +kernel) 46 ⟨by decide +kernel, by decide +kernel⟩ rfl
theorem dL_law_2299 : decode code 2299 = .ok (.aload_n 3, 1) := decode_sh lwA35 (q := 59) (by decide +kernel) 45 ⟨by decide +kernel, by decide +kernel⟩ rfl
theorem dL_law_2300 : decode code 2300 = .ok (.invokestatic 330, 3) := decode_sh lwA35 (q := 60) (by decide +kernel) 184 ⟨by decide +kernel, by decide +kernel⟩ rfl
theorem dL_law_2303 : decode code 2303 = .ok (.istore 6, 2) := decode_sh lwA35 (q := 63) (by decide +kernel) 54 ⟨by decide +kernel, by decide +kernel⟩ rfl
theorem dL_law_2305 : decode code 2305 = .ok (.aload_n 2, 1) := decode_sh lwA36 (q := 1) (by decide +kernel) 44 ⟨by decide +kernel, by decide +kernel⟩ rfl
theorem dL_law_2306 : decode code 2306 = .ok (.aload_n 0, 1) := decode_sh lwA36 (q := 2) (by decide +kernel) 42 ⟨by decide +kernel, by decide +kernel⟩ rfl
theorem dL_law_2307 : decode code 2307 = .ok (.iload 5, 2) := decode_sh lwA36 (q := 3) (by decide +kernel) 21 ⟨by decide +kernel, by decide +kernel⟩ rfl
theorem dL_law_2309 : decode code 2309 = .ok (.iconst 1, 1) := decode_sh lwA36 (q := 5) (by decide +kernel) 4 ⟨by decide +kernel, by decide +kernel⟩ rfl
theorem dL_law_2310 : decode code 2310 = .ok (.iadd, 1) := decode_sh lwA36 (q := 6) (by decide +kernel) 96 ⟨by decide +kernel, by decide +kernel⟩ rfl
theorem dL_law_2311 : decode code 2311 = .ok (.iaload, 1) := decode_sh lwA36 (q := 7) (by decide +kernel) 46 ⟨by decide +kernel, by decide +kernel⟩ rfl
theorem dL_law_2312 : decode code 2312 = .ok (.aload_n 0, 1) := decode_sh lwA36 (q := 8) (by decide +kernel) 42 ⟨by decide +kernel, by decide +kernel⟩ rfl
theorem dL_law_2313 : decode code 2313 = .ok (.iload 5, 2) := decode_sh lwA36 (q := 9) (by decide +kernel) 21 ⟨by decide +kernel, by decide +kernel⟩ rfl
theorem dL_law_2315 : decode code 2315 = .ok (.iconst 2, 1) := decode_sh lwA36 (q := 11) (by decide +kernel) 5 ⟨by decide +kernel, by decide +kernel⟩ rfl
theorem dL_law_2316 : decode code 2316 = .ok (.iadd, 1) := decode_sh lwA36 (q := 12) (by decide +kernel) 96 ⟨by decide +kernel, by decide +kernel⟩ rfl
theorem dL_law_2317 : decode code 2317 = .ok (.iaload, 1) := decode_sh lwA36 (q := 13) (by decide +kernel) 46 ⟨by decide +kernel, by decide +kernel⟩ rfl
theorem dL_law_2318 : decode code 2318 = .ok (.invokevirtual 332, 3) := decode_sh lwA36 (q := 14) (by decide +kernel) 182 ⟨by decide +kernel, by decide +kernel⟩ rfl
theorem dL_law_2321 : decode code 2321 = .ok (.istore 7, 2) := decode_sh lwA36 (q := 17) (by decide +kernel) 54 ⟨by decide +kernel, by decide +kernel⟩ rfl
theorem dL_law_2323 : decode code 2323 = .ok (.aload_n 2, 1) := decode_sh lwA36 (q := 19) (by decide +kernel) 44 ⟨by decide +kernel, by decide +kernel⟩ rfl
theorem dL_law_2324 : decode code 2324 = .ok (.invokevirtual 213, 3) := decode_sh lwA36 (q := 20) (by decide +kernel) 182 ⟨by decide +kernel, by decide +kernel⟩ rfl
theorem dL_law_2327 : decode code 2327 = .ok (.iload 6, 2) := decode_sh lwA36 (q := 23) (by decide +kernel) 21 ⟨by decide +kernel, by decide +kernel⟩ rfl
theorem dL_law_2329 : decode code 2329 = .ok (.if_icmp .eq 5, 3) := decode_sh lwA36 (q := 25) (by decide +kernel) 159 ⟨by decide +kernel, by decide +kernel⟩ rfl
theorem dL_law_2332 : decode code 2332 = .ok (.iconst 0, 1) := decode_sh lwA36 (q := 28) (by decide +kernel) 3 ⟨by decide +kernel, by decide +kernel⟩ rfl
theorem dL_law_2333 : decode code 2333 = .ok (.ireturn, 1) := decode_sh lwA36 (q := 29) (by decide +kernel) 172 ⟨by decide +kernel, by decide +kernel⟩ rfl
theorem dL_law_2334 : decode code 2334 = .ok (.iload 6, 2) := decode_sh lwA36 (q := 30) (by decide +kernel) 21 ⟨by decide +kernel, by decide +kernel⟩ rfl
theorem dL_law_2336 : decode code 2336 = .ok (.ifCond .ne 15, 3) := decode_sh lwA36 (q := 32) (by decide +kernel) 154 ⟨by decide +kernel, by decide +kernel⟩ rfl
theorem dL_law_2339 : decode code 2339 = .ok (.aload_n 3, 1) := decode_sh lwA36 (q := 35) (by decide +kernel) 45 ⟨by decide +kernel, by decide +kernel⟩ rfl
theorem dL_law_2340 : decode code 2340 = .ok (.iconst 0, 1) := decode_sh lwA36 (q := 36) (by decide +kernel) 3 ⟨by decide +kernel, by decide +kernel⟩ rfl
theorem dL_law_2341 : decode code 2341 = .ok (.laload, 1) := decode_sh lwA36 (q := 37) (by decide +kernel) 47 ⟨by decide +kernel, by decide +kernel⟩ rfl
theorem dL_law_2342 : decode code 2342 = .ok (.iload 7, 2) := decode_sh lwA36 (q := 38) (by decide +kernel) 21 ⟨by decide +kernel, by decide +kernel⟩ rfl
theorem dL_law_2344 : decode code 2344 = .ok (.i2l, 1) := decode_sh lwA36 (q := 40) (by decide +kernel) 133 ⟨by decide +kernel, by decide +kernel⟩ rfl
theorem dL_law_2345 : decode code 2345 = .ok (.lcmp, 1) := decode_sh lwA36 (q := 41) (by decide +kernel) 148 ⟨by decide +kernel, by decide +kernel⟩ rfl
theorem dL_law_2346 : decode code 2346 = .ok (.ifCond .eq 5, 3) := decode_sh lwA36 (q := 42) (by decide +kernel) 153 ⟨by decide +kernel, by decide +kernel⟩ rfl
theorem dL_law_2349 : decode code 2349 = .ok (.iconst 0, 1) := decode_sh lwA36 (q := 45) (by decide +kernel) 3 ⟨by decide +kernel, by decide +kernel⟩ rfl
theorem dL_law_2350 : decode code 2350 = .ok (.ireturn, 1) := decode_sh lwA36 (q := 46) (by decide +kernel) 172 ⟨by decide +kernel, by decide +kernel⟩ rfl
theorem dL_law_2351 : decode code 2351 = .ok (.goto 1444, 3) := decode_sh lwA36 (q := 47) (by decide +kernel) 167 ⟨by decide +kernel, by decide +kernel⟩ rfl
theorem dL_law_2354 : decode code 2354 = .ok (.aload_n 1, 1) := decode_sh lwA36 (q := 50) (by decide +kernel) 43 ⟨by decide +kernel, by decide +kernel⟩ rfl
theorem dL_law_2355 : decode code 2355 = .ok (.aload_n 0, 1) := decode_sh lwA36 (q := 51) (by decide +kernel) 42 ⟨by decide +kernel, by decide +kernel⟩ rfl
theorem dL_law_2356 : decode code 2356 = .ok (.iload 5, 2) := decode_sh lwA36 (q := 52) (by decide +kernel) 21 ⟨by decide +kernel, by decide +kernel⟩ rfl
theorem dL_law_2358 : decode code 2358 = .ok (.iconst 1, 1) := decode_sh lwA36 (q := 54) (by decide +kernel) 4 ⟨by decide +kernel, by decide +kernel⟩ rfl
theorem dL_law_2359 : decode code 2359 = .ok (.iadd, 1) := decode_sh lwA36 (q := 55) (by decide +kernel) 96 ⟨by decide +kernel, by decide +kernel⟩ rfl
theorem dL_law_2360 : decode code 2360 = .ok (.iaload, 1) := decode_sh lwA36 (q := 56) (by decide +kernel) 46 ⟨by decide +kernel, by decide +kernel⟩ rfl
theorem dL_law_2361 : decode code 2361 = .ok (.aload_n 3, 1) := decode_sh lwA36 (q := 57) (by decide +kernel) 45 ⟨by decide +kernel, by decide +kernel⟩ rfl
theorem dL_law_2362 : decode code 2362 = .ok (.invokestatic 333, 3) := decode_sh lwA36 (q := 58) (by decide +kernel) 184 ⟨by decide +kernel, by decide +kernel⟩ rfl
theorem dL_law_2365 : decode code 2365 = .ok (.istore 6, 2) := decode_sh lwA36 (q := 61) (by decide +kernel) 54 ⟨by decide +kernel, by decide +kernel⟩ rfl
theorem dL_law_2367 : decode code 2367 = .ok (.aload_n 2, 1) := decode_sh lwA36 (q := 63) (by decide +kernel) 44 ⟨by decide +kernel, by decide +kernel⟩ rfl
theorem dL_law_2368 : decode code 2368 = .ok (.aload_n 0, 1) := decode_sh lwA37 (q := 0) (by decide +kernel) 42 ⟨by decide +kernel, by decide +kernel⟩ rfl
theorem dL_law_2369 : decode code 2369 = .ok (.iload 5, 2) := decode_sh lwA37 (q := 1) (by decide +kernel) 21 ⟨by decide +kernel, by decide +kernel⟩ rfl
theorem dL_law_2371 : decode code 2371 = .ok (.iconst 1, 1) := decode_sh lwA37 (q := 3) (by decide +kernel) 4 ⟨by decide +kernel, by decide +kernel⟩ rfl
theorem dL_law_2372 : decode code 2372 = .ok (.iadd, 1) := decode_sh lwA37 (q := 4) (by decide +kernel) 96 ⟨by decide +kernel, by decide +kernel⟩ rfl
theorem dL_law_2373 : decode code 2373 = .ok (.iaload, 1) := decode_sh lwA37 (q := 5) (by decide +kernel) 46 ⟨by decide +kernel, by decide +kernel⟩ rfl
theorem dL_law_2374 : decode code 2374 = .ok (.invokevirtual 335, 3) := decode_sh lwA37 (q := 6) (by decide +kernel) 182 ⟨by decide +kernel, by decide +kernel⟩ rfl
theorem dL_law_2377 : decode code 2377 = .ok (.istore 7, 2) := decode_sh lwA37 (q := 9) (by decide +kernel) 54 ⟨by decide +kernel, by decide +kernel⟩ rfl
theorem dL_law_2379 : decode code 2379 = .ok (.aload_n 2, 1) := decode_sh lwA37 (q := 11) (by decide +kernel) 44 ⟨by decide +kernel, by decide +kernel⟩ rfl
theorem dL_law_2380 : decode code 2380 = .ok (.invokevirtual 213, 3) := decode_sh lwA37 (q := 12) (by decide +kernel) 182 ⟨by decide +kernel, by decide +kernel⟩ rfl
theorem dL_law_2383 : decode code 2383 = .ok (.iload 6, 2) := decode_sh lwA37 (q := 15) (by decide +kernel) 21 ⟨by decide +kernel, by decide +kernel⟩ rfl
theorem dL_law_2385 : decode code 2385 = .ok (.if_icmp .eq 5, 3) := decode_sh lwA37 (q := 17) (by decide +kernel) 159 ⟨by decide +kernel, by decide +kernel⟩ rfl
theorem dL_law_2388 : decode code 2388 = .ok (.iconst 0, 1) := decode_sh lwA37 (q := 20) (by decide +kernel) 3 ⟨by decide +kernel, by decide +kernel⟩ rfl
theorem dL_law_2389 : decode code 2389 = .ok (.ireturn, 1) := decode_sh lwA37 (q := 21) (by decide +kernel) 172 ⟨by decide +kernel, by decide +kernel⟩ rfl
theorem dL_law_2390 : decode code 2390 = .ok (.iload 6, 2) := decode_sh lwA37 (q := 22) (by decide +kernel) 21 ⟨by decide +kernel, by decide +kernel⟩ rfl
theorem dL_law_2392 : decode code 2392 = .ok (.ifCond .ne 15, 3) := decode_sh lwA37 (q := 24) (by decide +kernel) 154 ⟨by decide +kernel, by decide +kernel⟩ rfl
theorem dL_law_2395 : decode code 2395 = .ok (.aload_n 3, 1) := decode_sh lwA37 (q := 27) (by decide +kernel) 45 ⟨by decide +kernel, by decide +kernel⟩ rfl
theorem dL_law_2396 : decode code 2396 = .ok (.iconst 0, 1) := decode_sh lwA37 (q := 28) (by decide +kernel) 3 ⟨by decide +kernel, by decide +kernel⟩ rfl
theorem dL_law_2397 : decode code 2397 = .ok (.laload, 1) := decode_sh lwA37 (q := 29) (by decide +kernel) 47 ⟨by decide +kernel, by decide +kernel⟩ rfl
theorem dL_law_2398 : decode code 2398 = .ok (.iload 7, 2) := decode_sh lwA37 (q := 30) (by decide +kernel) 21 ⟨by decide +kernel, by decide +kernel⟩ rfl
theorem dL_law_2400 : decode code 2400 = .ok (.i2l, 1) := decode_sh lwA37 (q := 32) (by decide +kernel) 133 ⟨by decide +kernel, by decide +kernel⟩ rfl
theorem dL_law_2401 : decode code 2401 = .ok (.lcmp, 1) := decode_sh lwA37 (q := 33) (by decide +kernel) 148 ⟨by decide +kernel, by decide +kernel⟩ rfl
theorem dL_law_2402 : decode code 2402 = .ok (.ifCond .eq 5, 3) := decode_sh lwA37 (q := 34) (by decide +kernel) 153 ⟨by decide +kernel, by decide +kernel⟩ rfl
theorem dL_law_2405 : decode code 2405 = .ok (.iconst 0, 1) := decode_sh lwA37 (q := 37) (by decide +kernel) 3 ⟨by decide +kernel, by decide +kernel⟩ rfl
theorem dL_law_2406 : decode code 2406 = .ok (.ireturn, 1) := decode_sh lwA37 (q := 38) (by decide +kernel) 172 ⟨by decide +kernel, by decide +kernel⟩ rfl
theorem dL_law_2407 : decode code 2407 = .ok (.goto 1388, 3) := decode_sh lwA37 (q := 39) (by decide +kernel) 167 ⟨by decide +kernel, by decide +kernel⟩ rfl
theorem dL_law_2410 : decode code 2410 = .ok (.aload_n 1, 1) := decode_sh lwA37 (q := 42) (by decide +kernel) 43 ⟨by decide +kernel, by decide +kernel⟩ rfl
theorem dL_law_2411 : decode code 2411 = .ok (.aload_n 0, 1) := decode_sh lwA37 (q := 43) (by decide +kernel) 42 ⟨by decide +kernel, by decide +kernel⟩ rfl
theorem dL_law_2412 : decode code 2412 = .ok (.iload 5, 2) := decode_sh lwA37 (q := 44) (by decide +kernel) 21 ⟨by decide +kernel, by decide +kernel⟩ rfl
theorem dL_law_2414 : decode code 2414 = .ok (.iconst 1, 1) := decode_sh lwA37 (q := 46) (by decide +kernel) 4 ⟨by decide +kernel, by decide +kernel⟩ rfl
theorem dL_law_2415 : decode code 2415 = .ok (.iadd, 1) := decode_sh lwA37 (q := 47) (by decide +kernel) 96 ⟨by decide +kernel, by decide +kernel⟩ rfl
theorem dL_law_2416 : decode code 2416 = .ok (.iaload, 1) := decode_sh lwA37 (q := 48) (by decide +kernel) 46 ⟨by decide +kernel, by decide +kernel⟩ rfl
theorem dL_law_2417 : decode code 2417 = .ok (.aload_n 0, 1) := decode_sh lwA37 (q := 49) (by decide +kernel) 42 ⟨by decide +kernel, by decide +kernel⟩ rfl
theorem dL_law_2418 : decode code 2418 = .ok (.iload 5, 2) := decode_sh lwA37 (q := 50) (by decide +kernel) 21 ⟨by decide +kernel, by decide +kernel⟩ rfl
theorem dL_law_2420 : decode code 2420 = .ok (.iconst 2, 1) := decode_sh lwA37 (q := 52) (by decide +kernel) 5 ⟨by decide +kernel, by decide +kernel⟩ rfl
theorem dL_law_2421 : decode code 2421 = .ok (.iadd, 1) := decode_sh lwA37 (q := 53) (by decide +kernel) 96 ⟨by decide +kernel, by decide +kernel⟩ rfl
theorem dL_law_2422 : decode code 2422 = .ok (.iaload, 1) := decode_sh lwA37 (q := 54) (by decide +kernel) 46 ⟨by decide +kernel, by decide +kernel⟩ rfl
theorem dL_law_2423 : decode code 2423 = .ok (.aload_n 3, 1) := decode_sh lwA37 (q := 55) (by decide +kernel) 45 ⟨by decide +kernel, by decide +kernel⟩ rfl
theorem dL_law_2424 : decode code 2424 = .ok (.invokestatic 336, 3) := decode_sh lwA37 (q := 56) (by decide +kernel) 184 ⟨by decide +kernel, by decide +kernel⟩ rfl
theorem dL_law_2427 : decode code 2427 = .ok (.istore 6, 2) := decode_sh lwA37 (q := 59) (by decide +kernel) 54 ⟨by decide +kernel, by decide +kernel⟩ rfl
theorem dL_law_2429 : decode code 2429 = .ok (.aload_n 2, 1) := decode_sh lwA37 (q := 61) (by decide +kernel) 44 ⟨by decide +kernel, by decide +kernel⟩ rfl
theorem dL_law_2430 : decode code 2430 = .ok (.aload_n 0, 1) := decode_sh lwA37 (q := 62) (by decide +kernel) 42 ⟨by decide +kernel, by decide +kernel⟩ rfl
theorem dL_law_2431 : decode code 2431 = .ok (.iload 5, 2) := decode_sh lwA37 (q := 63) (by decide +kernel) 21 ⟨by decide +kernel, by decide +kernel⟩ rfl
theorem dL_law_2433 : decode code 2433 = .ok (.iconst 1, 1) := decode_sh lwA38 (q := 1) (by decide +kernel) 4 ⟨by decide +kernel, by decide +kernel⟩ rfl
theorem dL_law_2434 : decode code 2434 = .ok (.iadd, 1) := decode_sh lwA38 (q := 2) (by decide +kernel) 96 ⟨by decide +kernel, by decide +kernel⟩ rfl
theorem dL_law_2435 : decode code 2435 = .ok (.iaload, 1) := decode_sh lwA38 (q := 3) (by decide +kernel) 46 ⟨by decide +kernel, by decide +kernel⟩ rfl
theorem dL_law_2436 : decode code 2436 = .ok (.aload_n 0, 1) := decode_sh lwA38 (q := 4) (by decide +kernel) 42 ⟨by decide +kernel, by decide +kernel⟩ rfl
theorem dL_law_2437 : decode code 2437 = .ok (.iload 5, 2) := decode_sh lwA38 (q := 5) (by decide +kernel) 21 ⟨by decide +kernel, by decide +kernel⟩ rfl
theorem dL_law_2439 : decode code 2439 = .ok (.iconst 2, 1) := decode_sh lwA38 (q := 7) (by decide +kernel) 5 ⟨by decide +kernel, by decide +kernel⟩ rfl
theorem dL_law_2440 : decode code 2440 = .ok (.iadd, 1) := decode_sh lwA38 (q := 8) (by decide +kernel) 96 ⟨by decide +kernel, by decide +kernel⟩ rfl
theorem dL_law_2441 : decode code 2441 = .ok (.iaload, 1) := decode_sh lwA38 (q := 9) (by decide +kernel) 46 ⟨by decide +kernel, by decide +kernel⟩ rfl
theorem dL_law_2442 : decode code 2442 = .ok (.invokevirtual 338, 3) := decode_sh lwA38 (q := 10) (by decide +kernel) 182 ⟨by decide +kernel, by decide +kernel⟩ rfl
theorem dL_law_2445 : decode code 2445 = .ok (.istore 7, 2) := decode_sh lwA38 (q := 13) (by decide +kernel) 54 ⟨by decide +kernel, by decide +kernel⟩ rfl
theorem dL_law_2447 : decode code 2447 = .ok (.aload_n 2, 1) := decode_sh lwA38 (q := 15) (by decide +kernel) 44 ⟨by decide +kernel, by decide +kernel⟩ rfl
theorem dL_law_2448 : decode code 2448 = .ok (.invokevirtual 213, 3) := decode_sh lwA38 (q := 16) (by decide +kernel) 182 ⟨by decide +kernel, by decide +kernel⟩ rfl
theorem dL_law_2451 : decode code 2451 = .ok (.iload 6, 2) := decode_sh lwA38 (q := 19) (by decide +kernel) 21 ⟨by decide +kernel, by decide +kernel⟩ rfl
theorem dL_law_2453 : decode code 2453 = .ok (.if_icmp .eq 5, 3) := decode_sh lwA38 (q := 21) (by decide +kernel) 159 ⟨by decide +kernel, by decide +kernel⟩ rfl
theorem dL_law_2456 : decode code 2456 = .ok (.iconst 0, 1) := decode_sh lwA38 (q := 24) (by decide +kernel) 3 ⟨by decide +kernel, by decide +kernel⟩ rfl
theorem dL_law_2457 : decode code 2457 = .ok (.ireturn, 1) := decode_sh lwA38 (q := 25) (by decide +kernel) 172 ⟨by decide +kernel, by decide +kernel⟩ rfl
theorem dL_law_2458 : decode code 2458 = .ok (.iload 6, 2) := decode_sh lwA38 (q := 26) (by decide +kernel) 21 ⟨by decide +kernel, by decide +kernel⟩ rfl
theorem dL_law_2460 : decode code 2460 = .ok (.ifCond .ne 15, 3) := decode_sh lwA38 (q := 28) (by decide +kernel) 154 ⟨by decide +kernel, by decide +kernel⟩ rfl
theorem dL_law_2463 : decode code 2463 = .ok (.aload_n 3, 1) := decode_sh lwA38 (q := 31) (by decide +kernel) 45 ⟨by decide +kernel, by decide +kernel⟩ rfl
theorem dL_law_2464 : decode code 2464 = .ok (.iconst 0, 1) := decode_sh lwA38 (q := 32) (by decide +kernel) 3 ⟨by decide +kernel, by decide +kernel⟩ rfl
theorem dL_law_2465 : decode code 2465 = .ok (.laload, 1) := decode_sh lwA38 (q := 33) (by decide +kernel) 47 ⟨by decide +kernel, by decide +kernel⟩ rfl
theorem dL_law_2466 : decode code 2466 = .ok (.iload 7, 2) := decode_sh lwA38 (q := 34) (by decide +kernel) 21 ⟨by decide +kernel, by decide +kernel⟩ rfl
theorem dL_law_2468 : decode code 2468 = .ok (.i2l, 1) := decode_sh lwA38 (q := 36) (by decide +kernel) 133 ⟨by decide +kernel, by decide +kernel⟩ rfl
theorem dL_law_2469 : decode code 2469 = .ok (.lcmp, 1) := decode_sh lwA38 (q := 37) (by decide +kernel) 148 ⟨by decide +kernel, by decide +kernel⟩ rfl
theorem dL_law_2470 : decode code 2470 = .ok (.ifCond .eq 5, 3) := decode_sh lwA38 (q := 38) (by decide +kernel) 153 ⟨by decide +kernel, by decide +kernel⟩ rfl
theorem dL_law_2473 : decode code 2473 = .ok (.iconst 0, 1) := decode_sh lwA38 (q := 41) (by decide +kernel) 3 ⟨by decide +kernel, by decide +kernel⟩ rfl
theorem dL_law_2474 : decode code 2474 = .ok (.ireturn, 1) := decode_sh lwA38 (q := 42) (by decide +kernel) 172 ⟨by decide +kernel, by decide +kernel⟩ rfl
theorem dL_law_2475 : decode code 2475 = .ok (.goto 1320, 3) := decode_sh lwA38 (q := 43) (by decide +kernel) 167 ⟨by decide +kernel, by decide +kernel⟩ rfl
theorem dL_law_2478 : decode code 2478 = .ok (.aload_n 1, 1) := decode_sh lwA38 (q := 46) (by decide +kernel) 43 ⟨by decide +kernel, by decide +kernel⟩ rfl
theorem dL_law_2479 : decode code 2479 = .ok (.aload_n 0, 1) := decode_sh lwA38 (q := 47) (by decide +kernel) 42 ⟨by decide +kernel, by decide +kernel⟩ rfl
theorem dL_law_2480 : decode code 2480 = .ok (.iload 5, 2) := decode_sh lwA38 (q := 48) (by decide +kernel) 21 ⟨by decide +kernel, by decide +kernel⟩ rfl
theorem dL_law_2482 : decode code 2482 = .ok (.iconst 1, 1) := decode_sh lwA38 (q := 50) (by decide +kernel) 4 ⟨by decide +kernel, by decide +kernel⟩ rfl
theorem dL_law_2483 : decode code 2483 = .ok (.iadd, 1) := decode_sh lwA38 (q := 51) (by decide +kernel) 96 ⟨by decide +kernel, by decide +kernel⟩ rfl
theorem dL_law_2484 : decode code 2484 = .ok (.iaload, 1) := decode_sh lwA38 (q := 52) (by decide +kernel) 46 ⟨by decide +kernel, by decide +kernel⟩ rfl
theorem dL_law_2485 : decode code 2485 = .ok (.aload_n 0, 1) := decode_sh lwA38 (q := 53) (by decide +kernel) 42 ⟨by decide +kernel, by decide +kernel⟩ rfl
theorem dL_law_2486 : decode code 2486 = .ok (.iload 5, 2) := decode_sh lwA38 (q := 54) (by decide +kernel) 21 ⟨by decide +kernel, by decide +kernel⟩ rfl
theorem dL_law_2488 : decode code 2488 = .ok (.iconst 2, 1) := decode_sh lwA38 (q := 56) (by decide +kernel) 5 ⟨by decide +kernel, by decide +kernel⟩ rfl
theorem dL_law_2489 : decode code 2489 = .ok (.iadd, 1) := decode_sh lwA38 (q := 57) (by decide +kernel) 96 ⟨by decide +kernel, by decide +kernel⟩ rfl
theorem dL_law_2490 : decode code 2490 = .ok (.iaload, 1) := decode_sh lwA38 (q := 58) (by decide +kernel) 46 ⟨by decide +kernel, by decide +kernel⟩ rfl
theorem dL_law_2491 : decode code 2491 = .ok (.aload_n 3, 1) := decode_sh lwA38 (q := 59) (by decide +kernel) 45 ⟨by decide +kernel, by decide +kernel⟩ rfl
theorem dL_law_2492 : decode code 2492 = .ok (.invokestatic 339, 3) := decode_sh lwA38 (q := 60) (by decide +kernel) 184 ⟨by decide +kernel, by decide +kernel⟩ rfl
theorem dL_law_2495 : decode code 2495 = .ok (.istore 6, 2) := decode_sh lwA38 (q := 63) (by decide +kernel) 54 ⟨by decide +kernel, by decide +kernel⟩ rfl
theorem dL_law_2497 : decode code 2497 = .ok (.aload_n 2, 1) := decode_sh lwA39 (q := 1) (by decide +kernel) 44 ⟨by decide +kernel, by decide +kernel⟩ rfl
theorem dL_law_2498 : decode code 2498 = .ok (.aload_n 0, 1) := decode_sh lwA39 (q := 2) (by decide +kernel) 42 ⟨by decide +kernel, by decide +kernel⟩ rfl
theorem dL_law_2499 : decode code 2499 = .ok (.iload 5, 2) := decode_sh lwA39 (q := 3) (by decide +kernel) 21 ⟨by decide +kernel, by decide +kernel⟩ rfl
theorem dL_law_2501 : decode code 2501 = .ok (.iconst 1, 1) := decode_sh lwA39 (q := 5) (by decide +kernel) 4 ⟨by decide +kernel, by decide +kernel⟩ rfl
theorem dL_law_2502 : decode code 2502 = .ok (.iadd, 1) := decode_sh lwA39 (q := 6) (by decide +kernel) 96 ⟨by decide +kernel, by decide +kernel⟩ rfl
theorem dL_law_2503 : decode code 2503 = .ok (.iaload, 1) := decode_sh lwA39 (q := 7) (by decide +kernel) 46 ⟨by decide +kernel, by decide +kernel⟩ rfl
theorem dL_law_2504 : decode code 2504 = .ok (.aload_n 0, 1) := decode_sh lwA39 (q := 8) (by decide +kernel) 42 ⟨by decide +kernel, by decide +kernel⟩ rfl
theorem dL_law_2505 : decode code 2505 = .ok (.iload 5, 2) := decode_sh lwA39 (q := 9) (by decide +kernel) 21 ⟨by decide +kernel, by decide +kernel⟩ rfl
theorem dL_law_2507 : decode code 2507 = .ok (.iconst 2, 1) := decode_sh lwA39 (q := 11) (by decide +kernel) 5 ⟨by decide +kernel, by decide +kernel⟩ rfl
theorem dL_law_2508 : decode code 2508 = .ok (.iadd, 1) := decode_sh lwA39 (q := 12) (by decide +kernel) 96 ⟨by decide +kernel, by decide +kernel⟩ rfl
theorem dL_law_2509 : decode code 2509 = .ok (.iaload, 1) := decode_sh lwA39 (q := 13) (by decide +kernel) 46 ⟨by decide +kernel, by decide +kernel⟩ rfl
theorem dL_law_2510 : decode code 2510 = .ok (.invokevirtual 341, 3) := decode_sh lwA39 (q := 14) (by decide +kernel) 182 ⟨by decide +kernel, by decide +kernel⟩ rfl
theorem dL_law_2513 : decode code 2513 = .ok (.istore 7, 2) := decode_sh lwA39 (q := 17) (by decide +kernel) 54 ⟨by decide +kernel, by decide +kernel⟩ rfl
theorem dL_law_2515 : decode code 2515 = .ok (.aload_n 2, 1) := decode_sh lwA39 (q := 19) (by decide +kernel) 44 ⟨by decide +kernel, by decide +kernel⟩ rfl
theorem dL_law_2516 : decode code 2516 = .ok (.invokevirtual 213, 3) := decode_sh lwA39 (q := 20) (by decide +kernel) 182 ⟨by decide +kernel, by decide +kernel⟩ rfl
theorem dL_law_2519 : decode code 2519 = .ok (.iload 6, 2) := decode_sh lwA39 (q := 23) (by decide +kernel) 21 ⟨by decide +kernel, by decide +kernel⟩ rfl
theorem dL_law_2521 : decode code 2521 = .ok (.if_icmp .eq 5, 3) := decode_sh lwA39 (q := 25) (by decide +kernel) 159 ⟨by decide +kernel, by decide +kernel⟩ rfl
theorem dL_law_2524 : decode code 2524 = .ok (.iconst 0, 1) := decode_sh lwA39 (q := 28) (by decide +kernel) 3 ⟨by decide +kernel, by decide +kernel⟩ rfl
theorem dL_law_2525 : decode code 2525 = .ok (.ireturn, 1) := decode_sh lwA39 (q := 29) (by decide +kernel) 172 ⟨by decide +kernel, by decide +kernel⟩ rfl
theorem dL_law_2526 : decode code 2526 = .ok (.iload 6, 2) := decode_sh lwA39 (q := 30) (by decide +kernel) 21 ⟨by decide +kernel, by decide +kernel⟩ rfl
theorem dL_law_2528 : decode code 2528 = .ok (.ifCond .ne 15, 3) := decode_sh lwA39 (q := 32) (by decide +kernel) 154 ⟨by decide +kernel, by decide +kernel⟩ rfl
theorem dL_law_2531 : decode code 2531 = .ok (.aload_n 3, 1) := decode_sh lwA39 (q := 35) (by decide +kernel) 45 ⟨by decide +kernel, by decide +kernel⟩ rfl
theorem dL_law_2532 : decode code 2532 = .ok (.iconst 0, 1) := decode_sh lwA39 (q := 36) (by decide +kernel) 3 ⟨by decide +kernel, by decide +kernel⟩ rfl
theorem dL_law_2533 : decode code 2533 = .ok (.laload, 1) := decode_sh lwA39 (q := 37) (by decide +kernel) 47 ⟨by decide +kernel, by decide +kernel⟩ rfl
theorem dL_law_2534 : decode code 2534 = .ok (.iload 7, 2) := decode_sh lwA39 (q := 38) (by decide +kernel) 21 ⟨by decide +kernel, by decide +kernel⟩ rfl
theorem dL_law_2536 : decode code 2536 = .ok (.i2l, 1) := decode_sh lwA39 (q := 40) (by decide +kernel) 133 ⟨by decide +kernel, by decide +kernel⟩ rfl
theorem dL_law_2537 : decode code 2537 = .ok (.lcmp, 1) := decode_sh lwA39 (q := 41) (by decide +kernel) 148 ⟨by decide +kernel, by decide +kernel⟩ rfl
theorem dL_law_2538 : decode code 2538 = .ok (.ifCond .eq 5, 3) := decode_sh lwA39 (q := 42) (by decide +kernel) 153 ⟨by decide +kernel, by decide +kernel⟩ rfl
theorem dL_law_2541 : decode code 2541 = .ok (.iconst 0, 1) := decode_sh lwA39 (q := 45) (by decide +kernel) 3 ⟨by decide +kernel, by decide +kernel⟩ rfl
theorem dL_law_2542 : decode code 2542 = .ok (.ireturn, 1) := decode_sh lwA39 (q := 46) (by decide +kernel) 172 ⟨by decide +kernel, by decide +kernel⟩ rfl
theorem dL_law_2543 : decode code 2543 = .ok (.goto 1252, 3) := decode_sh lwA39 (q := 47) (by decide +kernel) 167 ⟨by decide +kernel, by decide +kernel⟩ rfl
theorem dL_law_2546 : decode code 2546 = .ok (.aload_n 1, 1) := decode_sh lwA39 (q := 50) (by decide +kernel) 43 ⟨by decide +kernel, by decide +kernel⟩ rfl
theorem dL_law_2547 : decode code 2547 = .ok (.aload_n 0, 1) := decode_sh lwA39 (q := 51) (by decide +kernel) 42 ⟨by decide +kernel, by decide +kernel⟩ rfl
theorem dL_law_2548 : decode code 2548 = .ok (.iload 5, 2) := decode_sh lwA39 (q := 52) (by decide +kernel) 21 ⟨by decide +kernel, by decide +kernel⟩ rfl
theorem dL_law_2550 : decode code 2550 = .ok (.iconst 1, 1) := decode_sh lwA39 (q := 54) (by decide +kernel) 4 ⟨by decide +kernel, by decide +kernel⟩ rfl
theorem dL_law_2551 : decode code 2551 = .ok (.iadd, 1) := decode_sh lwA39 (q := 55) (by decide +kernel) 96 ⟨by decide +kernel, by decide +kernel⟩ rfl
theorem dL_law_2552 : decode code 2552 = .ok (.iaload, 1) := decode_sh lwA39 (q := 56) (by decide +kernel) 46 ⟨by decide +kernel, by decide +kernel⟩ rfl
theorem dL_law_2553 : decode code 2553 = .ok (.aload_n 3, 1) := decode_sh lwA39 (q := 57) (by decide +kernel) 45 ⟨by decide +kernel, by decide +kernel⟩ rfl
theorem dL_law_2554 : decode code 2554 = .ok (.invokestatic 342, 3) := decode_sh lwA39 (q := 58) (by decide +kernel) 184 ⟨by decide +kernel, by decide +kernel⟩ rfl
theorem dL_law_2557 : decode code 2557 = .ok (.istore 6, 2) := decode_sh lwA39 (q := 61) (by decide +kernel) 54 ⟨by decide +kernel, by decide +kernel⟩ rfl
theorem dL_law_2559 : decode code 2559 = .ok (.aload_n 2, 1) := decode_sh lwA39 (q := 63) (by decide +kernel) 44 ⟨by decide +kernel, by decide +kernel⟩ rfl
theorem dL_law_2560 : decode code 2560 = .ok (.aload_n 0, 1) := decode_sh lwA40 (q := 0) (by decide +kernel) 42 ⟨by decide +kernel, by decide +kernel⟩ rfl
theorem dL_law_2561 : decode code 2561 = .ok (.iload 5, 2) := decode_sh lwA40 (q := 1) (by decide +kernel) 21 ⟨by decide +kernel, by decide +kernel⟩ rfl
theorem dL_law_2563 : decode code 2563 = .ok (.iconst 1, 1) := decode_sh lwA40 (q := 3) (by decide +kernel) 4 ⟨by decide +kernel, by decide +kernel⟩ rfl
theorem dL_law_2564 : decode code 2564 = .ok (.iadd, 1) := decode_sh lwA40 (q := 4) (by decide +kernel) 96 ⟨by decide +kernel, by decide +kernel⟩ rfl
theorem dL_law_2565 : decode code 2565 = .ok (.iaload, 1) := decode_sh lwA40 (q := 5) (by decide +kernel) 46 ⟨by decide +kernel, by decide +kernel⟩ rfl
theorem dL_law_2566 : decode code 2566 = .ok (.invokevirtual 344, 3) := decode_sh lwA40 (q := 6) (by decide +kernel) 182 ⟨by decide +kernel, by decide +kernel⟩ rfl
theorem dL_law_2569 : decode code 2569 = .ok (.istore 7, 2) := decode_sh lwA40 (q := 9) (by decide +kernel) 54 ⟨by decide +kernel, by decide +kernel⟩ rfl
theorem dL_law_2571 : decode code 2571 = .ok (.aload_n 2, 1) := decode_sh lwA40 (q := 11) (by decide +kernel) 44 ⟨by decide +kernel, by decide +kernel⟩ rfl
theorem dL_law_2572 : decode code 2572 = .ok (.invokevirtual 213, 3) := decode_sh lwA40 (q := 12) (by decide +kernel) 182 ⟨by decide +kernel, by decide +kernel⟩ rfl
theorem dL_law_2575 : decode code 2575 = .ok (.iload 6, 2) := decode_sh lwA40 (q := 15) (by decide +kernel) 21 ⟨by decide +kernel, by decide +kernel⟩ rfl
theorem dL_law_2577 : decode code 2577 = .ok (.if_icmp .eq 5, 3) := decode_sh lwA40 (q := 17) (by decide +kernel) 159 ⟨by decide +kernel, by decide +kernel⟩ rfl
theorem dL_law_2580 : decode code 2580 = .ok (.iconst 0, 1) := decode_sh lwA40 (q := 20) (by decide +kernel) 3 ⟨by decide +kernel, by decide +kernel⟩ rfl
theorem dL_law_2581 : decode code 2581 = .ok (.ireturn, 1) := decode_sh lwA40 (q := 21) (by decide +kernel) 172 ⟨by decide +kernel, by decide +kernel⟩ rfl
theorem dL_law_2582 : decode code 2582 = .ok (.iload 6, 2) := decode_sh lwA40 (q := 22) (by decide +kernel) 21 ⟨by decide +kernel, by decide +kernel⟩ rfl
theorem dL_law_2584 : decode code 2584 = .ok (.ifCond .ne 15, 3) := decode_sh lwA40 (q := 24) (by decide +kernel) 154 ⟨by decide +kernel, by decide +kernel⟩ rfl
theorem dL_law_2587 : decode code 2587 = .ok (.aload_n 3, 1) := decode_sh lwA40 (q := 27) (by decide +kernel) 45 ⟨by decide +kernel, by decide +kernel⟩ rfl
theorem dL_law_2588 : decode code 2588 = .ok (.iconst 0, 1) := decode_sh lwA40 (q := 28) (by decide +kernel) 3 ⟨by decide +kernel, by decide +kernel⟩ rfl
theorem dL_law_2589 : decode code 2589 = .ok (.laload, 1) := decode_sh lwA40 (q := 29) (by decide +kernel) 47 ⟨by decide +kernel, by decide +kernel⟩ rfl
theorem dL_law_2590 : decode code 2590 = .ok (.iload 7, 2) := decode_sh lwA40 (q := 30) (by decide +kernel) 21 ⟨by decide +kernel, by decide +kernel⟩ rfl
theorem dL_law_2592 : decode code 2592 = .ok (.i2l, 1) := decode_sh lwA40 (q := 32) (by decide +kernel) 133 ⟨by decide +kernel, by decide +kernel⟩ rfl
theorem dL_law_2593 : decode code 2593 = .ok (.lcmp, 1) := decode_sh lwA40 (q := 33) (by decide +kernel) 148 ⟨by decide +kernel, by decide +kernel⟩ rfl
theorem dL_law_2594 : decode code 2594 = .ok (.ifCond .eq 5, 3) := decode_sh lwA40 (q := 34) (by decide +kernel) 153 ⟨by decide +kernel, by decide +kernel⟩ rfl
theorem dL_law_2597 : decode code 2597 = .ok (.iconst 0, 1) := decode_sh lwA40 (q := 37) (by decide +kernel) 3 ⟨by decide +kernel, by decide +kernel⟩ rfl
theorem dL_law_2598 : decode code 2598 = .ok (.ireturn, 1) := decode_sh lwA40 (q := 38) (by decide +kernel) 172 ⟨by decide +kernel, by decide +kernel⟩ rfl
theorem dL_law_2599 : decode code 2599 = .ok (.goto 1196, 3) := decode_sh lwA40 (q := 39) (by decide +kernel) 167 ⟨by decide +kernel, by decide +kernel⟩ rfl
theorem dL_law_2602 : decode code 2602 = .ok (.aload_n 1, 1) := decode_sh lwA40 (q := 42) (by decide +kernel) 43 ⟨by decide +kernel, by decide +kernel⟩ rfl
theorem dL_law_2603 : decode code 2603 = .ok (.aload_n 0, 1) := decode_sh lwA40 (q := 43) (by decide +kernel) 42 ⟨by decide +kernel, by decide +kernel⟩ rfl
theorem dL_law_2604 : decode code 2604 = .ok (.iload 5, 2) := decode_sh lwA40 (q := 44) (by decide +kernel) 21 ⟨by decide +kernel, by decide +kernel⟩ rfl
theorem dL_law_2606 : decode code 2606 = .ok (.iconst 1, 1) := decode_sh lwA40 (q := 46) (by decide +kernel) 4 ⟨by decide +kernel, by decide +kernel⟩ rfl
theorem dL_law_2607 : decode code 2607 = .ok (.iadd, 1) := decode_sh lwA40 (q := 47) (by decide +kernel) 96 ⟨by decide +kernel, by decide +kernel⟩ rfl
theorem dL_law_2608 : decode code 2608 = .ok (.iaload, 1) := decode_sh lwA40 (q := 48) (by decide +kernel) 46 ⟨by decide +kernel, by decide +kernel⟩ rfl
theorem dL_law_2609 : decode code 2609 = .ok (.aload_n 3, 1) := decode_sh lwA40 (q := 49) (by decide +kernel) 45 ⟨by decide +kernel, by decide +kernel⟩ rfl
theorem dL_law_2610 : decode code 2610 = .ok (.invokestatic 345, 3) := decode_sh lwA40 (q := 50) (by decide +kernel) 184 ⟨by decide +kernel, by decide +kernel⟩ rfl
theorem dL_law_2613 : decode code 2613 = .ok (.istore 6, 2) := decode_sh lwA40 (q := 53) (by decide +kernel) 54 ⟨by decide +kernel, by decide +kernel⟩ rfl
theorem dL_law_2615 : decode code 2615 = .ok (.aload_n 2, 1) := decode_sh lwA40 (q := 55) (by decide +kernel) 44 ⟨by decide +kernel, by decide +kernel⟩ rfl
theorem dL_law_2616 : decode code 2616 = .ok (.aload_n 0, 1) := decode_sh lwA40 (q := 56) (by decide +kernel) 42 ⟨by decide +kernel, by decide +kernel⟩ rfl
theorem dL_law_2617 : decode code 2617 = .ok (.iload 5, 2) := decode_sh lwA40 (q := 57) (by decide +kernel) 21 ⟨by decide +kernel, by decide +kernel⟩ rfl
theorem dL_law_2619 : decode code 2619 = .ok (.iconst 1, 1) := decode_sh lwA40 (q := 59) (by decide +kernel) 4 ⟨by decide +kernel, by decide +kernel⟩ rfl
theorem dL_law_2620 : decode code 2620 = .ok (.iadd, 1) := decode_sh lwA40 (q := 60) (by decide +kernel) 96 ⟨by decide +kernel, by decide +kernel⟩ rfl
theorem dL_law_2621 : decode code 2621 = .ok (.iaload, 1) := decode_sh lwA40 (q := 61) (by decide +kernel) 46 ⟨by decide +kernel, by decide +kernel⟩ rfl
theorem dL_law_2622 : decode code 2622 = .ok (.invokevirtual 347, 3) := decode_sh lwA40 (q := 62) (by decide +kernel) 182 ⟨by decide +kernel, by decide +kernel⟩ rfl
theorem dL_law_2625 : decode code 2625 = .ok (.istore 7, 2) := decode_sh lwA41 (q := 1) (by decide +kernel) 54 ⟨by decide +kernel, by decide +kernel⟩ rfl
theorem dL_law_2627 : decode code 2627 = .ok (.aload_n 2, 1) := decode_sh lwA41 (q := 3) (by decide +kernel) 44 ⟨by decide +kernel, by decide +kernel⟩ rfl
theorem dL_law_2628 : decode code 2628 = .ok (.invokevirtual 213, 3) := decode_sh lwA41 (q := 4) (by decide +kernel) 182 ⟨by decide +kernel, by decide +kernel⟩ rfl
theorem dL_law_2631 : decode code 2631 = .ok (.iload 6, 2) := decode_sh lwA41 (q := 7) (by decide +kernel) 21 ⟨by decide +kernel, by decide +kernel⟩ rfl
theorem dL_law_2633 : decode code 2633 = .ok (.if_icmp .eq 5, 3) := decode_sh lwA41 (q := 9) (by decide +kernel) 159 ⟨by decide +kernel, by decide +kernel⟩ rfl
theorem dL_law_2636 : decode code 2636 = .ok (.iconst 0, 1) := decode_sh lwA41 (q := 12) (by decide +kernel) 3 ⟨by decide +kernel, by decide +kernel⟩ rfl
theorem dL_law_2637 : decode code 2637 = .ok (.ireturn, 1) := decode_sh lwA41 (q := 13) (by decide +kernel) 172 ⟨by decide +kernel, by decide +kernel⟩ rfl
theorem dL_law_2638 : decode code 2638 = .ok (.iload 6, 2) := decode_sh lwA41 (q := 14) (by decide +kernel) 21 ⟨by decide +kernel, by decide +kernel⟩ rfl
theorem dL_law_2640 : decode code 2640 = .ok (.ifCond .ne 15, 3) := decode_sh lwA41 (q := 16) (by decide +kernel) 154 ⟨by decide +kernel, by decide +kernel⟩ rfl
