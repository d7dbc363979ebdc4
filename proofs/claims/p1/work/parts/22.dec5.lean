/-! DECODED, 5: made by wip/engine/gen21.py -/
theorem eL_law_1529 : decode cL_law 1529 = .ok (.aload_n 3, 1) := by decide +kernel
theorem eL_law_1530 : decode cL_law 1530 = .ok (.invokestatic 191, 3) := by decide +kernel
theorem eL_law_1533 : decode cL_law 1533 = .ok (.istore 5, 2) := by decide +kernel
theorem eL_law_1535 : decode cL_law 1535 = .ok (.aload_n 2, 1) := by decide +kernel
theorem eL_law_1536 : decode cL_law 1536 = .ok (.aload_n 0, 1) := by decide +kernel
theorem eL_law_1537 : decode cL_law 1537 = .ok (.iload 4, 2) := by decide +kernel
theorem eL_law_1539 : decode cL_law 1539 = .ok (.iconst 1, 1) := by decide +kernel
theorem eL_law_1540 : decode cL_law 1540 = .ok (.iadd, 1) := by decide +kernel
theorem eL_law_1541 : decode cL_law 1541 = .ok (.iaload, 1) := by decide +kernel
theorem eL_law_1542 : decode cL_law 1542 = .ok (.aload_n 0, 1) := by decide +kernel
theorem eL_law_1543 : decode cL_law 1543 = .ok (.iload 4, 2) := by decide +kernel
theorem eL_law_1545 : decode cL_law 1545 = .ok (.iconst 2, 1) := by decide +kernel
theorem eL_law_1546 : decode cL_law 1546 = .ok (.iadd, 1) := by decide +kernel
theorem eL_law_1547 : decode cL_law 1547 = .ok (.iaload, 1) := by decide +kernel
theorem eL_law_1548 : decode cL_law 1548 = .ok (.invokevirtual 193, 3) := by decide +kernel
theorem eL_law_1551 : decode cL_law 1551 = .ok (.istore 6, 2) := by decide +kernel
theorem eL_law_1553 : decode cL_law 1553 = .ok (.aload_n 2, 1) := by decide +kernel
theorem eL_law_1554 : decode cL_law 1554 = .ok (.invokevirtual 103, 3) := by decide +kernel
theorem eL_law_1557 : decode cL_law 1557 = .ok (.iload 5, 2) := by decide +kernel
theorem eL_law_1559 : decode cL_law 1559 = .ok (.if_icmp .eq 5, 3) := by decide +kernel
theorem eL_law_1564 : decode cL_law 1564 = .ok (.iload 5, 2) := by decide +kernel
theorem eL_law_1566 : decode cL_law 1566 = .ok (.ifCond .ne 15, 3) := by decide +kernel
theorem eL_law_1569 : decode cL_law 1569 = .ok (.aload_n 3, 1) := by decide +kernel
theorem eL_law_1570 : decode cL_law 1570 = .ok (.iconst 0, 1) := by decide +kernel
theorem eL_law_1571 : decode cL_law 1571 = .ok (.laload, 1) := by decide +kernel
theorem eL_law_1572 : decode cL_law 1572 = .ok (.iload 6, 2) := by decide +kernel
theorem eL_law_1574 : decode cL_law 1574 = .ok (.i2l, 1) := by decide +kernel
theorem eL_law_1575 : decode cL_law 1575 = .ok (.lcmp, 1) := by decide +kernel
theorem eL_law_1576 : decode cL_law 1576 = .ok (.ifCond .eq 5, 3) := by decide +kernel
theorem eL_law_1581 : decode cL_law 1581 = .ok (.goto 60, 3) := by decide +kernel
theorem eL_law_1584 : decode cL_law 1584 = .ok (.aload_n 1, 1) := by decide +kernel
theorem eL_law_1585 : decode cL_law 1585 = .ok (.invokevirtual 194, 3) := by decide +kernel
theorem eL_law_1588 : decode cL_law 1588 = .ok (.aload_n 2, 1) := by decide +kernel
theorem eL_law_1589 : decode cL_law 1589 = .ok (.invokevirtual 197, 3) := by decide +kernel
theorem eL_law_1592 : decode cL_law 1592 = .ok (.if_icmp .eq 49, 3) := by decide +kernel
theorem eL_law_1597 : decode cL_law 1597 = .ok (.aload_n 1, 1) := by decide +kernel
theorem eL_law_1598 : decode cL_law 1598 = .ok (.aload_n 3, 1) := by decide +kernel
theorem eL_law_1599 : decode cL_law 1599 = .ok (.invokestatic 198, 3) := by decide +kernel
theorem eL_law_1602 : decode cL_law 1602 = .ok (.istore 5, 2) := by decide +kernel
theorem eL_law_1604 : decode cL_law 1604 = .ok (.aload_n 2, 1) := by decide +kernel
theorem eL_law_1605 : decode cL_law 1605 = .ok (.invokevirtual 200, 3) := by decide +kernel
theorem eL_law_1608 : decode cL_law 1608 = .ok (.istore 6, 2) := by decide +kernel
theorem eL_law_1610 : decode cL_law 1610 = .ok (.aload_n 2, 1) := by decide +kernel
theorem eL_law_1611 : decode cL_law 1611 = .ok (.invokevirtual 103, 3) := by decide +kernel
theorem eL_law_1614 : decode cL_law 1614 = .ok (.iload 5, 2) := by decide +kernel
theorem eL_law_1616 : decode cL_law 1616 = .ok (.if_icmp .eq 5, 3) := by decide +kernel
theorem eL_law_1621 : decode cL_law 1621 = .ok (.iload 5, 2) := by decide +kernel
theorem eL_law_1623 : decode cL_law 1623 = .ok (.ifCond .ne 15, 3) := by decide +kernel
theorem eL_law_1638 : decode cL_law 1638 = .ok (.goto 3, 3) := by decide +kernel
theorem eL_law_1641 : decode cL_law 1641 = .ok (.iinc 4 3, 3) := by decide +kernel
theorem eL_law_1644 : decode cL_law 1644 = .ok (.goto (-1621), 3) := by decide +kernel
theorem eL_law_1647 : decode cL_law 1647 = .ok (.iconst 1, 1) := by decide +kernel
theorem eL_law_1648 : decode cL_law 1648 = .ok (.ireturn, 1) := by decide +kernel
theorem eJ6_bitCount_0f7a4_0 : decode cJ6_bitCount_0f7a4 0 = .ok (.iload_n 0, 1) := by decide +kernel
theorem eJ6_bitCount_0f7a4_1 : decode cJ6_bitCount_0f7a4 1 = .ok (.iload_n 0, 1) := by decide +kernel
theorem eJ6_bitCount_0f7a4_2 : decode cJ6_bitCount_0f7a4 2 = .ok (.iconst 1, 1) := by decide +kernel
theorem eJ6_bitCount_0f7a4_3 : decode cJ6_bitCount_0f7a4 3 = .ok (.iushr, 1) := by decide +kernel
theorem eJ6_bitCount_0f7a4_4 : decode cJ6_bitCount_0f7a4 4 = .ok (.ldc_w 265, 3) := by decide +kernel
theorem eJ6_bitCount_0f7a4_7 : decode cJ6_bitCount_0f7a4 7 = .ok (.iand, 1) := by decide +kernel
theorem eJ6_bitCount_0f7a4_8 : decode cJ6_bitCount_0f7a4 8 = .ok (.isub, 1) := by decide +kernel
theorem eJ6_bitCount_0f7a4_9 : decode cJ6_bitCount_0f7a4 9 = .ok (.istore_n 0, 1) := by decide +kernel
theorem eJ6_bitCount_0f7a4_10 : decode cJ6_bitCount_0f7a4 10 = .ok (.iload_n 0, 1) := by decide +kernel
theorem eJ6_bitCount_0f7a4_11 : decode cJ6_bitCount_0f7a4 11 = .ok (.ldc_w 266, 3) := by decide +kernel
theorem eJ6_bitCount_0f7a4_14 : decode cJ6_bitCount_0f7a4 14 = .ok (.iand, 1) := by decide +kernel
theorem eJ6_bitCount_0f7a4_15 : decode cJ6_bitCount_0f7a4 15 = .ok (.iload_n 0, 1) := by decide +kernel
theorem eJ6_bitCount_0f7a4_16 : decode cJ6_bitCount_0f7a4 16 = .ok (.iconst 2, 1) := by decide +kernel
theorem eJ6_bitCount_0f7a4_17 : decode cJ6_bitCount_0f7a4 17 = .ok (.iushr, 1) := by decide +kernel
theorem eJ6_bitCount_0f7a4_18 : decode cJ6_bitCount_0f7a4 18 = .ok (.ldc_w 266, 3) := by decide +kernel
theorem eJ6_bitCount_0f7a4_21 : decode cJ6_bitCount_0f7a4 21 = .ok (.iand, 1) := by decide +kernel
theorem eJ6_bitCount_0f7a4_22 : decode cJ6_bitCount_0f7a4 22 = .ok (.iadd, 1) := by decide +kernel
theorem eJ6_bitCount_0f7a4_23 : decode cJ6_bitCount_0f7a4 23 = .ok (.istore_n 0, 1) := by decide +kernel
theorem eJ6_bitCount_0f7a4_24 : decode cJ6_bitCount_0f7a4 24 = .ok (.iload_n 0, 1) := by decide +kernel
theorem eJ6_bitCount_0f7a4_25 : decode cJ6_bitCount_0f7a4 25 = .ok (.iload_n 0, 1) := by decide +kernel
theorem eJ6_bitCount_0f7a4_26 : decode cJ6_bitCount_0f7a4 26 = .ok (.iconst 4, 1) := by decide +kernel
theorem eJ6_bitCount_0f7a4_27 : decode cJ6_bitCount_0f7a4 27 = .ok (.iushr, 1) := by decide +kernel
theorem eJ6_bitCount_0f7a4_28 : decode cJ6_bitCount_0f7a4 28 = .ok (.iadd, 1) := by decide +kernel
theorem eJ6_bitCount_0f7a4_29 : decode cJ6_bitCount_0f7a4 29 = .ok (.ldc_w 267, 3) := by decide +kernel
theorem eJ6_bitCount_0f7a4_32 : decode cJ6_bitCount_0f7a4 32 = .ok (.iand, 1) := by decide +kernel
theorem eJ6_bitCount_0f7a4_33 : decode cJ6_bitCount_0f7a4 33 = .ok (.istore_n 0, 1) := by decide +kernel
theorem eJ6_bitCount_0f7a4_34 : decode cJ6_bitCount_0f7a4 34 = .ok (.iload_n 0, 1) := by decide +kernel
theorem eJ6_bitCount_0f7a4_35 : decode cJ6_bitCount_0f7a4 35 = .ok (.iload_n 0, 1) := by decide +kernel
theorem eJ6_bitCount_0f7a4_36 : decode cJ6_bitCount_0f7a4 36 = .ok (.bipush 8, 2) := by decide +kernel
theorem eJ6_bitCount_0f7a4_38 : decode cJ6_bitCount_0f7a4 38 = .ok (.iushr, 1) := by decide +kernel
theorem eJ6_bitCount_0f7a4_39 : decode cJ6_bitCount_0f7a4 39 = .ok (.iadd, 1) := by decide +kernel
theorem eJ6_bitCount_0f7a4_40 : decode cJ6_bitCount_0f7a4 40 = .ok (.istore_n 0, 1) := by decide +kernel
theorem eJ6_bitCount_0f7a4_41 : decode cJ6_bitCount_0f7a4 41 = .ok (.iload_n 0, 1) := by decide +kernel
theorem eJ6_bitCount_0f7a4_42 : decode cJ6_bitCount_0f7a4 42 = .ok (.iload_n 0, 1) := by decide +kernel
theorem eJ6_bitCount_0f7a4_43 : decode cJ6_bitCount_0f7a4 43 = .ok (.bipush 16, 2) := by decide +kernel
theorem eJ6_bitCount_0f7a4_45 : decode cJ6_bitCount_0f7a4 45 = .ok (.iushr, 1) := by decide +kernel
theorem eJ6_bitCount_0f7a4_46 : decode cJ6_bitCount_0f7a4 46 = .ok (.iadd, 1) := by decide +kernel
theorem eJ6_bitCount_0f7a4_47 : decode cJ6_bitCount_0f7a4 47 = .ok (.istore_n 0, 1) := by decide +kernel
theorem eJ6_bitCount_0f7a4_48 : decode cJ6_bitCount_0f7a4 48 = .ok (.iload_n 0, 1) := by decide +kernel
theorem eJ6_bitCount_0f7a4_49 : decode cJ6_bitCount_0f7a4 49 = .ok (.bipush 63, 2) := by decide +kernel
theorem eJ6_bitCount_0f7a4_51 : decode cJ6_bitCount_0f7a4 51 = .ok (.iand, 1) := by decide +kernel
theorem eJ6_bitCount_0f7a4_52 : decode cJ6_bitCount_0f7a4 52 = .ok (.ireturn, 1) := by decide +kernel
