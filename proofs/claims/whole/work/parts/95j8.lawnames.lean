/-! ===== the law's names, 10 (8) ===== -/
theorem goodIn_k {big a : List Cond} {c : Cond} (hc : GoodIn big [c]) (ha : GoodIn big a) : GoodIn big (c :: a) := goodIn_app (a := [c]) hc ha
set_option maxRecDepth 20000 in
theorem gL_law_L_type : GoodIn wsL_law (va_wsS RL 325 yL_type wsL_type) := goodIn_app (goodIn_of _ (by decide +kernel)) ggL_law_L_type
set_option maxRecDepth 20000 in
theorem ggL_law_X11_type : GoodIn wsL_law wsX11_type := goodIn_ca (goodIn_r _ [1395, 1396, 219, 138, 291, 292, 5, 293, 1621, 1622, 1623, 1624, 1625, 1626, 1627, 1628, 1629, 1630, 1631, 1632, 1633, 1634, 1635, 1636, 1637, 1638, 1639, 1640] (by decide +kernel) (by decide +kernel)) (goodIn_sub (fun _ h => List.mem_append_left _ (List.mem_append_left _ (List.mem_append_left _ (List.mem_append_left _ (List.mem_append_left _ (List.mem_append_left _ (List.mem_append_left _ (List.mem_append_right _ h)))))))) (by decide +kernel))
set_option maxRecDepth 20000 in
theorem gL_law_X11_type : GoodIn wsL_law (wsV RL 328 RX11 yX11_type wsX11_type) := goodIn_app (goodIn_of _ (by decide +kernel)) ggL_law_X11_type
set_option maxRecDepth 20000 in
theorem ggL_law_L_execute : GoodIn wsL_law wsL_execute := goodIn_ca (goodIn_ca (goodIn_ca (goodIn_ca (goodIn_k ggL_law_L_execute_p0 (goodIn_app (goodIn_app (goodIn_app (goodIn_app (goodIn_app (goodIn_app (goodIn_app (goodIn_app (goodIn_app (goodIn_app (goodIn_app ggL_law_L_execute_p1 (goodIn_app ggL_law_L_execute_p2 (goodIn_app ggL_law_L_execute_p3 (goodIn_app ggL_law_L_execute_p4 (goodIn_app ggL_law_L_execute_p5 (goodIn_app ggL_law_L_execute_p6 (goodIn_app ggL_law_L_execute_p7 (goodIn_app ggL_law_L_execute_p8 (goodIn_app ggL_law_L_execute_p9 (goodIn_app ggL_law_L_execute_p10 (goodIn_app ggL_law_L_execute_p11 (goodIn_app ggL_law_L_execute_p12 (goodIn_app ggL_law_L_execute_p13 (goodIn_app ggL_law_L_execute_p14 (goodIn_app ggL_law_L_execute_p15 (goodIn_app ggL_law_L_execute_p16 (ggL_law_L_execute_p17))))))))))))))))) ggL_law_L_execute_wsX100) ggL_law_L_execute_wsX60) ggL_law_L_execute_wsX40) ggL_law_L_execute_wsJ00) ggL_law_L_execute_wsX90) ggL_law_L_execute_wsX10) ggL_law_L_execute_wsX80) ggL_law_L_execute_wsX50) ggL_law_L_execute_wsX70) ggL_law_L_execute_wsX30)) (goodIn_sub (fun _ h => List.mem_append_left _ (List.mem_append_left _ (List.mem_append_left _ (List.mem_append_left _ (List.mem_append_left _ (List.mem_append_left _ (List.mem_append_left _ (List.mem_append_right _ h)))))))) (by decide +kernel))) (goodIn_sub (fun _ h => List.mem_append_left _ (List.mem_append_left _ (List.mem_append_left _ (List.mem_append_left _ (List.mem_append_left _ (List.mem_append_right _ h)))))) (by decide +kernel))) (goodIn_sub (fun _ h => List.mem_append_left _ (List.mem_append_left _ (List.mem_append_left _ (List.mem_append_left _ (List.mem_append_right _ h))))) (by decide +kernel))) (goodIn_sub (fun _ h => List.mem_append_left _ (List.mem_append_right _ h)) (by decide +kernel))
set_option maxRecDepth 20000 in
theorem gL_law_L_execute : GoodIn wsL_law (va_wsS RL 329 yL_execute wsL_execute) := goodIn_app (goodIn_of _ (by decide +kernel)) ggL_law_L_execute
set_option maxRecDepth 20000 in
theorem ggL_law_X11_execute : GoodIn wsL_law wsX11_execute := goodIn_ca (goodIn_ca (goodIn_k ggL_law_X11_execute_p0 (goodIn_app (goodIn_app (goodIn_app ggL_law_X11_execute_p1 (goodIn_app ggL_law_X11_execute_p2 (goodIn_app ggL_law_X11_execute_p3 (goodIn_app ggL_law_X11_execute_p4 (goodIn_app ggL_law_X11_execute_p5 (goodIn_app ggL_law_X11_execute_p6 (goodIn_app ggL_law_X11_execute_p7 (goodIn_app ggL_law_X11_execute_p8 (ggL_law_X11_execute_p9))))))))) ggL_law_X11_execute_wsX110) ggL_law_X11_execute_wsJ00)) (goodIn_sub (fun _ h => List.mem_append_left _ (List.mem_append_left _ (List.mem_append_left _ (List.mem_append_left _ (List.mem_append_left _ (List.mem_append_left _ (List.mem_append_left _ (List.mem_append_right _ h)))))))) (by decide +kernel))) (goodIn_sub (fun _ h => List.mem_append_left _ (List.mem_append_right _ h)) (by decide +kernel))
set_option maxRecDepth 20000 in
theorem gL_law_X11_execute : GoodIn wsL_law (wsV RL 331 RX11 yX11_execute wsX11_execute) := goodIn_app (goodIn_of _ (by decide +kernel)) ggL_law_X11_execute
set_option maxRecDepth 20000 in
theorem ggL_law_L_errorPosition : GoodIn wsL_law wsL_errorPosition := goodIn_ca (goodIn_ca (goodIn_r _ [1551, 906, 1552, 1553, 1554, 2, 1555, 35, 386, 387, 388, 167, 168, 1612, 1613, 1614, 1615, 1616, 1617, 1618, 1619, 1620] (by decide +kernel) (by decide +kernel)) (goodIn_sub (fun _ h => List.mem_append_left _ (List.mem_append_left _ (List.mem_append_left _ (List.mem_append_left _ (List.mem_append_left _ (List.mem_append_left _ (List.mem_append_left _ (List.mem_append_right _ h)))))))) (by decide +kernel))) (goodIn_sub (fun _ h => List.mem_append_left _ (List.mem_append_left _ (List.mem_append_left _ (List.mem_append_right _ h)))) (by decide +kernel))
set_option maxRecDepth 20000 in
theorem gL_law_L_errorPosition : GoodIn wsL_law (va_wsS RL 332 yL_errorPosition wsL_errorPosition) := goodIn_app (goodIn_of _ (by decide +kernel)) ggL_law_L_errorPosition
set_option maxRecDepth 20000 in
theorem ggL_law_X11_errorPosition : GoodIn wsL_law wsX11_errorPosition := goodIn_r _ [1559, 139, 370, 371, 372, 5, 373, 219, 1621, 1622, 1623, 1624, 1625, 1626, 1627, 1628, 1629, 1630, 1631, 1632, 1633, 1634, 1635, 1636, 1637, 1638, 1639, 1640] (by decide +kernel) (by decide +kernel)
set_option maxRecDepth 20000 in
theorem gL_law_X11_errorPosition : GoodIn wsL_law (wsV RL 334 RX11 yX11_errorPosition wsX11_errorPosition) := goodIn_app (goodIn_of _ (by decide +kernel)) ggL_law_X11_errorPosition
set_option maxRecDepth 20000 in
theorem ggL_law_L_failedCommand : GoodIn wsL_law wsL_failedCommand := goodIn_ca (goodIn_ca (goodIn_r _ [1562, 906, 1563, 1564, 1565, 2, 1566, 36, 386, 387, 388, 167, 168, 1612, 1613, 1614, 1615, 1616, 1617, 1618, 1619, 1620] (by decide +kernel) (by decide +kernel)) (goodIn_sub (fun _ h => List.mem_append_left _ (List.mem_append_left _ (List.mem_append_left _ (List.mem_append_left _ (List.mem_append_left _ (List.mem_append_left _ (List.mem_append_left _ (List.mem_append_right _ h)))))))) (by decide +kernel))) (goodIn_sub (fun _ h => List.mem_append_left _ (List.mem_append_left _ (List.mem_append_left _ (List.mem_append_right _ h)))) (by decide +kernel))
set_option maxRecDepth 20000 in
theorem gL_law_L_failedCommand : GoodIn wsL_law (va_wsS RL 335 yL_failedCommand wsL_failedCommand) := goodIn_app (goodIn_of _ (by decide +kernel)) ggL_law_L_failedCommand
set_option maxRecDepth 20000 in
theorem ggL_law_X11_failedCommand : GoodIn wsL_law wsX11_failedCommand := goodIn_r _ [1570, 140, 370, 371, 372, 5, 373, 219, 1621, 1622, 1623, 1624, 1625, 1626, 1627, 1628, 1629, 1630, 1631, 1632, 1633, 1634, 1635, 1636, 1637, 1638, 1639, 1640] (by decide +kernel) (by decide +kernel)
set_option maxRecDepth 20000 in
theorem gL_law_X11_failedCommand : GoodIn wsL_law (wsV RL 337 RX11 yX11_failedCommand wsX11_failedCommand) := goodIn_app (goodIn_of _ (by decide +kernel)) ggL_law_X11_failedCommand
set_option maxRecDepth 20000 in
theorem ggL_law_L_undo : GoodIn wsL_law wsL_undo := goodIn_ca (goodIn_ca (goodIn_r _ [1573, 146, 1574, 1575, 1576, 2, 1577, 165, 166, 25, 1578, 17, 151, 1579, 1580, 1581, 24, 1582, 175, 105, 176, 181, 182, 183, 28, 184, 56, 60, 185, 186, 187, 188, 189, 190, 191, 192, 193, 55, 194, 195, 196, 65, 197, 198, 199, 200, 66, 67, 68, 69, 201, 202, 203, 59, 204, 205, 73, 206, 74, 75, 76, 77, 1612, 1613, 1614, 1615, 1616, 1617, 1618, 1619, 1620, 1649, 1650, 1651, 1641, 1642, 1643, 1652, 1653, 1654, 1655, 1656, 1657, 1658, 1659, 1672, 1673, 1674, 1675, 1676, 1677, 1678, 1679, 1680, 1681, 1682, 1683, 1684] (by decide +kernel) (by decide +kernel)) (goodIn_sub (fun _ h => List.mem_append_left _ (List.mem_append_left _ (List.mem_append_left _ (List.mem_append_left _ (List.mem_append_left _ (List.mem_append_left _ (List.mem_append_left _ (List.mem_append_right _ h)))))))) (by decide +kernel))) (goodIn_sub (fun _ h => List.mem_append_left _ (List.mem_append_left _ (List.mem_append_left _ (List.mem_append_left _ (List.mem_append_right _ h))))) (by decide +kernel))
set_option maxRecDepth 20000 in
theorem gL_law_L_undo : GoodIn wsL_law (va_wsS RL 338 yL_undo wsL_undo) := goodIn_app (goodIn_of _ (by decide +kernel)) ggL_law_L_undo
set_option maxRecDepth 20000 in
theorem ggL_law_X11_undo : GoodIn wsL_law wsX11_undo := goodIn_r _ [1586, 233, 219, 133, 130, 220, 198, 199, 200, 1621, 1622, 1623, 1624, 1625, 1626, 1627, 1628, 1629, 1630, 1631, 1632, 1633, 1634, 1635, 1636, 1637, 1638, 1639, 1640] (by decide +kernel) (by decide +kernel)
set_option maxRecDepth 20000 in
theorem gL_law_X11_undo : GoodIn wsL_law (wsV RL 340 RX11 yX11_undo wsX11_undo) := goodIn_app (goodIn_of _ (by decide +kernel)) ggL_law_X11_undo
set_option maxRecDepth 20000 in
theorem ggL_law_X10_save : GoodIn wsL_law wsX10_save := goodIn_r _ [1590, 29, 17, 151, 1591, 714, 715, 1478, 182, 183, 28, 184, 56, 60, 185, 186, 187, 188, 189, 190, 191, 192, 193, 55, 194, 195, 196, 65, 197, 198, 199, 200, 66, 67, 68, 69, 201, 202, 203, 59, 204, 205, 73, 206, 74, 75, 76, 77, 1612, 1613, 1614, 1615, 1616, 1617, 1618, 1619, 1620, 1641, 1642, 1643, 1652, 1653, 1654, 1655, 1656, 1657, 1658, 1659, 1679, 1680, 1681, 1682, 1683, 1684, 1672, 1673, 1674, 1675, 1676, 1677, 1678] (by decide +kernel) (by decide +kernel)
set_option maxRecDepth 20000 in
theorem gL_law_X10_save : GoodIn wsL_law (wsV RL 341 RX10 yX10_save wsX10_save) := goodIn_app (goodIn_of _ (by decide +kernel)) ggL_law_X10_save
set_option maxRecDepth 20000 in
theorem ggL_law_X11_save : GoodIn wsL_law wsX11_save := goodIn_ca (goodIn_r _ [1595, 219, 130, 132, 220, 198, 199, 200, 1596, 1621, 1622, 1623, 1624, 1625, 1626, 1627, 1628, 1629, 1630, 1631, 1632, 1633, 1634, 1635, 1636, 1637, 1638, 1639, 1640] (by decide +kernel) (by decide +kernel)) (goodIn_sub (fun _ h => List.mem_append_left _ (List.mem_append_left _ (List.mem_append_left _ (List.mem_append_left _ (List.mem_append_left _ (List.mem_append_left _ (List.mem_append_left _ (List.mem_append_right _ h)))))))) (by decide +kernel))
set_option maxRecDepth 20000 in
theorem gL_law_X11_save : GoodIn wsL_law (wsV RL 344 RX11 yX11_save wsX11_save) := goodIn_app (goodIn_of _ (by decide +kernel)) ggL_law_X11_save
set_option maxRecDepth 20000 in
theorem ggL_law_L_restore : GoodIn wsL_law wsL_restore := goodIn_ca (goodIn_ca (goodIn_r _ [1599, 146, 1600, 1601, 1602, 2, 1603, 165, 166, 1591, 17, 151, 29, 25, 714, 715, 1478, 182, 183, 28, 184, 56, 60, 185, 186, 187, 188, 189, 190, 191, 192, 193, 55, 194, 195, 196, 65, 197, 198, 199, 200, 66, 67, 68, 69, 201, 202, 203, 59, 204, 205, 73, 206, 74, 75, 76, 77, 1604, 1605, 1606, 24, 1607, 176, 1612, 1613, 1614, 1615, 1616, 1617, 1618, 1619, 1620, 1641, 1642, 1643, 1652, 1653, 1654, 1655, 1656, 1657, 1658, 1659, 1679, 1680, 1681, 1682, 1683, 1684, 1672, 1673, 1674, 1675, 1676, 1677, 1678, 1649, 1650, 1651] (by decide +kernel) (by decide +kernel)) (goodIn_sub (fun _ h => List.mem_append_left _ (List.mem_append_left _ (List.mem_append_left _ (List.mem_append_left _ (List.mem_append_left _ (List.mem_append_left _ (List.mem_append_left _ (List.mem_append_right _ h)))))))) (by decide +kernel))) (goodIn_sub (fun _ h => List.mem_append_left _ (List.mem_append_left _ (List.mem_append_left _ (List.mem_append_left _ (List.mem_append_right _ h))))) (by decide +kernel))
set_option maxRecDepth 20000 in
theorem gL_law_L_restore : GoodIn wsL_law (va_wsS RL 345 yL_restore wsL_restore) := goodIn_app (goodIn_of _ (by decide +kernel)) ggL_law_L_restore
set_option maxRecDepth 20000 in
theorem ggL_law_X11_restore : GoodIn wsL_law wsX11_restore := goodIn_ca (goodIn_r _ [1611, 1596, 219, 132, 130, 220, 198, 199, 200, 233, 1621, 1622, 1623, 1624, 1625, 1626, 1627, 1628, 1629, 1630, 1631, 1632, 1633, 1634, 1635, 1636, 1637, 1638, 1639, 1640] (by decide +kernel) (by decide +kernel)) (goodIn_sub (fun _ h => List.mem_append_left _ (List.mem_append_left _ (List.mem_append_left _ (List.mem_append_left _ (List.mem_append_left _ (List.mem_append_left _ (List.mem_append_left _ (List.mem_append_right _ h)))))))) (by decide +kernel))
set_option maxRecDepth 20000 in
theorem gL_law_X11_restore : GoodIn wsL_law (wsV RL 347 RX11 yX11_restore wsX11_restore) := goodIn_app (goodIn_of _ (by decide +kernel)) ggL_law_X11_restore
theorem dL_law_0 : decode cL_law 0 = .ok (.new 8, 3) := by decide +kernel
theorem dL_law_3 : decode cL_law 3 = .ok (.dup, 1) := by decide +kernel
theorem dL_law_4 : decode cL_law 4 = .ok (.invokespecial 155, 3) := by decide +kernel
theorem dL_law_7 : decode cL_law 7 = .ok (.astore_n 1, 1) := by decide +kernel
theorem dL_law_8 : decode cL_law 8 = .ok (.new 156, 3) := by decide +kernel
theorem dL_law_11 : decode cL_law 11 = .ok (.dup, 1) := by decide +kernel
theorem dL_law_12 : decode cL_law 12 = .ok (.invokespecial 158, 3) := by decide +kernel
theorem dL_law_15 : decode cL_law 15 = .ok (.astore_n 2, 1) := by decide +kernel
theorem dL_law_16 : decode cL_law 16 = .ok (.iconst 1, 1) := by decide +kernel
theorem dL_law_17 : decode cL_law 17 = .ok (.newarray .long, 2) := by decide +kernel
theorem dL_law_19 : decode cL_law 19 = .ok (.astore_n 3, 1) := by decide +kernel
theorem dL_law_20 : decode cL_law 20 = .ok (.iconst 1, 1) := by decide +kernel
theorem dL_law_21 : decode cL_law 21 = .ok (.newarray .double, 2) := by decide +kernel
theorem dL_law_23 : decode cL_law 23 = .ok (.astore 4, 2) := by decide +kernel
theorem dL_law_25 : decode cL_law 25 = .ok (.iconst 0, 1) := by decide +kernel
theorem dL_law_26 : decode cL_law 26 = .ok (.istore 5, 2) := by decide +kernel
theorem dL_law_28 : decode cL_law 28 = .ok (.iload 5, 2) := by decide +kernel
theorem dL_law_30 : decode cL_law 30 = .ok (.aload_n 0, 1) := by decide +kernel
theorem dL_law_31 : decode cL_law 31 = .ok (.arraylength, 1) := by decide +kernel
theorem dL_law_32 : decode cL_law 32 = .ok (.iconst 5, 1) := by decide +kernel
theorem dL_law_33 : decode cL_law 33 = .ok (.isub, 1) := by decide +kernel
theorem dL_law_34 : decode cL_law 34 = .ok (.if_icmp .gt 2889, 3) := by decide +kernel
theorem dL_law_37 : decode cL_law 37 = .ok (.aload_n 0, 1) := by decide +kernel
theorem dL_law_38 : decode cL_law 38 = .ok (.iload 5, 2) := by decide +kernel
theorem dL_law_40 : decode cL_law 40 = .ok (.iaload, 1) := by decide +kernel
theorem dL_law_41 : decode cL_law 41 = .ok (.bipush 63, 2) := by decide +kernel
theorem dL_law_43 : decode cL_law 43 = .ok (.iand, 1) := by decide +kernel
theorem dL_law_44 : decode cL_law 44 = .ok (.tableswitch 2873 0 53 #[232, 276, 368, 436, 449, 462, 537, 605, 673, 741, 816, 872, 928, 996, 1064, 1132, 1200, 1268, 1281, 1361, 1417, 1485, 1498, 1554, 1610, 1666, 1722, 1778, 1834, 1890, 1946, 2002, 2058, 2071, 2084, 2147, 2160, 2173, 2186, 2242, 2256, 2270, 2335, 2401, 2457, 2513, 2569, 2582, 2640, 2684, 2728, 2772, 2816, 2829], 232) := by decide +kernel
theorem dL_law_276 : decode cL_law 276 = .ok (.aload_n 1, 1) := by decide +kernel
