/-! ===== the law's names, 10 (7) ===== -/
set_option maxRecDepth 20000 in
theorem ggL_law_X11_execute_wsX110 : GoodIn wsL_law wsX110 := goodIn_r _ [1621, 1622, 1623, 1624, 1625, 1626, 1627, 1628, 1629, 1630, 1631, 1632, 1633, 1634, 1635, 1636, 1637, 1638, 1639, 1640] (by decide +kernel) (by decide +kernel)
set_option maxRecDepth 20000 in
theorem ggL_law_X11_execute_wsJ00 : GoodIn wsL_law wsJ00 := goodIn_r _ [1697, 1698, 1699, 1700] (by decide +kernel) (by decide +kernel)
