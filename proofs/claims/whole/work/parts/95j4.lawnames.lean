/-! ===== the law's names, 10 (4) ===== -/
set_option maxRecDepth 20000 in
theorem ggL_law_L_execute_p15 : GoodIn wsL_law wsL_execute_r15 := goodIn_r _ [833, 834, 90, 976, 977, 978, 979, 980, 836, 837, 838, 89, 839, 840, 841, 842, 843, 844, 845, 846, 847, 848, 849, 850] (by decide +kernel) (by decide +kernel)
set_option maxRecDepth 20000 in
theorem ggL_law_L_execute_p16 : GoodIn wsL_law wsL_execute_r16 := goodIn_r _ [851, 852, 853, 854, 855, 856, 857, 981, 982, 983, 984, 985, 986, 987, 988, 989, 990, 991, 992, 993, 994, 995, 996, 997] (by decide +kernel) (by decide +kernel)
set_option maxRecDepth 20000 in
theorem ggL_law_L_execute_p17 : GoodIn wsL_law wsL_execute_r17 := goodIn_r _ [171, 172, 173, 24, 174, 105, 175, 176, 177, 181] (by decide +kernel) (by decide +kernel)
set_option maxRecDepth 20000 in
theorem ggL_law_L_execute_wsX100 : GoodIn wsL_law wsX100 := goodIn_r _ [1612, 1613, 1614, 1615, 1616, 1617, 1618, 1619, 1620] (by decide +kernel) (by decide +kernel)
set_option maxRecDepth 20000 in
theorem ggL_law_L_execute_wsX60 : GoodIn wsL_law wsX60 := goodIn_r _ [1644, 1645, 1646, 1647, 1648] (by decide +kernel) (by decide +kernel)
set_option maxRecDepth 20000 in
theorem ggL_law_L_execute_wsX40 : GoodIn wsL_law wsX40 := goodIn_r _ [1641, 1642, 1643] (by decide +kernel) (by decide +kernel)
set_option maxRecDepth 20000 in
theorem ggL_law_L_execute_wsJ00 : GoodIn wsL_law wsJ00 := goodIn_r _ [1697, 1698, 1699, 1700] (by decide +kernel) (by decide +kernel)
set_option maxRecDepth 20000 in
theorem ggL_law_L_execute_wsX90 : GoodIn wsL_law wsX90 := goodIn_r _ [1652, 1653, 1654, 1655, 1656, 1657, 1658, 1659] (by decide +kernel) (by decide +kernel)
set_option maxRecDepth 20000 in
theorem ggL_law_L_execute_wsX10 : GoodIn wsL_law wsX10 := goodIn_r _ [1672, 1673, 1674, 1675, 1676, 1677, 1678] (by decide +kernel) (by decide +kernel)
set_option maxRecDepth 20000 in
theorem ggL_law_L_execute_wsX80 : GoodIn wsL_law wsX80 := goodIn_r _ [1679, 1680, 1681, 1682, 1683, 1684] (by decide +kernel) (by decide +kernel)
set_option maxRecDepth 20000 in
theorem ggL_law_L_execute_wsX50 : GoodIn wsL_law wsX50 := goodIn_r _ [1664, 1665, 1666] (by decide +kernel) (by decide +kernel)
set_option maxRecDepth 20000 in
theorem ggL_law_L_execute_wsX70 : GoodIn wsL_law wsX70 := goodIn_r _ [1667, 1668, 1669, 1670, 1671] (by decide +kernel) (by decide +kernel)
set_option maxRecDepth 20000 in
theorem ggL_law_L_execute_wsX30 : GoodIn wsL_law wsX30 := goodIn_r _ [1649, 1650, 1651] (by decide +kernel) (by decide +kernel)
