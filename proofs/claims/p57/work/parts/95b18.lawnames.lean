/-! ===== the law's names, words 18 ===== -/
set_option maxRecDepth 20000 in
theorem ggL_law_L_subscribers_p12 : GoodIn wsL_law wsL_subscribers_r12 := goodIn_r _ [779, 780, 781, 668, 669, 670, 74, 782, 783, 784, 785, 786, 787, 788, 789, 75, 790, 791, 792, 793, 794, 795, 796, 363] (by decide +kernel) (by decide +kernel)
set_option maxRecDepth 20000 in
theorem ggL_law_L_subscribers_p13 : GoodIn wsL_law wsL_subscribers_r13 := goodIn_r _ [797, 798, 799, 800, 801, 802, 803, 804, 805, 806] (by decide +kernel) (by decide +kernel)
set_option maxRecDepth 20000 in
theorem ggL_law_L_subscribers_wsX100 : GoodIn wsL_law wsX100 := goodIn_r _ [1271, 1272, 1273, 1274, 1275, 1276, 1277, 1278, 1279] (by decide +kernel) (by decide +kernel)
set_option maxRecDepth 20000 in
theorem ggL_law_L_subscribers_wsX40 : GoodIn wsL_law wsX40 := goodIn_r _ [1280, 1281, 1282] (by decide +kernel) (by decide +kernel)
set_option maxRecDepth 20000 in
theorem ggL_law_L_subscribers_wsX90 : GoodIn wsL_law wsX90 := goodIn_r _ [1291, 1292, 1293, 1294, 1295, 1296, 1297, 1298] (by decide +kernel) (by decide +kernel)
set_option maxRecDepth 20000 in
theorem ggL_law_L_subscribers_wsX80 : GoodIn wsL_law wsX80 := goodIn_r _ [1318, 1319, 1320, 1321, 1322, 1323] (by decide +kernel) (by decide +kernel)
