/-! ===== the law's names, words 13 ===== -/
set_option maxRecDepth 20000 in
theorem ggL_law_L_routes_p12 : GoodIn wsL_law wsL_routes_r12 := goodIn_r _ [654, 655, 656, 657, 658, 659, 660, 661, 662, 663, 664, 665, 666, 354, 271, 667, 668, 669, 58, 670, 191, 74] (by decide +kernel) (by decide +kernel)
set_option maxRecDepth 20000 in
theorem ggL_law_L_routes_wsX100 : GoodIn wsL_law wsX100 := goodIn_r _ [1271, 1272, 1273, 1274, 1275, 1276, 1277, 1278, 1279] (by decide +kernel) (by decide +kernel)
set_option maxRecDepth 20000 in
theorem ggL_law_L_routes_wsX40 : GoodIn wsL_law wsX40 := goodIn_r _ [1280, 1281, 1282] (by decide +kernel) (by decide +kernel)
set_option maxRecDepth 20000 in
theorem ggL_law_L_routes_wsX90 : GoodIn wsL_law wsX90 := goodIn_r _ [1291, 1292, 1293, 1294, 1295, 1296, 1297, 1298] (by decide +kernel) (by decide +kernel)
set_option maxRecDepth 20000 in
theorem ggL_law_L_routes_wsX10 : GoodIn wsL_law wsX10 := goodIn_r _ [1311, 1312, 1313, 1314, 1315, 1316, 1317] (by decide +kernel) (by decide +kernel)
set_option maxRecDepth 20000 in
theorem ggL_law_L_routes_wsX50 : GoodIn wsL_law wsX50 := goodIn_r _ [1303, 1304, 1305] (by decide +kernel) (by decide +kernel)
