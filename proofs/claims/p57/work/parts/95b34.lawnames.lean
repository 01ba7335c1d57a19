/-! ===== the law's names, words 34 ===== -/
set_option maxRecDepth 20000 in
theorem ggL_law_L_undone_p36 : GoodIn wsL_law wsL_undone_r36 := goodIn_r _ [1268, 1269, 1270] (by decide +kernel) (by decide +kernel)
set_option maxRecDepth 20000 in
theorem ggL_law_L_undone_wsJ40 : GoodIn wsL_law wsJ40 := goodIn_r _ [1299, 1300, 1301, 1302] (by decide +kernel) (by decide +kernel)
set_option maxRecDepth 20000 in
theorem ggL_law_L_undone_wsX100 : GoodIn wsL_law wsX100 := goodIn_r _ [1271, 1272, 1273, 1274, 1275, 1276, 1277, 1278, 1279] (by decide +kernel) (by decide +kernel)
set_option maxRecDepth 20000 in
theorem ggL_law_L_undone_wsX40 : GoodIn wsL_law wsX40 := goodIn_r _ [1280, 1281, 1282] (by decide +kernel) (by decide +kernel)
set_option maxRecDepth 20000 in
theorem ggL_law_L_undone_wsX90 : GoodIn wsL_law wsX90 := goodIn_r _ [1291, 1292, 1293, 1294, 1295, 1296, 1297, 1298] (by decide +kernel) (by decide +kernel)
set_option maxRecDepth 20000 in
theorem ggL_law_L_undone_wsX10 : GoodIn wsL_law wsX10 := goodIn_r _ [1311, 1312, 1313, 1314, 1315, 1316, 1317] (by decide +kernel) (by decide +kernel)
