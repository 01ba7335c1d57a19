/-! ===== the law's names, words 25 ===== -/
set_option maxRecDepth 20000 in
theorem ggL_law_L_lines_wsX90 : GoodIn wsL_law wsX90 := goodIn_r _ [1291, 1292, 1293, 1294, 1295, 1296, 1297, 1298] (by decide +kernel) (by decide +kernel)
set_option maxRecDepth 20000 in
theorem ggL_law_L_lines_wsX80 : GoodIn wsL_law wsX80 := goodIn_r _ [1318, 1319, 1320, 1321, 1322, 1323] (by decide +kernel) (by decide +kernel)
set_option maxRecDepth 20000 in
theorem ggL_law_L_lines_wsX10 : GoodIn wsL_law wsX10 := goodIn_r _ [1311, 1312, 1313, 1314, 1315, 1316, 1317] (by decide +kernel) (by decide +kernel)
set_option maxRecDepth 20000 in
theorem ggL_law_L_lines_wsX50 : GoodIn wsL_law wsX50 := goodIn_r _ [1303, 1304, 1305] (by decide +kernel) (by decide +kernel)
set_option maxRecDepth 20000 in
theorem ggL_law_L_lines_wsJ00 : GoodIn wsL_law wsJ00 := goodIn_r _ [1324, 1325, 1326, 1327] (by decide +kernel) (by decide +kernel)
set_option maxRecDepth 20000 in
theorem ggL_law_L_lines_wsJx7c7330 : GoodIn wsL_law wsJx7c7330 := goodIn_r _ [1328, 1329, 1330, 1331, 1332, 1333] (by decide +kernel) (by decide +kernel)
