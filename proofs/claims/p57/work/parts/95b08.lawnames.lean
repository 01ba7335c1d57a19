/-! ===== the law's names, words 8 ===== -/
set_option maxRecDepth 20000 in
theorem ggL_law_L_drawn_p18 : GoodIn wsL_law wsL_drawn_r18 := goodIn_r _ [411, 412, 413, 414, 415, 416, 417, 418, 419, 420, 421, 422, 423, 424, 425, 426, 427, 428, 429, 430, 431, 432, 433, 434] (by decide +kernel) (by decide +kernel)
set_option maxRecDepth 20000 in
theorem ggL_law_L_drawn_wsX100 : GoodIn wsL_law wsX100 := goodIn_r _ [1271, 1272, 1273, 1274, 1275, 1276, 1277, 1278, 1279] (by decide +kernel) (by decide +kernel)
set_option maxRecDepth 20000 in
theorem ggL_law_L_drawn_wsX40 : GoodIn wsL_law wsX40 := goodIn_r _ [1280, 1281, 1282] (by decide +kernel) (by decide +kernel)
set_option maxRecDepth 20000 in
theorem ggL_law_L_drawn_wsX60 : GoodIn wsL_law wsX60 := goodIn_r _ [1283, 1284, 1285, 1286, 1287] (by decide +kernel) (by decide +kernel)
set_option maxRecDepth 20000 in
theorem ggL_law_L_drawn_wsX30 : GoodIn wsL_law wsX30 := goodIn_r _ [1288, 1289, 1290] (by decide +kernel) (by decide +kernel)
set_option maxRecDepth 20000 in
theorem ggL_law_L_drawn_wsX90 : GoodIn wsL_law wsX90 := goodIn_r _ [1291, 1292, 1293, 1294, 1295, 1296, 1297, 1298] (by decide +kernel) (by decide +kernel)
