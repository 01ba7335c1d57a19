/-! ===== the law's names, words 24 ===== -/
set_option maxRecDepth 20000 in
theorem ggL_law_L_lines_p18 : GoodIn wsL_law wsL_lines_r18 := goodIn_r _ [1107, 1108, 1109, 1110, 1111, 505, 506, 507, 508, 442, 509, 513, 514, 515, 516, 517, 518, 519, 520, 521, 525, 526, 527, 528] (by decide +kernel) (by decide +kernel)
set_option maxRecDepth 20000 in
theorem ggL_law_L_lines_p19 : GoodIn wsL_law wsL_lines_r19 := goodIn_r _ [529, 480, 481, 482, 483, 484, 465, 466, 467, 468, 451, 452, 453, 454, 455, 211, 212, 54, 213, 181, 456, 215, 216, 217] (by decide +kernel) (by decide +kernel)
set_option maxRecDepth 20000 in
theorem ggL_law_L_lines_p20 : GoodIn wsL_law wsL_lines_r20 := goodIn_r _ [218, 219, 182, 64, 65, 460, 461, 462, 463, 464, 488, 489, 490, 491, 476, 1112, 1113, 1114, 1115, 1116, 1117, 1118] (by decide +kernel) (by decide +kernel)
set_option maxRecDepth 20000 in
theorem ggL_law_L_lines_wsJ40 : GoodIn wsL_law wsJ40 := goodIn_r _ [1299, 1300, 1301, 1302] (by decide +kernel) (by decide +kernel)
set_option maxRecDepth 20000 in
theorem ggL_law_L_lines_wsX100 : GoodIn wsL_law wsX100 := goodIn_r _ [1271, 1272, 1273, 1274, 1275, 1276, 1277, 1278, 1279] (by decide +kernel) (by decide +kernel)
set_option maxRecDepth 20000 in
theorem ggL_law_L_lines_wsX40 : GoodIn wsL_law wsX40 := goodIn_r _ [1280, 1281, 1282] (by decide +kernel) (by decide +kernel)
