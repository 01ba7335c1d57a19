/-! ===== the law's names, words 28 ===== -/
set_option maxRecDepth 20000 in
theorem ggL_law_L_undone_p0 : GoodIn wsL_law [.code yL_undone cL_undone 8 (some .boolean)] := goodIn_r _ [1121] (by decide +kernel) (by decide +kernel)
set_option maxRecDepth 20000 in
theorem ggL_law_L_undone_p1 : GoodIn wsL_law wsL_undone_r1 := goodIn_r _ [1122, 810, 31, 32, 125, 126, 2, 127, 128, 1123, 1124, 1125, 1126, 1127, 1128, 1129, 1130, 1131, 1132, 1133, 500, 501, 502, 6] (by decide +kernel) (by decide +kernel)
set_option maxRecDepth 20000 in
theorem ggL_law_L_undone_p2 : GoodIn wsL_law wsL_undone_r2 := goodIn_r _ [503, 16, 137, 504, 472, 473, 474, 475, 476, 1134, 1135, 1136, 1137, 1138, 1139, 1140, 1141, 1142, 1143, 1144, 1145, 1146, 1147, 1148] (by decide +kernel) (by decide +kernel)
set_option maxRecDepth 20000 in
theorem ggL_law_L_undone_p3 : GoodIn wsL_law wsL_undone_r3 := goodIn_r _ [505, 506, 507, 508, 442, 509, 513, 514, 515, 516, 517, 518, 519, 520, 521, 147, 148, 525, 526, 527, 528, 529, 480, 481] (by decide +kernel) (by decide +kernel)
set_option maxRecDepth 20000 in
theorem ggL_law_L_undone_p4 : GoodIn wsL_law wsL_undone_r4 := goodIn_r _ [482, 483, 484, 465, 466, 467, 468, 451, 452, 453, 454, 455, 211, 212, 54, 213, 181, 456, 215, 216, 217, 218, 164, 165] (by decide +kernel) (by decide +kernel)
set_option maxRecDepth 20000 in
theorem ggL_law_L_undone_p5 : GoodIn wsL_law wsL_undone_r5 := goodIn_r _ [166, 219, 220, 221, 182, 64, 65, 469, 470, 471, 153, 154, 460, 461, 462, 463, 464, 495, 496, 497, 498, 499, 276, 277] (by decide +kernel) (by decide +kernel)
