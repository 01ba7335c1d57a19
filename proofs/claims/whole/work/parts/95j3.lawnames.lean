/-! ===== the law's names, 10 (3) ===== -/
set_option maxRecDepth 20000 in
theorem ggL_law_L_execute_p10 : GoodIn wsL_law wsL_execute_r10 := goodIn_r _ [624, 559, 560, 44, 561, 498, 500, 501, 82, 499, 562, 563, 564, 565, 566, 567, 568, 569, 1501, 691, 692, 693, 653, 654] (by decide +kernel) (by decide +kernel)
set_option maxRecDepth 20000 in
theorem ggL_law_L_execute_p11 : GoodIn wsL_law wsL_execute_r11 := goodIn_r _ [655, 656, 1502, 650, 651, 652, 1503, 932, 933, 934, 1504, 208, 209, 210, 1505, 264, 265, 266, 267, 268, 269, 270, 271, 272] (by decide +kernel) (by decide +kernel)
set_option maxRecDepth 20000 in
theorem ggL_law_L_execute_p12 : GoodIn wsL_law wsL_execute_r12 := goodIn_r _ [273, 274, 275, 276, 277, 278, 1506, 318, 319, 320, 321, 322, 323, 324, 325, 1507, 626, 627, 628, 629, 630, 631, 632, 633] (by decide +kernel) (by decide +kernel)
set_option maxRecDepth 20000 in
theorem ggL_law_L_execute_p13 : GoodIn wsL_law wsL_execute_r13 := goodIn_r _ [1508, 695, 696, 697, 661, 1509, 658, 659, 660, 662, 663, 664, 665, 666, 1510, 936, 937, 938, 939, 1511, 962, 963, 964, 49] (by decide +kernel) (by decide +kernel)
set_option maxRecDepth 20000 in
theorem ggL_law_L_execute_p14 : GoodIn wsL_law wsL_execute_r14 := goodIn_r _ [965, 966, 967, 968, 969, 970, 971, 972, 973, 974, 975, 824, 825, 826, 776, 777, 827, 828, 829, 48, 830, 88, 831, 832] (by decide +kernel) (by decide +kernel)
