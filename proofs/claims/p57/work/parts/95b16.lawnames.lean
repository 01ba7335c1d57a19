/-! ===== the law's names, words 16 ===== -/
set_option maxRecDepth 20000 in
theorem ggL_law_L_subscribers_p0 : GoodIn wsL_law [.code yL_subscribers cL_subscribers 13 (some .boolean)] := goodIn_r _ [673] (by decide +kernel) (by decide +kernel)
set_option maxRecDepth 20000 in
theorem ggL_law_L_subscribers_p1 : GoodIn wsL_law wsL_subscribers_r1 := goodIn_r _ [674, 220, 165, 221, 276, 277, 278, 6, 279, 16, 137, 280, 281, 675, 676, 2, 677, 200, 678, 679, 680, 681, 682, 683] (by decide +kernel) (by decide +kernel)
set_option maxRecDepth 20000 in
theorem ggL_law_L_subscribers_p2 : GoodIn wsL_law wsL_subscribers_r2 := goodIn_r _ [684, 685, 686, 147, 148, 687, 388, 389, 58, 390, 191, 688, 689, 690, 691, 692, 693, 694, 695, 586, 587, 588, 589, 590] (by decide +kernel) (by decide +kernel)
set_option maxRecDepth 20000 in
theorem ggL_law_L_subscribers_p3 : GoodIn wsL_law wsL_subscribers_r3 := goodIn_r _ [591, 592, 541, 442, 593, 594, 595, 596, 149, 150, 451, 452, 453, 454, 455, 211, 212, 54, 213, 181, 597, 252, 253, 43] (by decide +kernel) (by decide +kernel)
set_option maxRecDepth 20000 in
theorem ggL_law_L_subscribers_p4 : GoodIn wsL_law wsL_subscribers_r4 := goodIn_r _ [254, 255, 256, 257, 81, 258, 259, 260, 261, 262, 263, 264, 265, 266, 469, 470, 471, 153, 154, 696, 697, 698, 699, 700] (by decide +kernel) (by decide +kernel)
set_option maxRecDepth 20000 in
theorem ggL_law_L_subscribers_p5 : GoodIn wsL_law wsL_subscribers_r5 := goodIn_r _ [701, 702, 703, 704, 705, 15, 706, 44, 40, 142, 249, 305, 306, 251, 707, 708, 709, 710, 711, 712, 713, 714, 715, 716] (by decide +kernel) (by decide +kernel)
