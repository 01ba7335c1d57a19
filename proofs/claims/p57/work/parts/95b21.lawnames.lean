/-! ===== the law's names, words 21 ===== -/
set_option maxRecDepth 20000 in
theorem ggL_law_L_lines_p0 : GoodIn wsL_law [.code yL_lines cL_lines 5 (some .boolean)] := goodIn_r _ [809] (by decide +kernel) (by decide +kernel)
set_option maxRecDepth 20000 in
theorem ggL_law_L_lines_p1 : GoodIn wsL_law wsL_lines_r1 := goodIn_r _ [810, 31, 32, 276, 277, 278, 6, 279, 16, 137, 280, 281, 696, 697, 2, 698, 200, 699, 700, 701, 702, 683, 684, 685] (by decide +kernel) (by decide +kernel)
set_option maxRecDepth 20000 in
theorem ggL_law_L_lines_p2 : GoodIn wsL_law wsL_lines_r2 := goodIn_r _ [686, 147, 148, 687, 388, 389, 58, 390, 191, 703, 704, 705, 15, 706, 44, 40, 142, 249, 305, 306, 251, 252, 253, 43] (by decide +kernel) (by decide +kernel)
set_option maxRecDepth 20000 in
theorem ggL_law_L_lines_p3 : GoodIn wsL_law wsL_lines_r3 := goodIn_r _ [254, 255, 256, 257, 81, 258, 259, 260, 261, 262, 263, 264, 265, 266, 469, 470, 471, 153, 154, 811, 106, 107, 108, 109] (by decide +kernel) (by decide +kernel)
set_option maxRecDepth 20000 in
theorem ggL_law_L_lines_p4 : GoodIn wsL_law wsL_lines_r4 := goodIn_r _ [110, 111, 112, 11, 12, 113, 114, 115, 116, 117, 118, 119, 120, 121, 122, 123, 124, 678, 679, 680, 681, 682, 812, 813] (by decide +kernel) (by decide +kernel)
set_option maxRecDepth 20000 in
theorem ggL_law_L_lines_p5 : GoodIn wsL_law wsL_lines_r5 := goodIn_r _ [814, 815, 816, 817, 818, 819, 820, 821, 822, 823, 824, 825, 826, 827, 828, 829, 830, 831, 832, 833, 834, 835, 836, 837] (by decide +kernel) (by decide +kernel)
