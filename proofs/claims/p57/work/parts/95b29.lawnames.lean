/-! ===== the law's names, words 29 ===== -/
set_option maxRecDepth 20000 in
theorem ggL_law_L_undone_p6 : GoodIn wsL_law wsL_undone_r6 := goodIn_r _ [278, 279, 280, 281, 678, 679, 680, 681, 682, 683, 684, 685, 686, 687, 388, 389, 58, 390, 191, 691, 692, 693, 694, 695] (by decide +kernel) (by decide +kernel)
set_option maxRecDepth 20000 in
theorem ggL_law_L_undone_p7 : GoodIn wsL_law wsL_undone_r7 := goodIn_r _ [729, 730, 731, 732, 733, 746, 747, 748, 749, 750, 754, 755, 756, 757, 758, 438, 439, 440, 441, 443, 129, 130, 131, 132] (by decide +kernel) (by decide +kernel)
set_option maxRecDepth 20000 in
theorem ggL_law_L_undone_p8 : GoodIn wsL_law wsL_undone_r8 := goodIn_r _ [133, 134, 135, 136, 24, 138, 139, 140, 15, 141, 40, 142, 143, 144, 145, 146, 149, 150, 151, 152, 155, 156, 157, 158] (by decide +kernel) (by decide +kernel)
set_option maxRecDepth 20000 in
theorem ggL_law_L_undone_p9 : GoodIn wsL_law wsL_undone_r9 := goodIn_r _ [159, 23, 160, 104, 161, 162, 163, 167, 168, 169, 27, 170, 55, 59, 171, 172, 173, 174, 175, 176, 177, 178, 179, 180] (by decide +kernel) (by decide +kernel)
set_option maxRecDepth 20000 in
theorem ggL_law_L_undone_p10 : GoodIn wsL_law wsL_undone_r10 := goodIn_r _ [183, 184, 185, 186, 66, 67, 68, 187, 188, 189, 190, 72, 192, 73, 74, 75, 76, 193, 194, 195, 196, 197, 198, 199] (by decide +kernel) (by decide +kernel)
set_option maxRecDepth 20000 in
theorem ggL_law_L_undone_p11 : GoodIn wsL_law wsL_undone_r11 := goodIn_r _ [200, 201, 202, 203, 204, 205, 206, 207, 208, 209, 210, 214, 222, 223, 224, 225, 226, 227, 228, 229, 230, 231, 232, 233] (by decide +kernel) (by decide +kernel)
