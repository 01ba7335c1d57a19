/-! ===== the law's names, words 43 ===== -/
set_option maxRecDepth 20000 in
theorem ggL_undone_L_execute_p6 : GoodIn wsL_undone wsL_execute_r6 := goodIn_r _ [694, 695, 696, 697, 698, 699, 700, 701, 702, 703, 704, 705, 706, 707, 708, 709, 710, 711, 712, 713, 714, 715, 716, 717] (by decide +kernel) (by decide +kernel)
set_option maxRecDepth 20000 in
theorem ggL_undone_L_execute_p7 : GoodIn wsL_undone wsL_execute_r7 := goodIn_r _ [201, 202, 203, 204, 205, 206, 207, 208, 209, 210, 211, 212, 213, 214, 215, 87, 216, 89, 101, 102, 217, 218, 219, 220] (by decide +kernel) (by decide +kernel)
set_option maxRecDepth 20000 in
theorem ggL_undone_L_execute_p8 : GoodIn wsL_undone wsL_execute_r8 := goodIn_r _ [103, 221, 222, 223, 224, 225, 226, 137, 227, 139, 228, 229, 230, 231, 232, 233, 718, 719, 720, 721, 722, 177, 723, 724] (by decide +kernel) (by decide +kernel)
set_option maxRecDepth 20000 in
theorem ggL_undone_L_execute_p9 : GoodIn wsL_undone wsL_execute_r9 := goodIn_r _ [725, 726, 727, 728, 729, 730, 731, 732, 733, 734, 735, 736, 175, 176, 178, 179, 180, 181, 737, 247, 248, 249, 250, 251] (by decide +kernel) (by decide +kernel)
set_option maxRecDepth 20000 in
theorem ggL_undone_L_execute_p10 : GoodIn wsL_undone wsL_execute_r10 := goodIn_r _ [85, 86, 88, 252, 91, 92, 93, 94, 95, 97, 98, 738, 277, 278, 279, 739, 297, 298, 299, 300, 301, 302, 303, 304] (by decide +kernel) (by decide +kernel)
set_option maxRecDepth 20000 in
theorem ggL_undone_L_execute_p11 : GoodIn wsL_undone wsL_execute_r11 := goodIn_r _ [305, 306, 307, 308, 309, 310, 311, 312, 313, 314, 315, 316, 317, 318, 319, 320, 740, 360, 361, 362, 341, 135, 136, 138] (by decide +kernel) (by decide +kernel)
