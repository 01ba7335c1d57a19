/-! ===== the law's names, words 44 ===== -/
set_option maxRecDepth 20000 in
theorem ggL_undone_L_execute_p12 : GoodIn wsL_undone wsL_execute_r12 := goodIn_r _ [741, 338, 339, 340, 742, 376, 377, 378, 743, 235, 236, 237, 744, 254, 255, 256, 257, 258, 259, 260, 261, 262, 263, 264] (by decide +kernel) (by decide +kernel)
set_option maxRecDepth 20000 in
theorem ggL_undone_L_execute_p13 : GoodIn wsL_undone wsL_execute_r13 := goodIn_r _ [265, 266, 267, 268, 745, 281, 282, 283, 284, 285, 286, 287, 288, 746, 322, 323, 324, 325, 326, 327, 328, 329, 747, 364] (by decide +kernel) (by decide +kernel)
set_option maxRecDepth 20000 in
theorem ggL_undone_L_execute_p14 : GoodIn wsL_undone wsL_execute_r14 := goodIn_r _ [365, 366, 346, 748, 343, 344, 345, 347, 348, 349, 350, 351, 749, 380, 381, 382, 383, 750, 751, 752, 753, 754, 755, 756] (by decide +kernel) (by decide +kernel)
set_option maxRecDepth 20000 in
theorem ggL_undone_L_execute_p15 : GoodIn wsL_undone wsL_execute_r15 := goodIn_r _ [757, 758, 759, 760, 761, 762, 763, 764, 765, 766, 767, 768, 769, 770, 771, 772, 773, 774, 775, 776, 777, 778, 779, 780] (by decide +kernel) (by decide +kernel)
set_option maxRecDepth 20000 in
theorem ggL_undone_L_execute_p16 : GoodIn wsL_undone wsL_execute_r16 := goodIn_r _ [781, 782, 783, 784, 785, 786, 787, 788, 789, 790, 791, 792, 793, 794, 795, 796, 797, 798, 799, 800, 801, 802, 803, 804] (by decide +kernel) (by decide +kernel)
set_option maxRecDepth 20000 in
theorem ggL_undone_L_execute_p17 : GoodIn wsL_undone wsL_execute_r17 := goodIn_r _ [805, 806, 807, 808, 809, 810, 811, 812, 813, 814, 815, 816, 817, 818, 819, 820, 821, 822, 823, 824, 825, 826, 191, 192] (by decide +kernel) (by decide +kernel)
