/-! ===== the law's names, 10 (6) ===== -/
set_option maxRecDepth 20000 in
theorem ggL_law_X11_execute_p5 : GoodIn wsL_law wsX11_execute_r5 := goodIn_r _ [220, 198, 199, 200, 1545, 1546, 1547, 1548, 671, 672, 673, 674, 675, 676, 677, 678, 679, 680, 681, 682, 283, 284, 285, 286] (by decide +kernel) (by decide +kernel)
set_option maxRecDepth 20000 in
theorem ggL_law_X11_execute_p6 : GoodIn wsL_law wsX11_execute_r6 := goodIn_r _ [287, 288, 289, 290, 294, 295, 296, 297, 298, 299, 300, 301, 302, 303, 304, 305, 330, 331, 332, 333, 638, 639, 640, 641] (by decide +kernel) (by decide +kernel)
set_option maxRecDepth 20000 in
theorem ggL_law_X11_execute_p7 : GoodIn wsL_law wsX11_execute_r7 := goodIn_r _ [134, 515, 516, 517, 518, 519, 520, 178, 179, 180, 433, 434, 435, 436, 702, 703, 704, 705, 706, 707, 708, 709, 944, 945] (by decide +kernel) (by decide +kernel)
set_option maxRecDepth 20000 in
theorem ggL_law_X11_execute_p8 : GoodIn wsL_law wsX11_execute_r8 := goodIn_r _ [946, 947, 1002, 1003, 1004, 1005, 136, 578, 261, 262, 1006, 1007, 1008, 1009, 786, 787, 788, 789, 135, 574, 575, 576, 577, 862] (by decide +kernel) (by decide +kernel)
set_option maxRecDepth 20000 in
theorem ggL_law_X11_execute_p9 : GoodIn wsL_law wsX11_execute_r9 := goodIn_r _ [863, 864, 865, 866, 867, 868, 1010, 1011, 1012, 1013, 221, 222, 223, 224, 229, 230, 231, 232, 233, 133] (by decide +kernel) (by decide +kernel)
