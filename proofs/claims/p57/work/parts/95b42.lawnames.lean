/-! ===== the law's names, words 42 ===== -/
set_option maxRecDepth 20000 in
theorem ggL_undone_L_execute_p0 : GoodIn wsL_undone [.code yL_execute cL_execute 3 (some .int)] := goodIn_r _ [610] (by decide +kernel) (by decide +kernel)
set_option maxRecDepth 20000 in
theorem ggL_undone_L_execute_p1 : GoodIn wsL_undone wsL_execute_r1 := goodIn_r _ [611, 483, 484, 470, 485, 486, 487, 488, 489, 490, 491, 492, 612, 613, 614, 615, 616, 617, 618, 619, 620, 621, 511, 622] (by decide +kernel) (by decide +kernel)
set_option maxRecDepth 20000 in
theorem ggL_undone_L_execute_p2 : GoodIn wsL_undone wsL_execute_r2 := goodIn_r _ [623, 624, 625, 472, 626, 627, 475, 628, 629, 630, 400, 631, 632, 633, 634, 465, 466, 467, 635, 601, 602, 603, 461, 480] (by decide +kernel) (by decide +kernel)
set_option maxRecDepth 20000 in
theorem ggL_undone_L_execute_p3 : GoodIn wsL_undone wsL_execute_r3 := goodIn_r _ [481, 636, 637, 7, 638, 370, 639, 640, 641, 24, 642, 185, 186, 187, 188, 643, 644, 645, 646, 647, 648, 649, 650, 651] (by decide +kernel) (by decide +kernel)
set_option maxRecDepth 20000 in
theorem ggL_undone_L_execute_p4 : GoodIn wsL_undone wsL_execute_r4 := goodIn_r _ [652, 653, 654, 655, 656, 657, 658, 659, 660, 661, 662, 663, 664, 665, 26, 27, 666, 667, 668, 173, 669, 670, 671, 672] (by decide +kernel) (by decide +kernel)
set_option maxRecDepth 20000 in
theorem ggL_undone_L_execute_p5 : GoodIn wsL_undone wsL_execute_r5 := goodIn_r _ [673, 674, 675, 676, 677, 678, 679, 680, 681, 682, 683, 684, 685, 686, 687, 688, 689, 690, 691, 692, 693, 99, 96, 100] (by decide +kernel) (by decide +kernel)
