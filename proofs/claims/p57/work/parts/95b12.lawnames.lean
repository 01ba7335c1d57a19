/-! ===== the law's names, words 12 ===== -/
set_option maxRecDepth 20000 in
theorem ggL_law_L_routes_p6 : GoodIn wsL_law wsL_routes_r6 := goodIn_r _ [575, 576, 577, 578, 579, 580, 581, 582, 583, 584, 585, 586, 587, 588, 589, 590, 591, 592, 593, 594, 595, 596, 149, 150] (by decide +kernel) (by decide +kernel)
set_option maxRecDepth 20000 in
theorem ggL_law_L_routes_p7 : GoodIn wsL_law wsL_routes_r7 := goodIn_r _ [597, 252, 253, 254, 81, 259, 260, 261, 262, 263, 264, 265, 266, 598, 599, 600, 601, 602, 603, 604, 605, 606, 607, 608] (by decide +kernel) (by decide +kernel)
set_option maxRecDepth 20000 in
theorem ggL_law_L_routes_p8 : GoodIn wsL_law wsL_routes_r8 := goodIn_r _ [609, 610, 611, 612, 613, 614, 615, 616, 617, 618, 619, 620, 621, 622, 623, 624, 625, 626, 627, 15, 628, 40, 142, 143] (by decide +kernel) (by decide +kernel)
set_option maxRecDepth 20000 in
theorem ggL_law_L_routes_p9 : GoodIn wsL_law wsL_routes_r9 := goodIn_r _ [629, 630, 631, 632, 44, 633, 634, 251, 635, 636, 637, 638, 639, 48, 249, 250, 292, 301, 302, 303, 304, 305, 306, 307] (by decide +kernel) (by decide +kernel)
set_option maxRecDepth 20000 in
theorem ggL_law_L_routes_p10 : GoodIn wsL_law wsL_routes_r10 := goodIn_r _ [308, 309, 47, 310, 87, 311, 312, 313, 314, 89, 640, 320, 321, 322, 88, 323, 324, 325, 326, 327, 328, 329, 330, 331] (by decide +kernel) (by decide +kernel)
set_option maxRecDepth 20000 in
theorem ggL_law_L_routes_p11 : GoodIn wsL_law wsL_routes_r11 := goodIn_r _ [332, 333, 334, 335, 336, 337, 338, 339, 340, 341, 641, 642, 643, 644, 645, 646, 647, 648, 649, 90, 650, 651, 652, 653] (by decide +kernel) (by decide +kernel)
