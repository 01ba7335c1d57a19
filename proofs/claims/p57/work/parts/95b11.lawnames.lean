/-! ===== the law's names, words 11 ===== -/
set_option maxRecDepth 20000 in
theorem ggL_law_L_routes_p0 : GoodIn wsL_law [.code yL_routes cL_routes 10 (some .boolean)] := goodIn_r _ [532] (by decide +kernel) (by decide +kernel)
set_option maxRecDepth 20000 in
theorem ggL_law_L_routes_p1 : GoodIn wsL_law wsL_routes_r1 := goodIn_r _ [533, 438, 439, 440, 6, 441, 16, 137, 442, 443, 534, 535, 2, 536, 200, 537, 538, 539, 540, 541, 451, 452, 453, 454] (by decide +kernel) (by decide +kernel)
set_option maxRecDepth 20000 in
theorem ggL_law_L_routes_p2 : GoodIn wsL_law wsL_routes_r2 := goodIn_r _ [147, 148, 455, 211, 212, 54, 213, 181, 542, 543, 544, 43, 545, 546, 80, 83, 547, 548, 549, 550, 551, 552, 553, 554] (by decide +kernel) (by decide +kernel)
set_option maxRecDepth 20000 in
theorem ggL_law_L_routes_p3 : GoodIn wsL_law wsL_routes_r3 := goodIn_r _ [555, 556, 557, 558, 255, 258, 256, 257, 559, 560, 561, 562, 563, 469, 470, 471, 153, 154, 564, 565, 566, 567, 164, 165] (by decide +kernel) (by decide +kernel)
set_option maxRecDepth 20000 in
theorem ggL_law_L_routes_p4 : GoodIn wsL_law wsL_routes_r4 := goodIn_r _ [166, 444, 445, 446, 447, 448, 449, 450, 456, 215, 216, 217, 218, 219, 220, 221, 182, 64, 65, 457, 458, 459, 460, 461] (by decide +kernel) (by decide +kernel)
set_option maxRecDepth 20000 in
theorem ggL_law_L_routes_p5 : GoodIn wsL_law wsL_routes_r5 := goodIn_r _ [462, 463, 464, 465, 466, 467, 468, 480, 481, 482, 483, 484, 568, 569, 570, 571, 572, 573, 574, 476, 472, 473, 474, 475] (by decide +kernel) (by decide +kernel)
