/-! ===== the law's names, words 41 ===== -/
set_option maxRecDepth 20000 in
theorem gL_undone_J4_append_bf812 : GoodIn wsL_undone (wsV RL 313 RJ4 yJ4_append_bf812 wsJ4_append_bf812) := goodIn_app (goodIn_of _ (by decide +kernel)) ggL_undone_J4_append_bf812
set_option maxRecDepth 20000 in
theorem ggL_undone_J4_toString_0e30d : GoodIn wsL_undone wsJ4_toString_0e30d := goodIn_r _ [559, 560, 561, 470, 562, 563, 564, 565, 566, 567, 568, 392, 393, 492, 486, 491, 569, 570, 571, 572, 573, 389, 574, 396, 575, 576, 577, 578, 579, 4, 580, 581, 412, 582, 583, 415, 584, 454, 455, 456, 457, 394, 397, 585, 586, 443, 587, 445, 446, 447, 448, 449, 450, 588, 589, 590, 395, 451, 95, 96, 97, 452, 218, 219, 220, 591, 592, 593, 594, 3, 595, 596, 400, 597, 598, 599, 600, 516, 517, 518, 465, 466, 467, 519, 520, 521, 472, 522, 523, 475, 524, 601, 602, 603, 461, 480, 481, 402, 403, 404, 405, 604, 605, 606, 607, 887, 888, 889, 890, 844, 845, 846, 847] (by decide +kernel) (by decide +kernel)
set_option maxRecDepth 20000 in
theorem gL_undone_J4_toString_0e30d : GoodIn wsL_undone (wsV RL 328 RJ4 yJ4_toString_0e30d wsJ4_toString_0e30d) := goodIn_app (goodIn_of _ (by decide +kernel)) ggL_undone_J4_toString_0e30d
