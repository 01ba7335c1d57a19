/-! ===== the law's names, words 17 ===== -/
set_option maxRecDepth 20000 in
theorem ggL_law_L_subscribers_p6 : GoodIn wsL_law wsL_subscribers_r6 := goodIn_r _ [302, 303, 304, 48, 250, 307, 308, 309, 47, 310, 87, 311, 312, 313, 314, 89, 717, 320, 321, 322, 88, 323, 324, 325] (by decide +kernel) (by decide +kernel)
set_option maxRecDepth 20000 in
theorem ggL_law_L_subscribers_p7 : GoodIn wsL_law wsL_subscribers_r7 := goodIn_r _ [326, 327, 328, 329, 330, 331, 332, 333, 334, 335, 336, 337, 338, 339, 340, 341, 718, 719, 720, 721, 722, 723, 724, 725] (by decide +kernel) (by decide +kernel)
set_option maxRecDepth 20000 in
theorem ggL_law_L_subscribers_p8 : GoodIn wsL_law wsL_subscribers_r8 := goodIn_r _ [642, 643, 644, 645, 646, 647, 648, 649, 90, 650, 651, 652, 653, 654, 655, 656, 657, 658, 659, 660, 661, 662, 726, 727] (by decide +kernel) (by decide +kernel)
set_option maxRecDepth 20000 in
theorem ggL_law_L_subscribers_p9 : GoodIn wsL_law wsL_subscribers_r9 := goodIn_r _ [728, 729, 730, 731, 732, 733, 734, 735, 736, 737, 738, 739, 740, 741, 742, 298, 299, 300, 301, 315, 316, 317, 318, 319] (by decide +kernel) (by decide +kernel)
set_option maxRecDepth 20000 in
theorem ggL_law_L_subscribers_p10 : GoodIn wsL_law wsL_subscribers_r10 := goodIn_r _ [342, 343, 344, 345, 346, 347, 743, 744, 745, 746, 747, 748, 749, 750, 751, 752, 753, 754, 755, 756, 757, 758, 759, 760] (by decide +kernel) (by decide +kernel)
set_option maxRecDepth 20000 in
theorem ggL_law_L_subscribers_p11 : GoodIn wsL_law wsL_subscribers_r11 := goodIn_r _ [761, 762, 763, 764, 765, 766, 767, 768, 769, 770, 771, 772, 773, 774, 76, 500, 501, 502, 503, 504, 775, 776, 777, 778] (by decide +kernel) (by decide +kernel)
