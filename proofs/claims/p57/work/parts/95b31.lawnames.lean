/-! ===== the law's names, words 31 ===== -/
set_option maxRecDepth 20000 in
theorem ggL_law_L_undone_p18 : GoodIn wsL_law wsL_undone_r18 := goodIn_r _ [900, 901, 902, 818, 903, 904, 821, 905, 906, 907, 908, 909, 826, 827, 828, 829, 830, 831, 832, 833, 834, 835, 836, 837] (by decide +kernel) (by decide +kernel)
set_option maxRecDepth 20000 in
theorem ggL_law_L_undone_p19 : GoodIn wsL_law wsL_undone_r19 := goodIn_r _ [838, 839, 840, 841, 842, 843, 844, 845, 846, 847, 848, 849, 850, 851, 852, 853, 854, 855, 856, 857, 858, 859, 860, 861] (by decide +kernel) (by decide +kernel)
set_option maxRecDepth 20000 in
theorem ggL_law_L_undone_p20 : GoodIn wsL_law wsL_undone_r20 := goodIn_r _ [862, 910, 911, 912, 871, 872, 873, 874, 875, 876, 877, 878, 879, 880, 881, 882, 883, 884, 885, 886, 892, 893, 894, 895] (by decide +kernel) (by decide +kernel)
set_option maxRecDepth 20000 in
theorem ggL_law_L_undone_p21 : GoodIn wsL_law wsL_undone_r21 := goodIn_r _ [896, 913, 914, 915, 916, 917, 918, 919, 920, 921, 922, 923, 924, 925, 926, 927, 928, 929, 930, 931, 932, 933, 934, 935] (by decide +kernel) (by decide +kernel)
set_option maxRecDepth 20000 in
theorem ggL_law_L_undone_p22 : GoodIn wsL_law wsL_undone_r22 := goodIn_r _ [936, 937, 938, 939, 940, 941, 942, 943, 944, 945, 946, 947, 948, 949, 950, 951, 952, 953, 954, 955, 956, 957, 958, 959] (by decide +kernel) (by decide +kernel)
set_option maxRecDepth 20000 in
theorem ggL_law_L_undone_p23 : GoodIn wsL_law wsL_undone_r23 := goodIn_r _ [960, 961, 812, 813, 814, 815, 816, 817, 819, 820, 822, 823, 824, 825, 863, 864, 865, 866, 867, 868, 869, 870, 887, 888] (by decide +kernel) (by decide +kernel)
