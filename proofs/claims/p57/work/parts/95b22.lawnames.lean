/-! ===== the law's names, words 22 ===== -/
set_option maxRecDepth 20000 in
theorem ggL_law_L_lines_p6 : GoodIn wsL_law wsL_lines_r6 := goodIn_r _ [838, 839, 840, 841, 220, 165, 221, 842, 843, 844, 845, 846, 847, 848, 849, 850, 851, 852, 853, 854, 855, 856, 164, 166] (by decide +kernel) (by decide +kernel)
set_option maxRecDepth 20000 in
theorem ggL_law_L_lines_p7 : GoodIn wsL_law wsL_lines_r7 := goodIn_r _ [857, 184, 185, 186, 858, 859, 860, 861, 862, 863, 864, 865, 866, 867, 868, 869, 870, 871, 872, 873, 874, 875, 876, 877] (by decide +kernel) (by decide +kernel)
set_option maxRecDepth 20000 in
theorem ggL_law_L_lines_p8 : GoodIn wsL_law wsL_lines_r8 := goodIn_r _ [878, 879, 880, 881, 882, 883, 884, 885, 886, 887, 888, 889, 890, 891, 892, 893, 894, 895, 896, 897, 898, 899, 900, 901] (by decide +kernel) (by decide +kernel)
set_option maxRecDepth 20000 in
theorem ggL_law_L_lines_p9 : GoodIn wsL_law wsL_lines_r9 := goodIn_r _ [902, 903, 904, 905, 906, 907, 908, 909, 910, 911, 912, 913, 914, 915, 916, 917, 918, 919, 920, 921, 922, 923, 924, 925] (by decide +kernel) (by decide +kernel)
set_option maxRecDepth 20000 in
theorem ggL_law_L_lines_p10 : GoodIn wsL_law wsL_lines_r10 := goodIn_r _ [926, 927, 928, 929, 930, 931, 932, 933, 934, 935, 936, 937, 938, 939, 940, 941, 942, 943, 944, 945, 946, 947, 948, 949] (by decide +kernel) (by decide +kernel)
set_option maxRecDepth 20000 in
theorem ggL_law_L_lines_p11 : GoodIn wsL_law wsL_lines_r11 := goodIn_r _ [950, 951, 952, 953, 954, 955, 956, 957, 958, 959, 960, 961, 691, 692, 693, 694, 695, 729, 730, 731, 732, 733, 962, 963] (by decide +kernel) (by decide +kernel)
