/-! ===== the law's names, words 45 ===== -/
set_option maxRecDepth 20000 in
theorem ggL_undone_L_execute_p18 : GoodIn wsL_undone wsL_execute_r18 := goodIn_r _ [193, 194, 195, 196, 197, 198, 199, 200] (by decide +kernel) (by decide +kernel)
set_option maxRecDepth 20000 in
theorem ggL_undone_L_execute_wsJ00 : GoodIn wsL_undone wsJ00 := goodIn_r _ [887, 888, 889, 890] (by decide +kernel) (by decide +kernel)
set_option maxRecDepth 20000 in
theorem ggL_undone_L_execute_wsX100 : GoodIn wsL_undone wsX100 := goodIn_r _ [848, 849, 850, 851, 852, 853, 854, 855, 856] (by decide +kernel) (by decide +kernel)
set_option maxRecDepth 20000 in
theorem ggL_undone_L_execute_wsX60 : GoodIn wsL_undone wsX60 := goodIn_r _ [891, 892, 893, 894, 895] (by decide +kernel) (by decide +kernel)
set_option maxRecDepth 20000 in
theorem ggL_undone_L_execute_wsX40 : GoodIn wsL_undone wsX40 := goodIn_r _ [857, 858, 859] (by decide +kernel) (by decide +kernel)
set_option maxRecDepth 20000 in
theorem ggL_undone_L_execute_wsX90 : GoodIn wsL_undone wsX90 := goodIn_r _ [860, 861, 862, 863, 864, 865, 866, 867] (by decide +kernel) (by decide +kernel)
