/-! ===== the law's names, words 32 ===== -/
set_option maxRecDepth 20000 in
theorem ggL_law_L_undone_p24 : GoodIn wsL_law wsL_undone_r24 := goodIn_r _ [889, 890, 891, 962, 963, 964, 965, 966, 967, 968, 969, 970, 971, 972, 973, 974, 975, 976, 977, 978, 979, 980, 981, 982] (by decide +kernel) (by decide +kernel)
set_option maxRecDepth 20000 in
theorem ggL_law_L_undone_p25 : GoodIn wsL_law wsL_undone_r25 := goodIn_r _ [983, 984, 985, 986, 987, 988, 989, 990, 991, 992, 993, 994, 995, 996, 997, 998, 999, 1000, 1001, 1002, 1003, 1004, 1005, 1006] (by decide +kernel) (by decide +kernel)
set_option maxRecDepth 20000 in
theorem ggL_law_L_undone_p26 : GoodIn wsL_law wsL_undone_r26 := goodIn_r _ [1007, 1008, 1009, 1010, 1011, 1012, 1013, 1149, 1150, 1151, 1078, 1097, 1098, 1099, 1100, 1101, 1102, 1103, 1104, 1105, 1106, 1107, 1108, 1068] (by decide +kernel) (by decide +kernel)
set_option maxRecDepth 20000 in
theorem ggL_law_L_undone_p27 : GoodIn wsL_law wsL_undone_r27 := goodIn_r _ [1069, 1070, 1071, 1072, 1109, 1110, 1111, 1064, 1065, 1066, 1067, 1152, 1153, 1154, 1155, 1156, 1157, 1158, 20, 1159, 1160, 1161, 19, 1162] (by decide +kernel) (by decide +kernel)
set_option maxRecDepth 20000 in
theorem ggL_law_L_undone_p28 : GoodIn wsL_law wsL_undone_r28 := goodIn_r _ [1163, 1164, 1165, 1166, 1167, 98, 1168, 1169, 1170, 1171, 1172, 1173, 1174, 1175, 1176, 34, 29, 1177, 1178, 35, 1179, 1180, 1181, 1182] (by decide +kernel) (by decide +kernel)
set_option maxRecDepth 20000 in
theorem ggL_law_L_undone_p29 : GoodIn wsL_law wsL_undone_r29 := goodIn_r _ [1183, 1184, 1185, 1186, 1187, 1188, 1189, 1190, 1191, 1192, 1193, 1194, 1195, 1196, 1197, 1198, 1199, 1200, 1201, 95, 1202, 1203, 1204, 1205] (by decide +kernel) (by decide +kernel)
