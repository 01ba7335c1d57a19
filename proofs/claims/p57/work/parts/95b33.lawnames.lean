/-! ===== the law's names, words 33 ===== -/
set_option maxRecDepth 20000 in
theorem ggL_law_L_undone_p30 : GoodIn wsL_law wsL_undone_r30 := goodIn_r _ [1206, 1207, 1208, 1209, 1210, 1211, 1212, 1213, 1214, 1215, 1216, 1217, 96, 1218, 1219, 1220, 1221, 1222, 1223, 1224, 1225, 1226, 1227, 1228] (by decide +kernel) (by decide +kernel)
set_option maxRecDepth 20000 in
theorem ggL_law_L_undone_p31 : GoodIn wsL_law wsL_undone_r31 := goodIn_r _ [1229, 1230, 1231, 1232, 1233, 1234, 1235, 1236, 1237, 1238, 1239, 1240, 1241, 1242, 1243, 1244, 1245, 1246, 1247, 1248, 1249, 1250, 1251, 1252] (by decide +kernel) (by decide +kernel)
set_option maxRecDepth 20000 in
theorem ggL_law_L_undone_p32 : GoodIn wsL_law wsL_undone_r32 := goodIn_r _ [1253, 1254, 1255, 1256, 1257, 1258, 287, 288, 289, 48, 290, 291, 292, 293, 294, 296, 297, 298, 299, 300, 301, 302, 303, 304] (by decide +kernel) (by decide +kernel)
set_option maxRecDepth 20000 in
theorem ggL_law_L_undone_p33 : GoodIn wsL_law wsL_undone_r33 := goodIn_r _ [305, 306, 307, 308, 309, 47, 310, 87, 311, 312, 313, 314, 89, 315, 316, 317, 318, 319, 320, 321, 322, 88, 323, 324] (by decide +kernel) (by decide +kernel)
set_option maxRecDepth 20000 in
theorem ggL_law_L_undone_p34 : GoodIn wsL_law wsL_undone_r34 := goodIn_r _ [325, 326, 327, 328, 329, 330, 331, 332, 333, 334, 335, 336, 337, 338, 339, 340, 341, 342, 343, 344, 345, 346, 347, 348] (by decide +kernel) (by decide +kernel)
set_option maxRecDepth 20000 in
theorem ggL_law_L_undone_p35 : GoodIn wsL_law wsL_undone_r35 := goodIn_r _ [349, 350, 351, 352, 354, 355, 356, 357, 358, 359, 282, 283, 284, 285, 286, 1259, 1260, 1261, 1262, 1263, 1264, 1265, 1266, 1267] (by decide +kernel) (by decide +kernel)
