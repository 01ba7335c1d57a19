/-! ===== the law's names, 10 (2) ===== -/
set_option maxRecDepth 20000 in
theorem ggL_law_L_execute_p5 : GoodIn wsL_law wsL_execute_r5 := goodIn_r _ [1226, 1283, 1461, 1339, 1340, 1220, 1244, 1245, 1462, 1463, 1464, 1465, 1466, 1467, 1468, 1469, 1470, 97, 1471, 1472, 1473, 1474, 1475, 1476] (by decide +kernel) (by decide +kernel)
set_option maxRecDepth 20000 in
theorem ggL_law_L_execute_p6 : GoodIn wsL_law wsL_execute_r6 := goodIn_r _ [1477, 1478, 182, 183, 28, 184, 56, 60, 185, 186, 187, 188, 189, 190, 191, 192, 193, 55, 194, 195, 196, 65, 197, 198] (by decide +kernel) (by decide +kernel)
set_option maxRecDepth 20000 in
theorem ggL_law_L_execute_p7 : GoodIn wsL_law wsL_execute_r7 := goodIn_r _ [199, 200, 66, 67, 68, 69, 201, 202, 203, 59, 204, 205, 73, 206, 74, 75, 76, 77, 1479, 1480, 1481, 1482, 1483, 16] (by decide +kernel) (by decide +kernel)
set_option maxRecDepth 20000 in
theorem ggL_law_L_execute_p8 : GoodIn wsL_law wsL_execute_r8 := goodIn_r _ [1484, 1485, 1486, 1487, 1488, 1489, 1490, 1491, 1492, 1493, 1494, 1495, 1496, 1497, 153, 154, 155, 41, 156, 157, 1498, 247, 248, 249] (by decide +kernel) (by decide +kernel)
set_option maxRecDepth 20000 in
theorem ggL_law_L_execute_p9 : GoodIn wsL_law wsL_execute_r9 := goodIn_r _ [250, 251, 252, 253, 254, 255, 256, 257, 258, 259, 178, 180, 260, 1499, 314, 315, 316, 1500, 619, 620, 621, 622, 623, 45] (by decide +kernel) (by decide +kernel)
