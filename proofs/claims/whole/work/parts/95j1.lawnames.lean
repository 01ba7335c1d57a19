/-! ===== the law's names, 10 (1) ===== -/
set_option maxRecDepth 20000 in
theorem ggL_law_L_execute_p0 : GoodIn wsL_law [.codeWith yL_execute cL_execute 3 (some .int) [(0, 8, 11, 21), (0, 8, 14, 13)]] := goodIn_r _ [1399] (by decide +kernel) (by decide +kernel)
set_option maxRecDepth 20000 in
theorem ggL_law_L_execute_p1 : GoodIn wsL_law wsL_execute_r1 := goodIn_r _ [926, 1400, 1401, 1402, 2, 1403, 163, 164, 165, 166, 21, 1404, 35, 30, 17, 151, 1405, 1406, 36, 25, 1407, 1408, 1409, 20] (by decide +kernel) (by decide +kernel)
set_option maxRecDepth 20000 in
theorem ggL_law_L_execute_p2 : GoodIn wsL_law wsL_execute_r2 := goodIn_r _ [1410, 1411, 1386, 1412, 1413, 1414, 1415, 1416, 1417, 1418, 1419, 1420, 1421, 1422, 1423, 99, 1424, 1425, 1426, 1427, 1428, 1429, 96, 1430] (by decide +kernel) (by decide +kernel)
set_option maxRecDepth 20000 in
theorem ggL_law_L_execute_p3 : GoodIn wsL_law wsL_execute_r3 := goodIn_r _ [261, 179, 262, 1431, 1432, 1433, 1434, 1435, 1436, 1437, 1229, 1438, 1439, 1440, 1441, 1442, 1443, 1444, 1445, 1446, 1447, 1448, 1449, 1450] (by decide +kernel) (by decide +kernel)
set_option maxRecDepth 20000 in
theorem ggL_law_L_execute_p4 : GoodIn wsL_law wsL_execute_r4 := goodIn_r _ [1451, 1452, 1453, 1454, 1455, 1184, 1456, 1457, 1284, 1285, 1231, 1286, 1287, 1234, 1288, 1458, 1459, 120, 1460, 1280, 1281, 1282, 1224, 1225] (by decide +kernel) (by decide +kernel)
