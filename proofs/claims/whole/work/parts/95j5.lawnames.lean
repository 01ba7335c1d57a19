/-! ===== the law's names, 10 (5) ===== -/
set_option maxRecDepth 20000 in
theorem ggL_law_X11_execute_p0 : GoodIn wsL_law [.code yX11_execute cX11_execute 2 (some .int)] := goodIn_r _ [1515] (by decide +kernel) (by decide +kernel)
set_option maxRecDepth 20000 in
theorem ggL_law_X11_execute_p1 : GoodIn wsL_law wsX11_execute_r1 := goodIn_r _ [1516, 1517, 1518, 1396, 139, 219, 140, 1519, 1520, 1521, 5, 1522, 1523, 1524, 1525, 1526, 138, 1527, 1528, 1529, 1530, 141, 1531, 1532] (by decide +kernel) (by decide +kernel)
set_option maxRecDepth 20000 in
theorem ggL_law_X11_execute_p2 : GoodIn wsL_law wsX11_execute_r2 := goodIn_r _ [1533, 1534, 1535, 1436, 1437, 1229, 1438, 1439, 1440, 1441, 1442, 1443, 1444, 1445, 1536, 1447, 1448, 1449, 1450, 1451, 1452, 1453, 1454, 1455] (by decide +kernel) (by decide +kernel)
set_option maxRecDepth 20000 in
theorem ggL_law_X11_execute_p3 : GoodIn wsL_law wsX11_execute_r3 := goodIn_r _ [1184, 1456, 1457, 1284, 1285, 1231, 1286, 1287, 1234, 1288, 1458, 1459, 120, 1460, 1280, 1281, 1282, 1224, 1225, 1226, 1283, 1461, 1339, 1340] (by decide +kernel) (by decide +kernel)
set_option maxRecDepth 20000 in
theorem ggL_law_X11_execute_p4 : GoodIn wsL_law wsX11_execute_r4 := goodIn_r _ [1220, 1244, 1245, 1537, 1538, 1539, 1540, 1541, 1542, 1543, 1544, 291, 292, 293, 225, 226, 227, 228, 215, 216, 217, 218, 130, 131] (by decide +kernel) (by decide +kernel)
