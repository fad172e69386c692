set_option maxRecDepth 20000 in
theorem ggL_law_X11_sentence_0 : GoodIn wsL_law ((wsX11_sentence.drop 0).take 48) := goodIn_r _ [1375, 18, 14, 37, 22, 236, 237, 238, 239, 2, 240, 209, 241, 17, 242, 243, 67, 244, 245, 246, 247, 248, 249, 250, 251, 252, 253, 254, 255, 256, 68, 69, 257, 258, 259, 260, 261, 262, 263, 264, 265, 266, 267, 268, 269, 270, 271, 272] (by decide +kernel) (by decide +kernel)
set_option maxRecDepth 20000 in
theorem ggL_law_X11_sentence_48 : GoodIn wsL_law ((wsX11_sentence.drop 48).take 48) := goodIn_r _ [273, 274, 275, 276, 277, 278, 279, 280, 281, 282, 283, 284, 285, 286, 287, 288, 289, 290, 291, 292, 293, 294, 295, 296, 297, 298, 299, 300, 301, 302, 303, 304, 305, 306, 148, 307, 308, 309, 310, 311, 312, 313, 314, 315, 316, 317, 318, 319] (by decide +kernel) (by decide +kernel)
set_option maxRecDepth 20000 in
theorem ggL_law_X11_sentence_96 : GoodIn wsL_law ((wsX11_sentence.drop 96).take 48) := goodIn_r _ [320, 1376, 36, 1377, 1378, 1379, 423, 424, 425, 426, 427, 1380, 1381, 1382, 1383, 1384, 1385, 1386, 1387, 339, 340, 341, 1388, 1389, 1390, 1391, 102, 103, 104, 1392, 1393, 1394, 1395, 1396, 1397, 1398, 1399, 1400, 1401, 1402, 1403, 400, 401, 402, 346, 347, 348, 396] (by decide +kernel) (by decide +kernel)
set_option maxRecDepth 20000 in
theorem ggL_law_X11_sentence_144 : GoodIn wsL_law ((wsX11_sentence.drop 144).take 48) := goodIn_r _ [397, 398, 399, 357, 1404, 1405, 1406, 1407, 371, 372, 373, 356, 358, 359, 1408, 1409, 1410, 1411, 360, 361, 362, 403, 404, 405, 406, 328, 329, 330, 1412, 1413, 1414, 1517, 1518, 1519, 1520, 1521, 1522, 1523, 1524, 1525, 1526, 1527, 1528, 1529, 1530, 1531, 1532, 1533] (by decide +kernel) (by decide +kernel)
set_option maxRecDepth 20000 in
theorem ggL_law_X11_sentence_192 : GoodIn wsL_law (wsX11_sentence.drop 192) := goodIn_r _ [1534, 1535, 1596, 1597, 1598, 1585, 1586, 1587, 1588, 1589, 1590, 1591, 1592, 1593, 1594, 1595, 1613, 1614, 1615, 1616, 1617, 1618, 1602, 1603, 1604, 1605, 1606, 1607, 1608, 1609, 1610, 1611, 1612] (by decide +kernel) (by decide +kernel)
theorem ggL_law_X11_sentence : GoodIn wsL_law wsX11_sentence := by
  rw [show wsX11_sentence = wsX11_sentence.drop 0 from rfl]
  exact (goodIn_td (n := 48) ggL_law_X11_sentence_0 (by rw [List.drop_drop]; exact (goodIn_td (n := 48) ggL_law_X11_sentence_48 (by rw [List.drop_drop]; exact (goodIn_td (n := 48) ggL_law_X11_sentence_96 (by rw [List.drop_drop]; exact (goodIn_td (n := 48) ggL_law_X11_sentence_144 (by rw [List.drop_drop]; exact ggL_law_X11_sentence_192))))))))
set_option maxRecDepth 20000 in
theorem ggL_law_X12_sentence_0 : GoodIn wsL_law ((wsX12_sentence.drop 0).take 48) := goodIn_r _ [1418, 218, 436, 1419, 1420, 1421, 1422, 1423, 438, 439, 159, 161, 441, 442, 443, 5, 444, 219, 445, 446, 447, 448, 449, 450, 451, 452, 453, 454, 455, 456, 457, 458, 459, 158, 460, 461, 462, 463, 464, 465, 1424, 1425, 1426, 1427, 175, 1428, 1429, 1430] (by decide +kernel) (by decide +kernel)
set_option maxRecDepth 20000 in
theorem ggL_law_X12_sentence_48 : GoodIn wsL_law ((wsX12_sentence.drop 48).take 48) := goodIn_r _ [1431, 1432, 1433, 1434, 1435, 478, 479, 480, 481, 1436, 1437, 1438, 1439, 191, 190, 470, 471, 472, 473, 533, 534, 535, 536, 1440, 1441, 1442, 1443, 192, 498, 1444, 1445, 1446, 1447, 193, 194, 195, 196, 197, 198, 199, 200, 518, 519, 520, 521, 486, 487, 488] (by decide +kernel) (by decide +kernel)
set_option maxRecDepth 20000 in
theorem ggL_law_X12_sentence_96 : GoodIn wsL_law ((wsX12_sentence.drop 96).take 48) := goodIn_r _ [489, 163, 490, 491, 492, 493, 162, 1536, 1537, 1538, 1539, 1540, 1541, 1542, 1543, 1544, 1545, 1546, 1547, 1548, 1549, 1550, 1551, 1552, 1553, 1554, 1555, 1556, 1557, 1558, 1559, 1560, 1561, 1562, 1563, 1564, 1565, 1566, 1567, 1568, 1569, 1570, 1571, 1572, 1573, 1574, 1575, 1576] (by decide +kernel) (by decide +kernel)
set_option maxRecDepth 20000 in
theorem ggL_law_X12_sentence_144 : GoodIn wsL_law (wsX12_sentence.drop 144) := goodIn_r _ [1577, 1578, 1579, 1580, 1581, 1582, 1583, 1584] (by decide +kernel) (by decide +kernel)
theorem ggL_law_X12_sentence : GoodIn wsL_law wsX12_sentence := by
  rw [show wsX12_sentence = wsX12_sentence.drop 0 from rfl]
  exact (goodIn_td (n := 48) ggL_law_X12_sentence_0 (by rw [List.drop_drop]; exact (goodIn_td (n := 48) ggL_law_X12_sentence_48 (by rw [List.drop_drop]; exact (goodIn_td (n := 48) ggL_law_X12_sentence_96 (by rw [List.drop_drop]; exact ggL_law_X12_sentence_144))))))
