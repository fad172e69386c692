theorem goodIn_td {big ws : List Cond} {n : Nat} (h1 : GoodIn big (ws.take n)) (h2 : GoodIn big (ws.drop n)) : GoodIn big ws := fun w h => by
  rw [← List.take_append_drop n ws] at h
  exact (List.mem_append.mp h).elim (h1 w) (h2 w)
set_option maxRecDepth 20000 in
theorem ggL_law_X11_book_0 : GoodIn wsL_law ((wsX11_book.drop 0).take 48) := goodIn_r _ [1309, 18, 14, 41, 22, 236, 45, 1310, 58, 29, 237, 238, 239, 2, 240, 209, 241, 17, 242, 243, 67, 244, 245, 246, 247, 248, 249, 250, 251, 252, 253, 254, 255, 256, 68, 69, 257, 258, 259, 260, 261, 262, 263, 264, 265, 266, 267, 268] (by decide +kernel) (by decide +kernel)
set_option maxRecDepth 20000 in
theorem ggL_law_X11_book_48 : GoodIn wsL_law ((wsX11_book.drop 48).take 48) := goodIn_r _ [269, 270, 271, 272, 273, 274, 275, 276, 277, 278, 279, 280, 281, 282, 283, 284, 285, 286, 287, 288, 289, 290, 291, 292, 293, 294, 295, 296, 297, 298, 299, 300, 301, 302, 303, 304, 305, 306, 148, 307, 308, 309, 310, 311, 312, 313, 314, 315] (by decide +kernel) (by decide +kernel)
set_option maxRecDepth 20000 in
theorem ggL_law_X11_book_96 : GoodIn wsL_law ((wsX11_book.drop 96).take 48) := goodIn_r _ [316, 317, 318, 319, 320, 1311, 40, 1312, 1313, 1314, 328, 329, 330, 1315, 1316, 1317, 1318, 1319, 1320, 115, 116, 339, 340, 341, 371, 372, 373, 356, 357, 346, 347, 348, 358, 359, 1321, 1322, 1323, 1324, 1325, 1326, 1327, 1328, 1329, 1330, 1331, 1332, 114, 1333] (by decide +kernel) (by decide +kernel)
set_option maxRecDepth 20000 in
theorem ggL_law_X11_book_144 : GoodIn wsL_law ((wsX11_book.drop 144).take 48) := goodIn_r _ [1334, 1335, 1336, 1337, 1338, 1339, 1340, 1341, 1342, 1343, 1344, 360, 361, 362, 396, 397, 398, 399, 400, 401, 402, 403, 404, 405, 406, 677, 44, 678, 679, 420, 96, 97, 421, 422, 92, 680, 414, 415, 416, 93, 94, 95, 1345, 1346, 1347, 1348, 1349, 662] (by decide +kernel) (by decide +kernel)
set_option maxRecDepth 20000 in
theorem ggL_law_X11_book_192 : GoodIn wsL_law ((wsX11_book.drop 192).take 48) := goodIn_r _ [663, 664, 665, 666, 667, 668, 570, 571, 572, 573, 669, 670, 671, 672, 379, 32, 380, 381, 325, 562, 563, 564, 565, 383, 384, 385, 326, 566, 556, 557, 558, 386, 387, 375, 376, 377, 84, 378, 382, 393, 394, 395, 88, 768, 769, 770, 771, 772] (by decide +kernel) (by decide +kernel)
set_option maxRecDepth 20000 in
theorem ggL_law_X11_book_240 : GoodIn wsL_law ((wsX11_book.drop 240).take 48) := goodIn_r _ [773, 774, 775, 776, 777, 778, 693, 694, 695, 696, 688, 689, 690, 691, 692, 681, 682, 683, 684, 685, 686, 687, 643, 644, 645, 673, 28, 674, 675, 431, 676, 110, 1517, 1518, 1519, 1520, 1521, 1522, 1523, 1524, 1525, 1526, 1527, 1528, 1529, 1530, 1531, 1532] (by decide +kernel) (by decide +kernel)
set_option maxRecDepth 20000 in
theorem ggL_law_X11_book_288 : GoodIn wsL_law (wsX11_book.drop 288) := goodIn_r _ [1533, 1534, 1535, 1596, 1597, 1598, 1585, 1586, 1587, 1588, 1589, 1590, 1591, 1592, 1593, 1594, 1595, 1619, 1620, 1621, 1622, 1623, 1624, 1625, 1626, 1627, 1628, 1629, 1630, 1631, 1632, 1633, 1602, 1603, 1604, 1605, 1606, 1607, 1608, 1609, 1610, 1611, 1612, 1599, 1600, 1601] (by decide +kernel) (by decide +kernel)
theorem ggL_law_X11_book : GoodIn wsL_law wsX11_book := by
  rw [show wsX11_book = wsX11_book.drop 0 from rfl]
  exact (goodIn_td (n := 48) ggL_law_X11_book_0 (by rw [List.drop_drop]; exact (goodIn_td (n := 48) ggL_law_X11_book_48 (by rw [List.drop_drop]; exact (goodIn_td (n := 48) ggL_law_X11_book_96 (by rw [List.drop_drop]; exact (goodIn_td (n := 48) ggL_law_X11_book_144 (by rw [List.drop_drop]; exact (goodIn_td (n := 48) ggL_law_X11_book_192 (by rw [List.drop_drop]; exact (goodIn_td (n := 48) ggL_law_X11_book_240 (by rw [List.drop_drop]; exact ggL_law_X11_book_288))))))))))))
