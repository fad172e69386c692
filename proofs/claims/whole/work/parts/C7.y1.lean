set_option maxRecDepth 20000 in
theorem ggL_law_X12_book_0 : GoodIn wsL_law ((wsX12_book.drop 0).take 48) := goodIn_r _ [1353, 218, 436, 1354, 438, 439, 174, 161, 159, 1355, 164, 440, 165, 503, 504, 5, 505, 441, 442, 443, 444, 219, 445, 446, 447, 448, 449, 450, 451, 452, 453, 454, 455, 456, 457, 458, 459, 158, 460, 461, 462, 463, 464, 465, 1356, 1357, 1358, 1359] (by decide +kernel) (by decide +kernel)
set_option maxRecDepth 20000 in
theorem ggL_law_X12_book_48 : GoodIn wsL_law ((wsX12_book.drop 48).take 48) := goodIn_r _ [189, 188, 498, 184, 185, 186, 187, 470, 471, 472, 473, 518, 519, 520, 521, 486, 487, 488, 489, 163, 478, 479, 480, 481, 490, 491, 492, 493, 162, 499, 500, 501, 502, 514, 515, 516, 517, 529, 530, 531, 532, 533, 534, 535, 536, 857, 858, 859] (by decide +kernel) (by decide +kernel)
set_option maxRecDepth 20000 in
theorem ggL_law_X12_book_96 : GoodIn wsL_law ((wsX12_book.drop 96).take 48) := goodIn_r _ [860, 1360, 1361, 1362, 1363, 593, 594, 595, 596, 597, 598, 599, 600, 522, 523, 524, 601, 602, 603, 604, 705, 706, 707, 708, 709, 710, 711, 748, 749, 750, 751, 752, 753, 754, 755, 756, 757, 758, 759, 783, 784, 785, 786, 787, 788, 789, 790, 589] (by decide +kernel) (by decide +kernel)
set_option maxRecDepth 20000 in
theorem ggL_law_X12_book_144 : GoodIn wsL_law ((wsX12_book.drop 144).take 48) := goodIn_r _ [590, 591, 592, 650, 651, 652, 653, 701, 702, 703, 704, 861, 862, 863, 864, 1536, 1537, 1538, 1539, 1540, 1541, 1542, 1543, 1544, 1545, 1546, 1547, 1548, 1549, 1550, 1551, 1552, 1553, 1554, 1555, 1556, 1557, 1558, 1559, 1560, 1561, 1562, 1563, 1564, 1565, 1566, 1567, 1568] (by decide +kernel) (by decide +kernel)
set_option maxRecDepth 20000 in
theorem ggL_law_X12_book_192 : GoodIn wsL_law (wsX12_book.drop 192) := goodIn_r _ [1569, 1570, 1571, 1572, 1573, 1574, 1575, 1576, 1577, 1578, 1579, 1580, 1581, 1582, 1583, 1584] (by decide +kernel) (by decide +kernel)
theorem ggL_law_X12_book : GoodIn wsL_law wsX12_book := by
  rw [show wsX12_book = wsX12_book.drop 0 from rfl]
  exact (goodIn_td (n := 48) ggL_law_X12_book_0 (by rw [List.drop_drop]; exact (goodIn_td (n := 48) ggL_law_X12_book_48 (by rw [List.drop_drop]; exact (goodIn_td (n := 48) ggL_law_X12_book_96 (by rw [List.drop_drop]; exact (goodIn_td (n := 48) ggL_law_X12_book_144 (by rw [List.drop_drop]; exact ggL_law_X12_book_192))))))))
