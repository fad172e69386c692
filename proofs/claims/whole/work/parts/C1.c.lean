set_option maxRecDepth 20000 in
theorem wsL_law0_r1_in : ∀ w ∈ wsL_law0_r1, w ∈ lw_big := lw_at_in [197, 198, 166, 1591, 1585, 183, 324, 199, 200, 201, 202, 203, 204, 254, 560, 205, 206, 167, 562, 255, 256, 170, 563, 564] (by decide +kernel)
set_option maxRecDepth 20000 in
theorem wsL_law0_r2_in : ∀ w ∈ wsL_law0_r2, w ∈ lw_big := lw_at_in [435, 565, 415, 416, 174, 566, 436, 262, 171, 567, 438, 374, 173, 568, 440, 441, 175, 569, 467, 326, 172, 570, 469, 470] (by decide +kernel)
set_option maxRecDepth 20000 in
theorem wsL_law0_r3_in : ∀ w ∈ wsL_law0_r3, w ∈ lw_big := lw_at_in [176, 571, 480, 481, 177, 572, 501, 502, 178, 573, 574, 577, 528, 529, 180, 578, 208, 209, 210, 213, 211, 219, 258, 259] (by decide +kernel)
set_option maxRecDepth 20000 in
theorem wsL_law0_r4_in : ∀ w ∈ wsL_law0_r4, w ∈ lw_big := lw_at_in [260, 261, 401, 325, 403, 373, 405, 264, 265, 266, 281, 285, 287, 289, 293, 296, 299, 328, 329, 330, 344, 347, 350, 352] (by decide +kernel)
set_option maxRecDepth 20000 in
theorem wsL_law0_r5_in : ∀ w ∈ wsL_law0_r5, w ∈ lw_big := lw_at_in [333, 336, 376, 377, 378, 379, 384, 385, 386, 387, 418, 419, 420, 421, 427, 443, 444, 445, 451, 452, 453, 472, 473, 474] (by decide +kernel)
set_option maxRecDepth 20000 in
theorem wsL_law0_r6_in : ∀ w ∈ wsL_law0_r6, w ∈ lw_big := lw_at_in [483, 484, 485, 486, 487, 488, 504, 505, 506, 507, 509, 510, 511, 515, 530, 531, 532, 533, 534, 179, 535, 536, 537, 559] (by decide +kernel)
set_option maxRecDepth 20000 in
theorem wsL_law0_r7_in : ∀ w ∈ wsL_law0_r7, w ∈ lw_big := lw_at_in [546, 547, 539, 540, 182, 541, 542, 543, 544, 545, 1592, 1593, 1594, 1595, 1622, 1627, 1628, 1629, 1630, 1631, 1641, 1642, 1644, 1645] (by decide +kernel)
set_option maxRecDepth 20000 in
theorem wsL_law0_r8_in : ∀ w ∈ wsL_law0_r8, w ∈ lw_big := lw_at_in [1646, 1647, 1648, 1649, 1650, 1654, 1658, 1660, 1666, 1667, 1668, 1669, 1596, 1597, 1598, 1599, 1600, 1601, 1602, 1603, 1604, 1605, 1606, 1607] (by decide +kernel)
set_option maxRecDepth 20000 in
theorem wsL_law0_r9_in : ∀ w ∈ wsL_law0_r9, w ∈ lw_big := lw_at_in [1608, 1609, 1610, 1611, 1612, 1613, 1614, 1615, 1616, 1617, 1619, 98, 1620, 618, 619, 620, 621, 561, 622, 624, 6, 625, 1578, 1579] (by decide +kernel)
set_option maxRecDepth 20000 in
theorem wsL_law0_r10_in : ∀ w ∈ wsL_law0_r10, w ∈ lw_big := lw_at_in [1580, 1581, 1621, 1623, 1582, 1584, 97, 1586, 626, 627, 628, 629, 1587, 1588, 1589, 1590, 630, 631, 632, 633, 576, 634, 636, 7] (by decide +kernel)
