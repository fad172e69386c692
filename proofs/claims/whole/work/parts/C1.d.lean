set_option maxRecDepth 20000 in
theorem wsL_law0_r11_in : ∀ w ∈ wsL_law0_r11, w ∈ lw_big := lw_at_in [637, 640, 8, 641, 642, 643, 184, 644, 214, 215, 216, 227, 229, 645, 647, 9, 648, 218, 217, 223, 649, 651, 10, 652] (by decide +kernel)
set_option maxRecDepth 20000 in
theorem wsL_law0_r12_in : ∀ w ∈ wsL_law0_r12, w ∈ lw_big := lw_at_in [221, 653, 654, 655, 656, 658, 11, 659, 660, 662, 663, 664, 181, 665, 2233, 666, 667, 668, 669, 670, 2234, 671, 672, 673] (by decide +kernel)
set_option maxRecDepth 20000 in
theorem wsL_law0_r13_in : ∀ w ∈ wsL_law0_r13, w ∈ lw_big := lw_at_in [674, 675, 676, 677, 678, 679, 680, 185, 681, 682, 683, 684, 685, 687, 688, 186, 689, 690, 691, 692, 693, 694, 695, 696] (by decide +kernel)
set_option maxRecDepth 20000 in
theorem wsL_law0_r14_in : ∀ w ∈ wsL_law0_r14, w ∈ lw_big := lw_at_in [697, 698, 699, 700, 701, 702, 703, 705, 707, 711, 12, 712, 267, 269, 274, 279, 715, 13, 716, 717, 719, 14, 720, 721] (by decide +kernel)
set_option maxRecDepth 20000 in
theorem wsL_law0_r15_in : ∀ w ∈ wsL_law0_r15, w ∈ lw_big := lw_at_in [753, 759, 785, 725, 15, 726, 727, 729, 16, 730, 733, 17, 734, 736, 738, 18, 739, 742, 19, 743, 744, 745, 747, 748] (by decide +kernel)
set_option maxRecDepth 20000 in
theorem wsL_law0_r16_in : ∀ w ∈ wsL_law0_r16, w ∈ lw_big := lw_at_in [751, 20, 752, 755, 757, 21, 758, 761, 763, 22, 764, 767, 23, 768, 770, 772, 24, 773, 774, 776, 25, 777, 778, 780] (by decide +kernel)
set_option maxRecDepth 20000 in
theorem wsL_law0_r17_in : ∀ w ∈ wsL_law0_r17, w ∈ lw_big := lw_at_in [26, 781, 783, 784, 787, 789, 27, 790, 791, 793, 28, 794, 797, 29, 798, 799, 801, 30, 802, 805, 31, 806, 807, 810] (by decide +kernel)
set_option maxRecDepth 20000 in
theorem wsL_law0_r18_in : ∀ w ∈ wsL_law0_r18, w ∈ lw_big := lw_at_in [32, 811, 814, 33, 815, 816, 818, 817, 187, 821, 34, 822, 331, 340, 342, 825, 35, 826, 381, 383, 829, 36, 830, 424] (by decide +kernel)
set_option maxRecDepth 20000 in
theorem wsL_law0_r19_in : ∀ w ∈ wsL_law0_r19, w ∈ lw_big := lw_at_in [1769, 1770, 1771, 1772, 1636, 1640, 1632, 1637, 1643, 1773, 1775, 99, 1776, 1624, 1625, 1626, 1777, 1779, 100, 1780, 1633, 1634, 1635, 1638] (by decide +kernel)
set_option maxRecDepth 20000 in
theorem wsL_law0_r20_in : ∀ w ∈ wsL_law0_r20, w ∈ lw_big := lw_at_in [1781, 1783, 101, 1784, 1785, 1786, 1787, 1788, 1789, 1790, 1791, 1793, 102, 1794, 1795, 1797, 103, 1798, 1799, 1801, 104, 1802, 1803, 1805] (by decide +kernel)
set_option maxRecDepth 20000 in
theorem wsL_law0_r21_in : ∀ w ∈ wsL_law0_r21, w ∈ lw_big := lw_at_in [105, 1806, 1807, 1809, 106, 1810, 1811, 1813, 107, 1814, 1815, 1817, 108, 1818, 1819, 1821, 109, 1822, 1639, 1823, 1825, 110, 1826, 1827] (by decide +kernel)
set_option maxRecDepth 20000 in
theorem wsL_law0_r22_in : ∀ w ∈ wsL_law0_r22, w ∈ lw_big := lw_at_in [1828, 1829, 1830, 1832, 111, 1833, 1834, 1836, 112, 1837, 1838, 1840, 113, 1841, 1842, 1844, 114, 1845, 1846, 1847, 1848, 1849, 1851, 115] (by decide +kernel)
set_option maxRecDepth 20000 in
theorem wsL_law0_r23_in : ∀ w ∈ wsL_law0_r23, w ∈ lw_big := lw_at_in [1852, 1853, 1855, 116, 1856, 1857, 1859, 117, 1860, 831, 832, 833, 834, 1861, 1862, 1863, 1864, 1489, 1490, 165, 1491, 1492, 1493, 1494] (by decide +kernel)
set_option maxRecDepth 20000 in
theorem wsL_law0_r24_in : ∀ w ∈ wsL_law0_r24, w ∈ lw_big := lw_at_in [1495, 1496, 1497, 191, 893, 45, 894, 1458, 92, 1459, 886, 888, 44, 889, 891, 1561, 95, 1562, 880, 855, 39, 856, 1565, 96] (by decide +kernel)
set_option maxRecDepth 20000 in
theorem wsL_law0_r25_in : ∀ w ∈ wsL_law0_r25, w ∈ lw_big := lw_at_in [1566, 1865, 1866, 1867, 1868, 1869, 1871, 118, 1872, 1873, 1875, 119, 1876, 1877, 1879, 120, 1880, 1881, 1883, 121, 1884, 1885, 1887, 122] (by decide +kernel)
set_option maxRecDepth 20000 in
theorem wsL_law0_r26_in : ∀ w ∈ wsL_law0_r26, w ∈ lw_big := lw_at_in [1888, 1889, 1891, 123, 1892, 1893, 1895, 124, 1896, 1574, 1575, 1576, 1577, 835, 836, 837, 838, 842, 37, 843, 846, 38, 847, 1897] (by decide +kernel)
set_option maxRecDepth 20000 in
theorem wsL_law0_r27_in : ∀ w ∈ wsL_law0_r27, w ∈ lw_big := lw_at_in [1898, 1899, 1900, 1901, 1903, 125, 1904, 848, 849, 850, 851, 1905, 1906, 1907, 1908, 857, 858, 859, 860, 861, 862, 863, 1909, 1910] (by decide +kernel)
set_option maxRecDepth 20000 in
theorem wsL_law0_r28_in : ∀ w ∈ wsL_law0_r28, w ∈ lw_big := lw_at_in [1911, 1912, 1913, 1915, 126, 1916, 864, 865, 866, 867, 868, 870, 40, 871, 874, 41, 875, 876, 878, 42, 879, 881, 883, 43] (by decide +kernel)
set_option maxRecDepth 20000 in
theorem wsL_law0_r29_in : ∀ w ∈ wsL_law0_r29, w ∈ lw_big := lw_at_in [884, 900, 46, 901, 426, 904, 47, 905, 906, 909, 48, 910, 911, 913, 49, 914, 915, 916, 918, 50, 919, 920, 922, 51] (by decide +kernel)
set_option maxRecDepth 20000 in
theorem wsL_law0_r30_in : ∀ w ∈ wsL_law0_r30, w ∈ lw_big := lw_at_in [923, 1917, 1918, 1919, 1920, 1921, 1923, 127, 1924, 1925, 1927, 128, 1928, 1929, 1930, 1931, 924, 925, 926, 927, 1932, 1933, 1934, 1935] (by decide +kernel)
