set_option maxRecDepth 20000 in
theorem wsL_law0_r31_in : ∀ w ∈ wsL_law0_r31, w ∈ lw_big := lw_at_in [1936, 1938, 129, 1939, 928, 929, 930, 931, 1940, 1941, 1942, 1943, 932, 933, 934, 935, 1944, 1945, 1946, 1947, 936, 937, 938, 939] (by decide +kernel)
set_option maxRecDepth 20000 in
theorem wsL_law0_r32_in : ∀ w ∈ wsL_law0_r32, w ∈ lw_big := lw_at_in [1948, 1949, 1950, 1951, 1952, 1954, 130, 1955, 1956, 1958, 131, 1959, 1960, 1962, 132, 1963, 940, 941, 942, 943, 948, 944, 945, 946] (by decide +kernel)
set_option maxRecDepth 20000 in
theorem wsL_law0_r33_in : ∀ w ∈ wsL_law0_r33, w ∈ lw_big := lw_at_in [951, 52, 952, 953, 955, 53, 956, 957, 959, 54, 960, 1964, 1965, 1966, 1967, 1968, 1970, 133, 1971, 1972, 1974, 134, 1975, 961] (by decide +kernel)
set_option maxRecDepth 20000 in
theorem wsL_law0_r34_in : ∀ w ∈ wsL_law0_r34, w ∈ lw_big := lw_at_in [962, 963, 964, 967, 55, 968, 1976, 1977, 1978, 1979, 969, 970, 971, 972, 975, 56, 976, 490, 977, 979, 57, 980, 981, 982] (by decide +kernel)
set_option maxRecDepth 20000 in
theorem wsL_law0_r35_in : ∀ w ∈ wsL_law0_r35, w ∈ lw_big := lw_at_in [983, 986, 987, 988, 990, 992, 58, 993, 1980, 1981, 1982, 1983, 1984, 1986, 135, 1987, 1988, 1989, 1991, 136, 1992, 1993, 1995, 137] (by decide +kernel)
set_option maxRecDepth 20000 in
theorem wsL_law0_r36_in : ∀ w ∈ wsL_law0_r36, w ∈ lw_big := lw_at_in [1996, 994, 995, 996, 997, 1997, 1998, 1999, 2000, 998, 999, 1000, 1001, 2001, 2002, 2003, 2004, 2005, 2007, 138, 2008, 2009, 2011, 139] (by decide +kernel)
set_option maxRecDepth 20000 in
theorem wsL_law0_r37_in : ∀ w ∈ wsL_law0_r37, w ∈ lw_big := lw_at_in [2012, 1004, 1005, 1006, 1007, 1008, 1010, 59, 1011, 1014, 60, 1015, 513, 1017, 1018, 1019, 1021, 1023, 61, 1024, 1025, 1027, 62, 1028] (by decide +kernel)
set_option maxRecDepth 20000 in
theorem wsL_law0_r38_in : ∀ w ∈ wsL_law0_r38, w ∈ lw_big := lw_at_in [1029, 1030, 1031, 2013, 2014, 2015, 2016, 1651, 2017, 2019, 140, 2020, 2021, 2023, 141, 2024, 2025, 2027, 142, 2028, 2029, 2031, 143, 2032] (by decide +kernel)
set_option maxRecDepth 20000 in
theorem wsL_law0_r39_in : ∀ w ∈ wsL_law0_r39, w ∈ lw_big := lw_at_in [2033, 2035, 144, 2036, 2037, 2038, 2039, 1032, 1033, 1034, 1035, 2040, 2041, 2042, 2043, 1036, 1037, 1038, 1039, 2044, 2045, 2046, 2047, 1040] (by decide +kernel)
set_option maxRecDepth 20000 in
theorem wsL_law0_r40_in : ∀ w ∈ wsL_law0_r40, w ∈ lw_big := lw_at_in [1041, 1042, 1043, 1045, 1046, 193, 1047, 1048, 1049, 1050, 2048, 2049, 2050, 2051, 1051, 1052, 1053, 1054, 1055, 1057, 63, 1058, 1059, 1060] (by decide +kernel)
set_option maxRecDepth 20000 in
theorem wsL_law0_r41_in : ∀ w ∈ wsL_law0_r41, w ∈ lw_big := lw_at_in [1061, 1062, 1064, 64, 1065, 1066, 1067, 1068, 1069, 1071, 65, 1072, 1073, 1075, 66, 1076, 1078, 1077, 2052, 2053, 2054, 2055, 1653, 1652] (by decide +kernel)
set_option maxRecDepth 20000 in
theorem wsL_law0_r42_in : ∀ w ∈ wsL_law0_r42, w ∈ lw_big := lw_at_in [2056, 2058, 145, 2059, 2060, 2061, 2062, 2063, 2064, 2066, 146, 2067, 2068, 2070, 147, 2071, 1079, 1080, 1081, 1082, 2072, 2073, 2074, 2075] (by decide +kernel)
set_option maxRecDepth 20000 in
theorem wsL_law0_r43_in : ∀ w ∈ wsL_law0_r43, w ∈ lw_big := lw_at_in [1083, 1084, 1085, 1086, 1090, 1087, 1088, 1089, 2076, 2077, 2078, 2079, 2080, 2084, 2081, 2082, 2083, 1567, 1568, 1569, 1570, 1571, 1572, 1573] (by decide +kernel)
set_option maxRecDepth 20000 in
theorem wsL_law0_r44_in : ∀ w ∈ wsL_law0_r44, w ∈ lw_big := lw_at_in [2085, 2086, 2087, 2088, 1091, 1092, 1093, 1094, 1095, 1096, 1097, 1098, 1099, 2202, 558, 1100, 1101, 549, 548, 1102, 2203, 0, 1104, 1105] (by decide +kernel)
set_option maxRecDepth 20000 in
theorem wsL_law0_r45_in : ∀ w ∈ wsL_law0_r45, w ∈ lw_big := lw_at_in [1106, 2204, 1, 1108, 1109, 1118, 1110, 1111, 194, 1112, 1113, 1114, 1115, 1116, 1117, 1119, 1120, 195, 1121, 1122, 1123, 1124, 1125, 1126] (by decide +kernel)
set_option maxRecDepth 20000 in
theorem wsL_law0_r46_in : ∀ w ∈ wsL_law0_r46, w ∈ lw_big := lw_at_in [1128, 1129, 1130, 1131, 1133, 1134, 1132, 1135, 1136, 1137, 1138, 1139, 1140, 1141, 1142, 1143, 1144, 1145, 1146, 1147, 1148, 1149, 1151, 67] (by decide +kernel)
set_option maxRecDepth 20000 in
theorem wsL_law0_r47_in : ∀ w ∈ wsL_law0_r47, w ∈ lw_big := lw_at_in [1152, 1153, 1154, 1155, 1156, 1157, 2205, 1158, 1159, 1160, 1161, 1162, 1163, 2206, 2, 1165, 1166, 1167, 1168, 1169, 1170, 1171, 1172, 1173] (by decide +kernel)
set_option maxRecDepth 20000 in
theorem wsL_law0_r48_in : ∀ w ∈ wsL_law0_r48, w ∈ lw_big := lw_at_in [1174, 1175, 1176, 1177, 1178, 1179, 1180, 1181, 1182, 1183, 1184, 1185, 1186, 1187, 1189, 1190, 1191, 1192, 1193, 2207, 1194, 1195, 1196, 2208] (by decide +kernel)
set_option maxRecDepth 20000 in
theorem wsL_law0_r49_in : ∀ w ∈ wsL_law0_r49, w ∈ lw_big := lw_at_in [3, 1198, 1199, 1200, 1201, 1202, 1203, 1204, 1205, 1206, 1207, 1208, 1209, 1210, 1211, 1212, 1213, 2209, 4, 1215, 1216, 1217, 2210, 5] (by decide +kernel)
set_option maxRecDepth 20000 in
theorem wsL_law0_r50_in : ∀ w ∈ wsL_law0_r50, w ∈ lw_big := lw_at_in [1219, 1220, 1221, 1222, 1223, 1224, 1225, 1226, 1227, 1228, 1229, 1230, 1231, 1232, 2211, 1233, 1234, 1235, 1236, 196, 1237, 1238, 1239, 1240] (by decide +kernel)
set_option maxRecDepth 20000 in
theorem wsL_law0_r51_in : ∀ w ∈ wsL_law0_r51, w ∈ lw_big := lw_at_in [1241, 1243, 1245, 1246, 1247, 1248, 1249, 1250, 1251, 1252, 1256, 1257, 1258, 1259, 1260, 2212, 1261, 1262, 2089, 2090, 2091, 2092, 1655, 2093] (by decide +kernel)
set_option maxRecDepth 20000 in
theorem wsL_law0_r52_in : ∀ w ∈ wsL_law0_r52, w ∈ lw_big := lw_at_in [2095, 148, 2096, 2097, 2099, 149, 2100, 2101, 2103, 150, 2104, 2105, 2107, 151, 2108, 1263, 1264, 1265, 1266, 1267, 1268, 1269, 1270, 1271] (by decide +kernel)
set_option maxRecDepth 20000 in
theorem wsL_law0_r53_in : ∀ w ∈ wsL_law0_r53, w ∈ lw_big := lw_at_in [2213, 1272, 1273, 1274, 1275, 1276, 2109, 2110, 2111, 2112, 1277, 1278, 1279, 1280, 1283, 68, 1284, 1285, 1287, 69, 1288, 1291, 70, 1292] (by decide +kernel)
set_option maxRecDepth 20000 in
theorem wsL_law0_r54_in : ∀ w ∈ wsL_law0_r54, w ∈ lw_big := lw_at_in [475, 1293, 1294, 1296, 71, 1297, 1298, 1299, 2113, 2114, 2115, 2116, 2117, 2119, 152, 2120, 1656, 2121, 2123, 153, 2124, 2125, 2127, 154] (by decide +kernel)
set_option maxRecDepth 20000 in
theorem wsL_law0_r55_in : ∀ w ∈ wsL_law0_r55, w ∈ lw_big := lw_at_in [2128, 2129, 1300, 1301, 1302, 1303, 2130, 2131, 2132, 2133, 1304, 1305, 1306, 1307, 575, 1310, 72, 1311, 446, 1313, 1315, 73, 1316, 1317] (by decide +kernel)
set_option maxRecDepth 20000 in
theorem wsL_law0_r56_in : ∀ w ∈ wsL_law0_r56, w ∈ lw_big := lw_at_in [1320, 1325, 1327, 74, 1328, 1329, 1343, 1345, 1347, 1331, 1333, 75, 1334, 1335, 1337, 76, 1338, 1339, 1341, 77, 1342, 1349, 1351, 78] (by decide +kernel)
set_option maxRecDepth 20000 in
theorem wsL_law0_r57_in : ∀ w ∈ wsL_law0_r57, w ∈ lw_big := lw_at_in [1352, 1358, 79, 1359, 447, 449, 2134, 2135, 2136, 2137, 1657, 1659, 2138, 2140, 155, 2141, 2142, 2144, 156, 2145, 1363, 1364, 1365, 1366] (by decide +kernel)
set_option maxRecDepth 20000 in
theorem wsL_law0_r58_in : ∀ w ∈ wsL_law0_r58, w ∈ lw_big := lw_at_in [2146, 2147, 2148, 2149, 1367, 1368, 1369, 1370, 1373, 80, 1374, 1375, 1376, 1378, 81, 1379, 1421, 1380, 1382, 82, 1394, 1396, 84, 1397] (by decide +kernel)
set_option maxRecDepth 20000 in
theorem wsL_law0_r59_in : ∀ w ∈ wsL_law0_r59, w ∈ lw_big := lw_at_in [1383, 1418, 1384, 1386, 83, 1387, 1392, 1398, 1405, 1407, 1409, 1411, 1400, 1402, 85, 1403, 1413, 1415, 86, 1416, 1426, 87, 1427, 2150] (by decide +kernel)
set_option maxRecDepth 20000 in
theorem wsL_law0_r60_in : ∀ w ∈ wsL_law0_r60, w ∈ lw_big := lw_at_in [2151, 2152, 2153, 1661, 1662, 1663, 1664, 1665, 2154, 2156, 157, 2157, 2158, 2160, 158, 2161, 2162, 2164, 159, 2165, 2166, 2168, 160, 2169] (by decide +kernel)
set_option maxRecDepth 20000 in
theorem wsL_law0_r61_in : ∀ w ∈ wsL_law0_r61, w ∈ lw_big := lw_at_in [2170, 2172, 161, 2173, 2174, 2176, 162, 2177, 1428, 1429, 1430, 1431, 1434, 88, 1435, 1438, 89, 1439, 1440, 1442, 90, 1443, 1444, 1446] (by decide +kernel)
set_option maxRecDepth 20000 in
theorem wsL_law0_r62_in : ∀ w ∈ wsL_law0_r62, w ∈ lw_big := lw_at_in [91, 1447, 1449, 1452, 1454, 1462, 1463, 1464, 1465, 1466, 1467, 1468, 1469, 1470, 2178, 2179, 2180, 2181, 2182, 2184, 163, 2185, 2186, 2188] (by decide +kernel)
set_option maxRecDepth 20000 in
theorem wsL_law0_r63_in : ∀ w ∈ wsL_law0_r63, w ∈ lw_big := lw_at_in [164, 2189, 1471, 1472, 1473, 1474, 1477, 93, 1478, 2190, 2191, 2192, 2193, 1481, 1482, 1483, 1484, 2194, 2195, 2196, 2197, 1485, 1486, 1487] (by decide +kernel)
set_option maxRecDepth 20000 in
theorem wsL_law0_r64_in : ∀ w ∈ wsL_law0_r64, w ∈ lw_big := lw_at_in [1488, 2198, 2199, 2200, 2201] (by decide +kernel)
