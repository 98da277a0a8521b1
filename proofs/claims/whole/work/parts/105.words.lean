abbrev am_name (M : am_M) : MethodName := M.1
abbrev am_code (M : am_M) : ByteArray := M.2.1
abbrev am_maxL (M : am_M) : Nat := M.2.2.1
abbrev am_ret (M : am_M) : Option FieldType := M.2.2.2.1
abbrev am_hh (M : am_M) : List (Nat × Nat × Nat × Nat) := M.2.2.2.2.1
abbrev am_own (M : am_M) : Nat := M.2.2.2.2.2
def am_fin (ci k : Nat) : Bool := match ci with
  | 1 => decide (k < 2)
  | 2 => decide (k = 0)
  | 3 => decide (k = 0)
  | 4 => decide (k < 2)
  | 5 => decide (k = 3 ∨ k = 4 ∨ k = 6 ∨ 8 ≤ k)
  | 6 => decide (k = 0)
  | 7 => true
  | 8 => decide (k < 3 ∨ (4 ≤ k ∧ k < 7) ∨ (17 ≤ k ∧ k < 20) ∨ k = 28 ∨ k = 29 ∨ 50 ≤ k)
  | _ => false
def am_T : List Cond := lw_tbl.filter (fun w => w.onTables)
def am_cn : Nat → String
  | 0 => RX0
  | 1 => RX1
  | 2 => RX2
  | 3 => RX3
  | 4 => RX4
  | 5 => RX5
  | 6 => RX6
  | 7 => RX7
  | 8 => RX8
  | 9 => RL
  | _ => RJ9
/-! ===== places of the words that justify the tables (printed by gen/pos.py) ===== -/
def am_fldQ : Nat → List (List Nat) := fun o => match o with
  | 0 => [[362], [368], [364], [366]]
  | 1 => [[296], [297], [298], [10164], [10168], [299], [300], [302], [304], [306], [308], [310], [312], [313], [315], [317], [318], [319], [10268], [10259], [10177], [10146], [10180]]
  | 2 => [[253], [10142], [254], [255], [257], [261], [263], [265], [267], [270]]
  | 3 => [[214], [224], [215], [10143], [222], [219], [217], [218], [221], [220]]
  | 4 => [[139], [140], [141]]
  | 5 => [[160], [162], [167], [170], [173], [176], [179], [182], [171], [174], [10144], [165]]
  | 6 => [[384], [385], [387]]
  | 7 => [[397], [398], [399], [400], [401], [402], [403], [404], [405], [406], [407], [10161], [10163], [10216], [10172], [10223], [10169], [10225], [10145], [10256], [10258], [10260], [10262], [10264], [10266], [10269], [10301], [10314], [10316], [10320], [10303], [10305], [10307], [10309], [10311], [10178], [10181], [10166], [10363], [10365], [10367], [10369], [10183], [10388], [10175], [10386]]
  | 8 => [[1303], [1304], [1305], [1307], [1308], [1309], [1319], [1320], [1321], [1322], [1331], [1332], [1353], [1354], [1355], [1356], [1306], [1310], [1311], [1312], [1313], [1314], [1315], [1316], [1317], [1318], [1324], [1325], [1323], [1326], [1327], [1328], [1329], [1330], [1333], [1334], [1335], [1336], [1337], [1338], [1339], [1340], [1341], [1342], [1343], [1344], [1348], [1345], [1346], [1347], [1349], [1350], [1352], [1351]]
  | _ => []
def am_callQ : Nat → List (List Nat) := fun o => match o with
  | 0 => [[361, 0, 0, 0, 0], [11125, 93, 525, 524, 0], [11126, 93, 528, 527, 0]]
  | 1 => [[295, 0, 0, 0, 0], [904, 99, 907, 905, 906], [10908, 93, 910, 909, 0], [10916, 93, 913, 912, 0], [900, 100, 903, 901, 902], [917, 100, 920, 918, 919], [921, 100, 924, 922, 923], [10925, 93, 927, 926, 0], [10936, 93, 938, 937, 0], [948, 0, 0, 0, 0], [949, 100, 952, 951, 29], [954, 100, 957, 956, 30], [10959, 93, 941, 940, 0], [960, 100, 963, 962, 31], [965, 100, 968, 967, 32], [972, 100, 975, 974, 33], [964, 95, 478, 476, 477], [969, 0, 0, 0, 0]]
  | 2 => [[252, 0, 0, 0, 0], [471, 99, 474, 473, 2], [475, 95, 478, 476, 477], [479, 99, 482, 480, 481], [503, 99, 506, 504, 505], [483, 99, 486, 485, 3], [495, 99, 498, 497, 6], [499, 99, 502, 501, 7], [487, 99, 490, 489, 4], [491, 99, 494, 493, 5], [507, 99, 510, 508, 509], [549, 0, 0, 0, 0]]
  | 3 => [[213, 0, 0, 0, 0], [651, 98, 654, 653, 14], [677, 98, 680, 679, 18], [681, 98, 684, 683, 19], [743, 98, 746, 745, 21], [747, 98, 750, 749, 22], [656, 98, 659, 658, 15], [751, 98, 754, 753, 23], [755, 98, 758, 757, 24], [759, 95, 532, 530, 531], [782, 98, 785, 784, 25], [786, 98, 789, 788, 26], [655, 0, 0, 0, 0], [685, 98, 687, 686, 0], [691, 98, 694, 693, 20], [790, 98, 792, 791, 0], [695, 0, 0, 0, 0], [660, 98, 663, 662, 16], [705, 0, 0, 0, 0], [664, 98, 666, 665, 0], [667, 98, 669, 668, 0], [670, 98, 672, 671, 0], [673, 98, 676, 675, 17]]
  | 4 => [[135, 0, 0, 0, 0], [136, 0, 0, 0, 0], [533, 95, 536, 535, 10], [768, 0, 0, 0, 0]]
  | 5 => [[128, 0, 0, 0, 0], [132, 95, 134, 133, 0], [157, 0, 0, 0, 0], [764, 95, 767, 765, 766]]
  | 6 => [[383, 0, 0, 0, 0], [1253, 102, 1256, 1255, 45]]
  | 7 => [[120, 0, 0, 0, 0], [125, 94, 127, 126, 0], [10210, 98, 212, 211, 0], [10249, 99, 251, 250, 0], [292, 100, 294, 293, 0], [355, 95, 134, 133, 0], [10358, 101, 360, 359, 0], [10380, 102, 382, 381, 0], [568, 93, 570, 569, 0], [435, 98, 438, 436, 437], [647, 98, 650, 648, 649], [760, 94, 763, 761, 762], [777, 0, 0, 0, 0], [778, 98, 781, 779, 780], [816, 93, 819, 818, 27], [552, 93, 554, 553, 0], [463, 93, 466, 465, 1], [855, 93, 858, 857, 28], [882, 99, 510, 508, 509], [890, 93, 892, 891, 0], [896, 100, 899, 897, 898], [976, 100, 979, 977, 978], [980, 100, 983, 981, 982], [991, 100, 903, 901, 902], [992, 100, 920, 918, 919], [993, 100, 924, 922, 923], [529, 95, 532, 530, 531], [893, 93, 895, 894, 0], [1023, 100, 1026, 1024, 1025], [1034, 93, 1037, 1036, 34], [1038, 93, 1041, 1040, 35], [451, 94, 454, 452, 453], [1058, 93, 1061, 1060, 36], [1067, 93, 1069, 1068, 0], [1083, 93, 1086, 1085, 37], [1094, 93, 1097, 1096, 38], [820, 94, 823, 821, 822], [1112, 93, 1115, 1114, 39], [1117, 95, 1120, 1118, 1119], [1142, 93, 1144, 1143, 0], [1145, 100, 1148, 1146, 1147], [555, 95, 478, 476, 477], [1156, 93, 1158, 1157, 0], [1174, 93, 1177, 1176, 40], [1062, 94, 1065, 1063, 1064], [1178, 93, 1181, 1180, 41], [1182, 93, 1185, 1184, 42], [928, 0, 0, 0, 0], [1197, 0, 0, 0, 0], [459, 93, 462, 461, 0], [515, 93, 518, 517, 8], [537, 93, 540, 539, 11], [1212, 93, 1215, 1214, 44], [1217, 102, 1220, 1218, 1219], [1229, 93, 1231, 1230, 0], [1249, 102, 1252, 1250, 1251], [1265, 102, 1268, 1266, 1267], [1277, 93, 1279, 1278, 0], [1281, 94, 1284, 1282, 1283], [467, 99, 470, 468, 469], [511, 99, 514, 512, 513], [519, 93, 522, 521, 9], [541, 93, 544, 543, 12], [523, 93, 525, 524, 0], [526, 93, 528, 527, 0], [545, 99, 548, 546, 547], [550, 99, 482, 480, 481], [551, 99, 506, 504, 505], [1042, 0, 0, 0, 0], [1043, 99, 907, 905, 906], [1116, 95, 767, 765, 766], [1121, 101, 1124, 1122, 1123], [1186, 93, 1189, 1188, 43], [911, 93, 913, 912, 0], [931, 93, 933, 932, 0], [939, 93, 941, 940, 0], [942, 0, 0, 0, 0], [945, 0, 0, 0, 0]]
  | 8 => [[1298, 0, 0, 0, 0], [1299, 103, 1302, 1301, 46], [1477, 103, 1479, 1478, 0], [1502, 103, 1504, 1503, 0], [1505, 103, 1508, 1507, 50], [1509, 103, 1511, 1510, 0], [1517, 0, 0, 0, 0], [1518, 0, 0, 0, 0], [1521, 103, 1524, 1523, 52], [1498, 103, 1501, 1500, 49], [1490, 103, 1493, 1492, 47], [1494, 103, 1497, 1496, 48], [1513, 103, 1516, 1515, 51], [1525, 103, 1528, 1527, 53], [1529, 103, 1532, 1531, 54], [1533, 103, 1536, 1535, 55], [1542, 103, 1545, 1544, 56], [1548, 103, 1551, 1550, 57], [1564, 103, 1567, 1566, 58], [1568, 103, 1571, 1570, 59], [1572, 103, 1575, 1574, 60], [1592, 0, 0, 0, 0], [1594, 103, 1597, 1596, 64], [1598, 103, 1601, 1600, 65], [1602, 103, 1605, 1604, 66], [1606, 103, 1609, 1608, 67], [1584, 103, 1587, 1586, 62], [1588, 103, 1591, 1590, 63], [1610, 103, 1613, 1612, 68], [1580, 103, 1583, 1582, 61], [1619, 103, 1622, 1621, 69], [1661, 103, 1663, 1662, 0], [1658, 103, 1660, 1659, 0], [1664, 103, 1666, 1665, 0], [1654, 103, 1657, 1656, 72], [1682, 0, 0, 0, 0], [1683, 0, 0, 0, 0], [1675, 103, 1678, 1677, 75], [1679, 103, 1681, 1680, 0], [1685, 103, 1688, 1687, 76], [1689, 0, 0, 0, 0], [1690, 103, 1693, 1692, 77], [1671, 103, 1674, 1673, 74], [1694, 0, 0, 0, 0], [1650, 103, 1653, 1652, 71], [1667, 103, 1670, 1669, 73], [1646, 103, 1649, 1648, 70], [1631, 103, 1633, 1632, 0], [1636, 103, 1638, 1637, 0], [1640, 103, 1642, 1641, 0], [1726, 103, 1729, 1728, 78], [1738, 103, 1741, 1740, 80], [1734, 103, 1737, 1736, 79], [1769, 103, 1772, 1771, 84], [1754, 103, 1757, 1756, 81], [1758, 103, 1760, 1759, 0], [1761, 103, 1764, 1763, 82], [1765, 103, 1768, 1767, 83], [1777, 103, 1780, 1779, 85], [1781, 103, 1784, 1783, 86], [1789, 103, 1792, 1791, 87], [1801, 103, 1804, 1803, 88], [1814, 103, 1816, 1815, 0], [1817, 103, 1820, 1819, 89], [1833, 103, 1836, 1835, 90], [1849, 103, 1852, 1851, 91], [1857, 103, 1859, 1858, 0]]
  | 9 => [[564, 93, 567, 565, 566], [643, 93, 646, 644, 645], [772, 93, 775, 773, 774], [812, 93, 815, 813, 814], [843, 93, 846, 844, 845], [851, 93, 854, 852, 853], [878, 93, 881, 879, 880], [886, 93, 889, 887, 888], [987, 93, 990, 988, 989], [997, 93, 1000, 998, 999], [1004, 93, 1007, 1005, 1006], [1012, 93, 1015, 1013, 1014], [1019, 93, 1022, 1020, 1021], [1030, 93, 1033, 1031, 1032], [1047, 93, 1050, 1048, 1049], [1054, 93, 1057, 1055, 1056], [1079, 93, 1082, 1080, 1081], [1090, 93, 1093, 1091, 1092], [1101, 93, 1104, 1102, 1103], [1108, 93, 1111, 1109, 1110], [1131, 93, 1134, 1132, 1133], [1138, 93, 1141, 1139, 1140], [1152, 93, 1155, 1153, 1154], [1162, 93, 1165, 1163, 1164], [1169, 93, 1172, 1170, 1171], [1193, 93, 1196, 1194, 1195], [1201, 93, 1204, 1202, 1203], [1208, 93, 1211, 1209, 1210], [1225, 93, 1228, 1226, 1227], [1260, 93, 1263, 1261, 1262], [1273, 93, 1276, 1274, 1275], [1288, 93, 1291, 1289, 1290], [117, 93, 119, 118, 0], [1295, 103, 1297, 1296, 0], [560, 92, 562, 561, 0], [1471, 103, 1474, 1472, 1473], [1467, 103, 1470, 1468, 1469], [431, 93, 434, 432, 433], [1482, 103, 1485, 1483, 1484], [640, 92, 642, 641, 0], [1486, 103, 1489, 1487, 1488], [769, 92, 771, 770, 0], [1537, 103, 1540, 1538, 1539], [439, 93, 442, 440, 441], [1556, 103, 1559, 1557, 1558], [808, 92, 810, 809, 0], [1560, 103, 1563, 1561, 1562], [840, 92, 842, 841, 0], [1576, 103, 1579, 1577, 1578], [847, 92, 849, 848, 0], [1615, 103, 1618, 1616, 1617], [875, 92, 877, 876, 0], [1623, 103, 1626, 1624, 1625], [883, 92, 885, 884, 0], [1627, 103, 1630, 1628, 1629], [984, 92, 986, 985, 0], [1696, 103, 1699, 1697, 1698], [994, 92, 996, 995, 0], [1701, 103, 1704, 1702, 1703], [1001, 92, 1003, 1002, 0], [1707, 103, 1710, 1708, 1709], [443, 93, 446, 444, 445], [1713, 103, 1716, 1714, 1715], [1009, 92, 1011, 1010, 0], [1717, 103, 1720, 1718, 1719], [1016, 92, 1018, 1017, 0], [1722, 103, 1725, 1723, 1724], [1027, 92, 1029, 1028, 0], [1730, 103, 1733, 1731, 1732], [1044, 92, 1046, 1045, 0], [1742, 103, 1745, 1743, 1744], [447, 93, 450, 448, 449], [1746, 103, 1749, 1747, 1748], [1051, 92, 1053, 1052, 0], [1750, 103, 1753, 1751, 1752], [1076, 92, 1078, 1077, 0], [1773, 103, 1776, 1774, 1775], [1087, 92, 1089, 1088, 0], [1785, 103, 1788, 1786, 1787], [1098, 92, 1100, 1099, 0], [1793, 103, 1796, 1794, 1795], [1105, 92, 1107, 1106, 0], [1797, 103, 1800, 1798, 1799], [1128, 92, 1130, 1129, 0], [1806, 103, 1809, 1807, 1808], [1135, 92, 1137, 1136, 0], [1810, 103, 1813, 1811, 1812], [1149, 92, 1151, 1150, 0], [1821, 103, 1824, 1822, 1823], [1159, 92, 1161, 1160, 0], [1825, 103, 1828, 1826, 1827], [1166, 92, 1168, 1167, 0], [1829, 103, 1832, 1830, 1831], [1190, 92, 1192, 1191, 0], [1837, 103, 1840, 1838, 1839], [1198, 92, 1200, 1199, 0], [1841, 103, 1844, 1842, 1843], [455, 93, 458, 456, 457], [1845, 103, 1848, 1846, 1847], [1205, 92, 1207, 1206, 0], [1853, 103, 1856, 1854, 1855], [1221, 92, 1223, 1222, 0], [1860, 103, 1863, 1861, 1862], [1257, 92, 1259, 1258, 0], [1864, 103, 1867, 1865, 1866], [1270, 92, 1272, 1271, 0], [1868, 103, 1871, 1869, 1870], [1285, 92, 1287, 1286, 0], [1872, 103, 1875, 1873, 1874], [556, 93, 559, 557, 558], [1876, 103, 1879, 1877, 1878]]
  | _ => []
def am_newQ : Nat → List (List Nat) := fun o => match o with
  | 5 => [[129, 131, 95]]
  | 7 => [[123, 124, 94], [208, 209, 98], [245, 379, 102], [247, 248, 99], [290, 291, 100], [354, 131, 95], [356, 357, 101]]
  | 9 => [[115, 116, 93], [1293, 1294, 103]]
  | _ => []
def am_anewQ : Nat → List (List Nat) := fun o => match o with
  | 5 => [[129]]
  | 7 => [[123], [245]]
  | _ => []
def am_ciQ : Nat → List (List Nat) := fun o => match o with
  | 7 => [[1008]]
  | _ => []
def am_clQ : Nat → List (List Nat) := fun o => match o with
  | 1 => [[953], [958]]
  | 7 => [[1127], [1070], [1071], [1072], [1073], [1074]]
  | 8 => [[1634], [1635], [1614], [1639], [1643], [1644], [1475], [1476], [1480], [1481], [1593], [1684], [1695], [1645], [1700], [1705], [1706], [1711], [1712], [1721], [1805]]
  | 9 => [[1880]]
  | _ => []
def am_layQ : Nat → List Nat := fun o => match o with
  | 0 => [370, 372, 374, 376]
  | 1 => [321, 323, 325, 327, 329, 331, 333, 335, 337, 339, 341, 343, 345, 347, 349, 351]
  | 2 => [271, 273, 275, 277, 279, 281, 283, 285, 287]
  | 3 => [226, 228, 230, 232, 234, 236, 238, 240, 242]
  | 4 => [147, 149, 151]
  | 5 => [184, 186, 188, 190, 192, 194, 196, 198, 200, 202, 204]
  | 6 => [389, 391, 393]
  | 7 => [408, 410, 412, 414, 416, 418, 420, 422, 424, 426, 428]
  | 8 => [1357, 1359, 1361, 1363, 1365, 1367, 1369, 1371, 1373, 1375, 1377, 1379, 1381, 1383, 1385, 1387, 1389, 1391, 1393, 1395, 1397, 1399, 1401, 1403, 1405, 1407, 1409, 1411, 1413, 1415, 1417, 1419, 1421, 1423, 1425, 1427, 1429, 1431, 1433, 1435, 1437, 1439, 1441, 1443, 1445, 1447, 1449, 1451, 1453, 1455, 1457, 1459, 1461, 1463]
  | _ => []
def am_TX : Nat → u_T := fun ci => match ci with
  | 0 => TX0
  | 1 => TX1
  | 2 => TX2
  | 3 => TX3
  | 4 => TX4
  | 5 => TX5
  | 6 => TX6
  | 7 => TX7
  | _ => TX8
def am_wat (i : Nat) (w : Cond) : Bool := decide (lw_tbl[i]? = some w) && w.onTables
theorem am_wat_in {i : Nat} {w : Cond} (h : am_wat i w = true) : w ∈ am_T := by
  simp only [am_wat, Bool.and_eq_true, decide_eq_true_eq] at h
  exact List.mem_filter.mpr ⟨List.mem_of_getElem? h.1, h.2⟩
def am_zc {α β : Type} (f : α → β → Bool) : List α → List β → Bool
  | [], [] => true
  | a :: l, b :: m => f a b && am_zc f l m
  | _, _ => false
theorem am_zc_in {α β : Type} {f : α → β → Bool} : ∀ {l : List α} {m : List β}, am_zc f l m = true → ∀ q ∈ l, ∃ r, f q r = true
  | [], [], _, q, h => by cases h
  | [], _ :: _, h, _, _ => by simp [am_zc] at h
  | _ :: _, [], h, _, _ => by simp [am_zc] at h
  | a :: l, b :: m, h, q, hq => by
    simp only [am_zc, Bool.and_eq_true] at h
    rcases List.mem_cons.mp hq with rfl | hq
    · exact ⟨b, h.1⟩
    · exact am_zc_in h.2 q hq
def am_fchk (o : Nat) (q : Nat × Nat × Nat) (r : List Nat) : Bool := match r with
  | [p] => decide (q.2.1 < 9) && decide (q.2.2 < (am_fk q.2.1).length) && decide ((am_TX q.2.1 q.2.2).1 = am_cn q.2.1) && decide ((am_TX q.2.1 q.2.2).2.2.2 = am_fin q.2.1 q.2.2) &&
    (if p < 10000 then am_wat p (.fieldLink (am_cn o) q.1 (am_cn q.2.1) (am_TX q.2.1 q.2.2).2.1 (am_TX q.2.1 q.2.2).2.2.1)
     else am_wat (p - 10000) (.fieldLinkNest (am_cn o) q.1 (am_cn q.2.1) (am_TX q.2.1 q.2.2).2.1 (am_TX q.2.1 q.2.2).2.2.1 "DartHangar"))
  | _ => false
def am_cw (M : am_M) : Cond := if am_hh M = [] then .code (am_name M) (am_code M) (am_maxL M) (am_ret M) else .codeWith (am_name M) (am_code M) (am_maxL M) (am_ret M) (am_hh M)
def am_cchk (o : Nat) (q : Nat × Nat × Nat × am_M) (r : List Nat) : Bool := match q, r with
  | (x, kd, na, M), [p0, p1, p2, p3, p4] =>
    if kd ≤ 2 then
      (if p0 < 10000 then am_wat p0 (.methodLink (am_cn o) x (am_name M)) else am_wat (p0 - 10000) (.methodLinkNest (am_cn o) x (am_name M) "DartHangar") && decide (kd ≠ 0) && decide (am_hh M = [])) &&
      am_wat p1 (.initialized (am_name M).cls) && am_wat p2 (am_cw M) && decide ((am_name M).cls = am_cn (am_own M)) && decide (am_maxL M ≤ 40) &&
      decide ((am_name M).cls ≠ "java/lang/invoke/MethodHandle" ∧ (am_name M).cls ≠ "java/lang/invoke/VarHandle") && decide ((parseMethodDescriptor (am_name M).desc).map (fun d => d.parameters.length) = some na) && plainName (am_name M).cls &&
      (if kd = 0 then am_wat p3 (.instanceMethod (am_name M)) && am_wat p4 (.selects (am_name M).cls (am_name M) (am_name M)) && decide (am_own M < 9) && decide (am_hh M = []) else
       if kd = 1 then am_wat p3 (.static (am_name M)) else am_wat p3 (.instanceMethod (am_name M)) && decide ((am_name M).name = "<init>") && decide (am_ret M = none) && decide (am_hh M = []))
    else if kd = 3 then am_wat p0 (.methodLink (am_cn o) x Lib.objectInit)
    else if kd = 4 then am_wat p0 (.methodLink (am_cn o) x yJ0_length_8abf5)
    else if kd = 5 then am_wat p0 (.methodLink (am_cn o) x yJ0_charAt_5068e)
    else if kd = 6 then am_wat p0 (.methodLink (am_cn o) x arraycopyName)
    else if kd = 10 then am_wat p0 (.methodLink (am_cn o) x Lib.Math.max.name)
    else if kd = 11 then am_wat p0 (.methodLink (am_cn o) x Lib.Math.min.name)
    else if kd = 12 then am_wat p0 (.methodLink (am_cn o) x Lib.Math.abs.name)
    else if kd = 13 then am_wat p0 (.methodLink (am_cn o) x Lib.MathLoose.max_long.x)
    else decide (kd = 14) && am_wat p0 (.methodLink (am_cn o) x Lib.MathLoose.min_long.x)
  | _, _ => false
def am_nchk (o : Nat) (q : Nat × Nat) (r : List Nat) : Bool := match r with
  | [p0, p1, p2] => decide (q.2 < 9) && am_wat p0 (.classLink (am_cn o) q.1 (am_cn q.2)) && am_wat p1 (.instantiable (am_cn q.2) (am_fk q.2).length) && am_wat p2 (.initialized (am_cn q.2))
  | _ => false
def am_achk (o : Nat) (q : Nat × Nat) (r : List Nat) : Bool := match r with
  | [p0] => decide (23 ≤ q.2 ∧ q.2 ≤ 25) && am_wat p0 (.classLink (am_cn o) q.1 (am_cn (q.2 - 19)))
  | _ => false
def am_ichk (o : Nat) (q : Nat × Int32) (r : List Nat) : Bool := match r with
  | [p0] => am_wat p0 (.constant (am_cn o) q.1 q.2)
  | _ => false
def am_lchk (o : Nat) (q : Nat × Int64) (r : List Nat) : Bool := match r with
  | [p0] => am_wat p0 (.constantLong (am_cn o) q.1 q.2)
  | _ => false
theorem am_fchk_0 : am_zc (am_fchk 0) (am_fldT 0) (am_fldQ 0) = true := by decide +kernel
theorem am_fchk_1 : am_zc (am_fchk 1) (am_fldT 1) (am_fldQ 1) = true := by decide +kernel
theorem am_fchk_2 : am_zc (am_fchk 2) (am_fldT 2) (am_fldQ 2) = true := by decide +kernel
theorem am_fchk_3 : am_zc (am_fchk 3) (am_fldT 3) (am_fldQ 3) = true := by decide +kernel
theorem am_fchk_4 : am_zc (am_fchk 4) (am_fldT 4) (am_fldQ 4) = true := by decide +kernel
theorem am_fchk_5 : am_zc (am_fchk 5) (am_fldT 5) (am_fldQ 5) = true := by decide +kernel
theorem am_fchk_6 : am_zc (am_fchk 6) (am_fldT 6) (am_fldQ 6) = true := by decide +kernel
theorem am_fchk_7 : am_zc (am_fchk 7) (am_fldT 7) (am_fldQ 7) = true := by decide +kernel
theorem am_fchk_8 : am_zc (am_fchk 8) (am_fldT 8) (am_fldQ 8) = true := by decide +kernel
theorem am_fchk_9 : am_zc (am_fchk 9) (am_fldT 9) (am_fldQ 9) = true := by decide +kernel
theorem am_fchk_all (o : Nat) (q : Nat × Nat × Nat) (h : q ∈ am_fldT o) : ∃ r, am_fchk o q r = true := match o, h with
  | 0, h => am_zc_in am_fchk_0 q h
  | 1, h => am_zc_in am_fchk_1 q h
  | 2, h => am_zc_in am_fchk_2 q h
  | 3, h => am_zc_in am_fchk_3 q h
  | 4, h => am_zc_in am_fchk_4 q h
  | 5, h => am_zc_in am_fchk_5 q h
  | 6, h => am_zc_in am_fchk_6 q h
  | 7, h => am_zc_in am_fchk_7 q h
  | 8, h => am_zc_in am_fchk_8 q h
  | 9, h => am_zc_in am_fchk_9 q h
  | _ + 10, h => by cases h
theorem am_cc0_0 : am_cchk 0 (3, 3, 0, mX0_init) [361, 0, 0, 0, 0] = true := by decide +kernel
theorem am_cc0_1 : am_cchk 0 (19, 1, 1, mX7_triedKind) [11125, 93, 525, 524, 0] = true := by decide +kernel
theorem am_cc0_2 : am_cchk 0 (26, 1, 1, mX7_triedN) [11126, 93, 528, 527, 0] = true := by decide +kernel
set_option maxRecDepth 100000 in
theorem am_cchk_0 : ∀ q ∈ am_callT 0, ∃ r, am_cchk 0 q r = true := List.forall_mem_cons.mpr ⟨⟨_, am_cc0_0⟩, List.forall_mem_cons.mpr ⟨⟨_, am_cc0_1⟩, List.forall_mem_cons.mpr ⟨⟨_, am_cc0_2⟩, fun _ h => absurd h List.not_mem_nil⟩⟩⟩
theorem am_cc1_0 : am_cchk 1 (3, 3, 0, mX0_init) [295, 0, 0, 0, 0] = true := by decide +kernel
theorem am_cc1_1 : am_cchk 1 (28, 0, 1, mX2_dampWeight) [904, 99, 907, 905, 906] = true := by decide +kernel
theorem am_cc1_2 : am_cchk 1 (48, 1, 1, mX7_cosine) [10908, 93, 910, 909, 0] = true := by decide +kernel
theorem am_cc1_3 : am_cchk 1 (54, 1, 1, mX7_sine) [10916, 93, 913, 912, 0] = true := by decide +kernel
theorem am_cc1_4 : am_cchk 1 (84, 0, 3, mX1_begin) [900, 100, 903, 901, 902] = true := by decide +kernel
theorem am_cc1_5 : am_cchk 1 (88, 0, 0, mX1_goesOn) [917, 100, 920, 918, 919] = true := by decide +kernel
theorem am_cc1_6 : am_cchk 1 (92, 0, 0, mX1_tick) [921, 100, 924, 922, 923] = true := by decide +kernel
theorem am_cc1_7 : am_cchk 1 (95, 1, 2, mX7_pathOf) [10925, 93, 927, 926, 0] = true := by decide +kernel
theorem am_cc1_8 : am_cchk 1 (99, 1, 2, mX7_attackOf) [10936, 93, 938, 937, 0] = true := by decide +kernel
theorem am_cc1_9 : am_cchk 1 (102, 12, 0, mX0_init) [948, 0, 0, 0, 0] = true := by decide +kernel
theorem am_cc1_10 : am_cchk 1 (107, 0, 2, mX1_force) [949, 100, 952, 951, 29] = true := by decide +kernel
theorem am_cc1_11 : am_cchk 1 (116, 0, 1, mX1_turnNose) [954, 100, 957, 956, 30] = true := by decide +kernel
theorem am_cc1_12 : am_cchk 1 (120, 1, 2, mX7_keptWithin) [10959, 93, 941, 940, 0] = true := by decide +kernel
theorem am_cc1_13 : am_cchk 1 (124, 0, 0, mX1_pullNow) [960, 100, 963, 962, 31] = true := by decide +kernel
theorem am_cc1_14 : am_cchk 1 (128, 0, 0, mX1_move) [965, 100, 968, 967, 32] = true := by decide +kernel
theorem am_cc1_15 : am_cchk 1 (131, 0, 0, mX1_noteEnd) [972, 100, 975, 974, 33] = true := by decide +kernel
theorem am_cc1_16 : am_cchk 1 (148, 0, 2, mX4_get) [964, 95, 478, 476, 477] = true := by decide +kernel
theorem am_cc1_17 : am_cchk 1 (151, 10, 0, mX0_init) [969, 0, 0, 0, 0] = true := by decide +kernel
set_option maxRecDepth 100000 in
theorem am_cchk_1 : ∀ q ∈ am_callT 1, ∃ r, am_cchk 1 q r = true := List.forall_mem_cons.mpr ⟨⟨_, am_cc1_0⟩, List.forall_mem_cons.mpr ⟨⟨_, am_cc1_1⟩, List.forall_mem_cons.mpr ⟨⟨_, am_cc1_2⟩, List.forall_mem_cons.mpr ⟨⟨_, am_cc1_3⟩, List.forall_mem_cons.mpr ⟨⟨_, am_cc1_4⟩, List.forall_mem_cons.mpr ⟨⟨_, am_cc1_5⟩, List.forall_mem_cons.mpr ⟨⟨_, am_cc1_6⟩, List.forall_mem_cons.mpr ⟨⟨_, am_cc1_7⟩, List.forall_mem_cons.mpr ⟨⟨_, am_cc1_8⟩, List.forall_mem_cons.mpr ⟨⟨_, am_cc1_9⟩, List.forall_mem_cons.mpr ⟨⟨_, am_cc1_10⟩, List.forall_mem_cons.mpr ⟨⟨_, am_cc1_11⟩, List.forall_mem_cons.mpr ⟨⟨_, am_cc1_12⟩, List.forall_mem_cons.mpr ⟨⟨_, am_cc1_13⟩, List.forall_mem_cons.mpr ⟨⟨_, am_cc1_14⟩, List.forall_mem_cons.mpr ⟨⟨_, am_cc1_15⟩, List.forall_mem_cons.mpr ⟨⟨_, am_cc1_16⟩, List.forall_mem_cons.mpr ⟨⟨_, am_cc1_17⟩, fun _ h => absurd h List.not_mem_nil⟩⟩⟩⟩⟩⟩⟩⟩⟩⟩⟩⟩⟩⟩⟩⟩⟩⟩
theorem am_cc2_0 : am_cchk 2 (3, 3, 0, mX0_init) [252, 0, 0, 0, 0] = true := by decide +kernel
theorem am_cc2_1 : am_cchk 2 (15, 0, 2, mX2_spread) [471, 99, 474, 473, 2] = true := by decide +kernel
theorem am_cc2_2 : am_cchk 2 (25, 0, 2, mX4_get) [475, 95, 478, 476, 477] = true := by decide +kernel
theorem am_cc2_3 : am_cchk 2 (29, 0, 2, mX2_foldOnce) [479, 99, 482, 480, 481] = true := by decide +kernel
theorem am_cc2_4 : am_cchk 2 (33, 0, 0, mX2_weigh) [503, 99, 506, 504, 505] = true := by decide +kernel
theorem am_cc2_5 : am_cchk 2 (45, 0, 1, mX2_foldNose) [483, 99, 486, 485, 3] = true := by decide +kernel
theorem am_cc2_6 : am_cchk 2 (49, 0, 1, mX2_foldSide) [495, 99, 498, 497, 6] = true := by decide +kernel
theorem am_cc2_7 : am_cchk 2 (52, 0, 1, mX2_foldCorner) [499, 99, 502, 501, 7] = true := by decide +kernel
theorem am_cc2_8 : am_cchk 2 (55, 0, 2, mX2_placeOf) [487, 99, 490, 489, 4] = true := by decide +kernel
theorem am_cc2_9 : am_cchk 2 (58, 0, 2, mX2_lay) [491, 99, 494, 493, 5] = true := by decide +kernel
theorem am_cc2_10 : am_cchk 2 (73, 0, 2, mX2_layersAt) [507, 99, 510, 508, 509] = true := by decide +kernel
theorem am_cc2_11 : am_cchk 2 (79, 6, 0, mX0_init) [549, 0, 0, 0, 0] = true := by decide +kernel
set_option maxRecDepth 100000 in
theorem am_cchk_2 : ∀ q ∈ am_callT 2, ∃ r, am_cchk 2 q r = true := List.forall_mem_cons.mpr ⟨⟨_, am_cc2_0⟩, List.forall_mem_cons.mpr ⟨⟨_, am_cc2_1⟩, List.forall_mem_cons.mpr ⟨⟨_, am_cc2_2⟩, List.forall_mem_cons.mpr ⟨⟨_, am_cc2_3⟩, List.forall_mem_cons.mpr ⟨⟨_, am_cc2_4⟩, List.forall_mem_cons.mpr ⟨⟨_, am_cc2_5⟩, List.forall_mem_cons.mpr ⟨⟨_, am_cc2_6⟩, List.forall_mem_cons.mpr ⟨⟨_, am_cc2_7⟩, List.forall_mem_cons.mpr ⟨⟨_, am_cc2_8⟩, List.forall_mem_cons.mpr ⟨⟨_, am_cc2_9⟩, List.forall_mem_cons.mpr ⟨⟨_, am_cc2_10⟩, List.forall_mem_cons.mpr ⟨⟨_, am_cc2_11⟩, fun _ h => absurd h List.not_mem_nil⟩⟩⟩⟩⟩⟩⟩⟩⟩⟩⟩⟩
theorem am_cc3_0 : am_cchk 3 (3, 3, 0, mX0_init) [213, 0, 0, 0, 0] = true := by decide +kernel
theorem am_cc3_1 : am_cchk 3 (22, 0, 1, mX3_begin) [651, 98, 654, 653, 14] = true := by decide +kernel
theorem am_cc3_2 : am_cchk 3 (37, 0, 1, mX3_readFold) [677, 98, 680, 679, 18] = true := by decide +kernel
theorem am_cc3_3 : am_cchk 3 (41, 0, 0, mX3_kindOfWord) [681, 98, 684, 683, 19] = true := by decide +kernel
theorem am_cc3_4 : am_cchk 3 (45, 0, 0, mX3_refuse) [743, 98, 746, 745, 21] = true := by decide +kernel
theorem am_cc3_5 : am_cchk 3 (48, 0, 1, mX3_fail) [747, 98, 750, 749, 22] = true := by decide +kernel
theorem am_cc3_6 : am_cchk 3 (51, 0, 0, mX3_advance) [656, 98, 659, 658, 15] = true := by decide +kernel
theorem am_cc3_7 : am_cchk 3 (54, 0, 2, mX3_readNumber) [751, 98, 754, 753, 23] = true := by decide +kernel
theorem am_cc3_8 : am_cchk 3 (58, 0, 0, mX3_readStop) [755, 98, 758, 757, 24] = true := by decide +kernel
theorem am_cc3_9 : am_cchk 3 (61, 0, 3, mX4_add) [759, 95, 532, 530, 531] = true := by decide +kernel
theorem am_cc3_10 : am_cchk 3 (65, 0, 1, mX3_readLine) [782, 98, 785, 784, 25] = true := by decide +kernel
theorem am_cc3_11 : am_cchk 3 (69, 0, 0, mX3_lineOfWord) [786, 98, 789, 788, 26] = true := by decide +kernel
theorem am_cc3_12 : am_cchk 3 (84, 11, 0, mX0_init) [655, 0, 0, 0, 0] = true := by decide +kernel
theorem am_cc3_13 : am_cchk 3 (101, 1, 1, mX3_foldWord) [685, 98, 687, 686, 0] = true := by decide +kernel
theorem am_cc3_14 : am_cchk 3 (105, 0, 1, mX3_isWord) [691, 98, 694, 693, 20] = true := by decide +kernel
theorem am_cc3_15 : am_cchk 3 (109, 1, 1, mX3_lineWord) [790, 98, 792, 791, 0] = true := by decide +kernel
theorem am_cc3_16 : am_cchk 3 (132, 4, 0, mX0_init) [695, 0, 0, 0, 0] = true := by decide +kernel
theorem am_cc3_17 : am_cchk 3 (136, 0, 1, mX3_byteAt) [660, 98, 663, 662, 16] = true := by decide +kernel
theorem am_cc3_18 : am_cchk 3 (140, 5, 0, mX0_init) [705, 0, 0, 0, 0] = true := by decide +kernel
theorem am_cc3_19 : am_cchk 3 (144, 1, 1, mX3_isBlank) [664, 98, 666, 665, 0] = true := by decide +kernel
theorem am_cc3_20 : am_cchk 3 (148, 1, 1, mX3_isLetter) [667, 98, 669, 668, 0] = true := by decide +kernel
theorem am_cc3_21 : am_cchk 3 (151, 1, 1, mX3_isDigit) [670, 98, 672, 671, 0] = true := by decide +kernel
theorem am_cc3_22 : am_cchk 3 (154, 0, 1, mX3_advanceDigits) [673, 98, 676, 675, 17] = true := by decide +kernel
set_option maxRecDepth 100000 in
theorem am_cchk_3 : ∀ q ∈ am_callT 3, ∃ r, am_cchk 3 q r = true := List.forall_mem_cons.mpr ⟨⟨_, am_cc3_0⟩, List.forall_mem_cons.mpr ⟨⟨_, am_cc3_1⟩, List.forall_mem_cons.mpr ⟨⟨_, am_cc3_2⟩, List.forall_mem_cons.mpr ⟨⟨_, am_cc3_3⟩, List.forall_mem_cons.mpr ⟨⟨_, am_cc3_4⟩, List.forall_mem_cons.mpr ⟨⟨_, am_cc3_5⟩, List.forall_mem_cons.mpr ⟨⟨_, am_cc3_6⟩, List.forall_mem_cons.mpr ⟨⟨_, am_cc3_7⟩, List.forall_mem_cons.mpr ⟨⟨_, am_cc3_8⟩, List.forall_mem_cons.mpr ⟨⟨_, am_cc3_9⟩, List.forall_mem_cons.mpr ⟨⟨_, am_cc3_10⟩, List.forall_mem_cons.mpr ⟨⟨_, am_cc3_11⟩, List.forall_mem_cons.mpr ⟨⟨_, am_cc3_12⟩, List.forall_mem_cons.mpr ⟨⟨_, am_cc3_13⟩, List.forall_mem_cons.mpr ⟨⟨_, am_cc3_14⟩, List.forall_mem_cons.mpr ⟨⟨_, am_cc3_15⟩, List.forall_mem_cons.mpr ⟨⟨_, am_cc3_16⟩, List.forall_mem_cons.mpr ⟨⟨_, am_cc3_17⟩, List.forall_mem_cons.mpr ⟨⟨_, am_cc3_18⟩, List.forall_mem_cons.mpr ⟨⟨_, am_cc3_19⟩, List.forall_mem_cons.mpr ⟨⟨_, am_cc3_20⟩, List.forall_mem_cons.mpr ⟨⟨_, am_cc3_21⟩, List.forall_mem_cons.mpr ⟨⟨_, am_cc3_22⟩, fun _ h => absurd h List.not_mem_nil⟩⟩⟩⟩⟩⟩⟩⟩⟩⟩⟩⟩⟩⟩⟩⟩⟩⟩⟩⟩⟩⟩⟩
theorem am_cc4_0 : am_cchk 4 (3, 3, 0, mX0_init) [135, 0, 0, 0, 0] = true := by decide +kernel
theorem am_cc4_1 : am_cchk 4 (15, 11, 0, mX0_init) [136, 0, 0, 0, 0] = true := by decide +kernel
theorem am_cc4_2 : am_cchk 4 (28, 0, 3, mX4_put) [533, 95, 536, 535, 10] = true := by decide +kernel
theorem am_cc4_3 : am_cchk 4 (32, 6, 0, mX0_init) [768, 0, 0, 0, 0] = true := by decide +kernel
set_option maxRecDepth 100000 in
theorem am_cchk_4 : ∀ q ∈ am_callT 4, ∃ r, am_cchk 4 q r = true := List.forall_mem_cons.mpr ⟨⟨_, am_cc4_0⟩, List.forall_mem_cons.mpr ⟨⟨_, am_cc4_1⟩, List.forall_mem_cons.mpr ⟨⟨_, am_cc4_2⟩, List.forall_mem_cons.mpr ⟨⟨_, am_cc4_3⟩, fun _ h => absurd h List.not_mem_nil⟩⟩⟩⟩
theorem am_cc5_0 : am_cchk 5 (3, 3, 0, mX0_init) [128, 0, 0, 0, 0] = true := by decide +kernel
theorem am_cc5_1 : am_cchk 5 (31, 2, 1, mX4_init) [132, 95, 134, 133, 0] = true := by decide +kernel
theorem am_cc5_2 : am_cchk 5 (47, 6, 0, mX0_init) [157, 0, 0, 0, 0] = true := by decide +kernel
theorem am_cc5_3 : am_cchk 5 (59, 0, 1, mX4_copyFrom) [764, 95, 767, 765, 766] = true := by decide +kernel
set_option maxRecDepth 100000 in
theorem am_cchk_5 : ∀ q ∈ am_callT 5, ∃ r, am_cchk 5 q r = true := List.forall_mem_cons.mpr ⟨⟨_, am_cc5_0⟩, List.forall_mem_cons.mpr ⟨⟨_, am_cc5_1⟩, List.forall_mem_cons.mpr ⟨⟨_, am_cc5_2⟩, List.forall_mem_cons.mpr ⟨⟨_, am_cc5_3⟩, fun _ h => absurd h List.not_mem_nil⟩⟩⟩⟩
theorem am_cc6_0 : am_cchk 6 (3, 3, 0, mX0_init) [383, 0, 0, 0, 0] = true := by decide +kernel
theorem am_cc6_1 : am_cchk 6 (22, 0, 1, mX6_cut) [1253, 102, 1256, 1255, 45] = true := by decide +kernel
set_option maxRecDepth 100000 in
theorem am_cchk_6 : ∀ q ∈ am_callT 6, ∃ r, am_cchk 6 q r = true := List.forall_mem_cons.mpr ⟨⟨_, am_cc6_0⟩, List.forall_mem_cons.mpr ⟨⟨_, am_cc6_1⟩, fun _ h => absurd h List.not_mem_nil⟩⟩
theorem am_cc7_0 : am_cchk 7 (3, 3, 0, mX0_init) [120, 0, 0, 0, 0] = true := by decide +kernel
theorem am_cc7_1 : am_cchk 7 (11, 2, 0, mX5_init) [125, 94, 127, 126, 0] = true := by decide +kernel
theorem am_cc7_2 : am_cchk 7 (22, 2, 0, mX3_init) [10210, 98, 212, 211, 0] = true := by decide +kernel
theorem am_cc7_3 : am_cchk 7 (35, 2, 0, mX2_init) [10249, 99, 251, 250, 0] = true := by decide +kernel
theorem am_cc7_4 : am_cchk 7 (45, 2, 2, mX1_init) [292, 100, 294, 293, 0] = true := by decide +kernel
theorem am_cc7_5 : am_cchk 7 (54, 2, 1, mX4_init) [355, 95, 134, 133, 0] = true := by decide +kernel
theorem am_cc7_6 : am_cchk 7 (67, 2, 0, mX0_init) [10358, 101, 360, 359, 0] = true := by decide +kernel
theorem am_cc7_7 : am_cchk 7 (75, 2, 0, mX6_init) [10380, 102, 382, 381, 0] = true := by decide +kernel
theorem am_cc7_8 : am_cchk 7 (76, 1, 3, mX7_needWithin) [568, 93, 570, 569, 0] = true := by decide +kernel
theorem am_cc7_9 : am_cchk 7 (90, 0, 1, mX3_append) [435, 98, 438, 436, 437] = true := by decide +kernel
theorem am_cc7_10 : am_cchk 7 (96, 0, 2, mX3_readWay) [647, 98, 650, 648, 649] = true := by decide +kernel
theorem am_cc7_11 : am_cchk 7 (103, 0, 1, mX5_addWay) [760, 94, 763, 761, 762] = true := by decide +kernel
theorem am_cc7_12 : am_cchk 7 (110, 6, 0, mX0_init) [777, 0, 0, 0, 0] = true := by decide +kernel
theorem am_cc7_13 : am_cchk 7 (116, 0, 2, mX3_readLaw) [778, 98, 781, 779, 780] = true := by decide +kernel
theorem am_cc7_14 : am_cchk 7 (126, 0, 1, mX7_needWay) [816, 93, 819, 818, 27] = true := by decide +kernel
theorem am_cc7_15 : am_cchk 7 (133, 1, 2, mX7_codeOf) [552, 93, 554, 553, 0] = true := by decide +kernel
theorem am_cc7_16 : am_cchk 7 (137, 0, 1, mX7_breakOf) [463, 93, 466, 465, 1] = true := by decide +kernel
theorem am_cc7_17 : am_cchk 7 (140, 0, 1, mX7_needMake) [855, 93, 858, 857, 28] = true := by decide +kernel
theorem am_cc7_18 : am_cchk 7 (161, 0, 2, mX2_layersAt) [882, 99, 510, 508, 509] = true := by decide +kernel
theorem am_cc7_19 : am_cchk 7 (165, 1, 3, mX7_needThrow) [890, 93, 892, 891, 0] = true := by decide +kernel
theorem am_cc7_20 : am_cchk 7 (168, 0, 3, mX1_flyOut) [896, 100, 899, 897, 898] = true := by decide +kernel
theorem am_cc7_21 : am_cchk 7 (183, 0, 0, mX1_loops) [976, 100, 979, 977, 978] = true := by decide +kernel
theorem am_cc7_22 : am_cchk 7 (187, 0, 0, mX1_evenFrom) [980, 100, 983, 981, 982] = true := by decide +kernel
theorem am_cc7_23 : am_cchk 7 (190, 0, 3, mX1_begin) [991, 100, 903, 901, 902] = true := by decide +kernel
theorem am_cc7_24 : am_cchk 7 (193, 0, 0, mX1_goesOn) [992, 100, 920, 918, 919] = true := by decide +kernel
theorem am_cc7_25 : am_cchk 7 (197, 0, 0, mX1_tick) [993, 100, 924, 922, 923] = true := by decide +kernel
theorem am_cc7_26 : am_cchk 7 (218, 0, 3, mX4_add) [529, 95, 532, 530, 531] = true := by decide +kernel
theorem am_cc7_27 : am_cchk 7 (229, 1, 1, mX7_needEars) [893, 93, 895, 894, 0] = true := by decide +kernel
theorem am_cc7_28 : am_cchk 7 (232, 0, 1, mX1_score) [1023, 100, 1026, 1024, 1025] = true := by decide +kernel
theorem am_cc7_29 : am_cchk 7 (236, 0, 2, mX7_isRest) [1034, 93, 1037, 1036, 34] = true := by decide +kernel
theorem am_cc7_30 : am_cchk 7 (240, 0, 2, mX7_torque) [1038, 93, 1041, 1040, 35] = true := by decide +kernel
theorem am_cc7_31 : am_cchk 7 (243, 0, 0, mX5_addHand) [451, 94, 454, 452, 453] = true := by decide +kernel
theorem am_cc7_32 : am_cchk 7 (246, 0, 1, mX7_needHand) [1058, 93, 1061, 1060, 36] = true := by decide +kernel
theorem am_cc7_33 : am_cchk 7 (249, 1, 3, mX7_isThrow) [1067, 93, 1069, 1068, 0] = true := by decide +kernel
theorem am_cc7_34 : am_cchk 7 (260, 0, 3, mX7_reachOf) [1083, 93, 1086, 1085, 37] = true := by decide +kernel
theorem am_cc7_35 : am_cchk 7 (264, 0, 2, mX7_bestEarsOf) [1094, 93, 1097, 1096, 38] = true := by decide +kernel
theorem am_cc7_36 : am_cchk 7 (268, 0, 1, mX5_wayAt) [820, 94, 823, 821, 822] = true := by decide +kernel
theorem am_cc7_37 : am_cchk 7 (271, 0, 4, mX7_findBestChange) [1112, 93, 1115, 1114, 39] = true := by decide +kernel
theorem am_cc7_38 : am_cchk 7 (290, 0, 3, mX4_putFold) [1117, 95, 1120, 1118, 1119] = true := by decide +kernel
theorem am_cc7_39 : am_cchk 7 (293, 1, 3, mX7_needHoop) [1142, 93, 1144, 1143, 0] = true := by decide +kernel
theorem am_cc7_40 : am_cchk 7 (296, 0, 3, mX1_goesThrough) [1145, 100, 1148, 1146, 1147] = true := by decide +kernel
theorem am_cc7_41 : am_cchk 7 (300, 0, 2, mX4_get) [555, 95, 478, 476, 477] = true := by decide +kernel
theorem am_cc7_42 : am_cchk 7 (303, 1, 2, mX7_power) [1156, 93, 1158, 1157, 0] = true := by decide +kernel
theorem am_cc7_43 : am_cchk 7 (315, 0, 0, mX7_allEntriesThrow) [1174, 93, 1177, 1176, 40] = true := by decide +kernel
theorem am_cc7_44 : am_cchk 7 (318, 0, 1, mX5_handAt) [1062, 94, 1065, 1063, 1064] = true := by decide +kernel
theorem am_cc7_45 : am_cchk 7 (321, 0, 2, mX7_farOf) [1178, 93, 1181, 1180, 41] = true := by decide +kernel
theorem am_cc7_46 : am_cchk 7 (324, 0, 2, mX7_rowsBelow) [1182, 93, 1185, 1184, 42] = true := by decide +kernel
theorem am_cc7_47 : am_cchk 7 (328, 12, 0, mX0_init) [928, 0, 0, 0, 0] = true := by decide +kernel
theorem am_cc7_48 : am_cchk 7 (334, 10, 0, mX0_init) [1197, 0, 0, 0, 0] = true := by decide +kernel
theorem am_cc7_49 : am_cchk 7 (337, 0, 2, mX7_findNoFold) [459, 93, 462, 461, 0] = true := by decide +kernel
theorem am_cc7_50 : am_cchk 7 (340, 0, 2, mX7_findOneFold) [515, 93, 518, 517, 8] = true := by decide +kernel
theorem am_cc7_51 : am_cchk 7 (343, 0, 2, mX7_findTwoFolds) [537, 93, 540, 539, 11] = true := by decide +kernel
theorem am_cc7_52 : am_cchk 7 (346, 0, 1, mX7_needTray) [1212, 93, 1215, 1214, 44] = true := by decide +kernel
theorem am_cc7_53 : am_cchk 7 (350, 0, 2, mX6_lay) [1217, 102, 1220, 1218, 1219] = true := by decide +kernel
theorem am_cc7_54 : am_cchk 7 (354, 1, 1, mX7_needThere) [1229, 93, 1231, 1230, 0] = true := by decide +kernel
theorem am_cc7_55 : am_cchk 7 (364, 0, 2, mX6_put) [1249, 102, 1252, 1250, 1251] = true := by decide +kernel
theorem am_cc7_56 : am_cchk 7 (370, 0, 1, mX6_get) [1265, 102, 1268, 1266, 1267] = true := by decide +kernel
theorem am_cc7_57 : am_cchk 7 (375, 1, 1, mX7_needImageNumber) [1277, 93, 1279, 1278, 0] = true := by decide +kernel
theorem am_cc7_58 : am_cchk 7 (378, 0, 1, mX5_copyFrom) [1281, 94, 1284, 1282, 1283] = true := by decide +kernel
theorem am_cc7_59 : am_cchk 7 (407, 0, 3, mX2_foldAll) [467, 99, 470, 468, 469] = true := by decide +kernel
theorem am_cc7_60 : am_cchk 7 (411, 0, 2, mX2_isLike) [511, 99, 514, 512, 513] = true := by decide +kernel
theorem am_cc7_61 : am_cchk 7 (414, 0, 1, mX7_tryFirst) [519, 93, 522, 521, 9] = true := by decide +kernel
theorem am_cc7_62 : am_cchk 7 (417, 0, 2, mX7_findSecond) [541, 93, 544, 543, 12] = true := by decide +kernel
theorem am_cc7_63 : am_cchk 7 (420, 1, 1, mX7_triedKind) [523, 93, 525, 524, 0] = true := by decide +kernel
theorem am_cc7_64 : am_cchk 7 (423, 1, 1, mX7_triedN) [526, 93, 528, 527, 0] = true := by decide +kernel
theorem am_cc7_65 : am_cchk 7 (426, 0, 1, mX2_copyFrom) [545, 99, 548, 546, 547] = true := by decide +kernel
theorem am_cc7_66 : am_cchk 7 (429, 0, 2, mX2_foldOnce) [550, 99, 482, 480, 481] = true := by decide +kernel
theorem am_cc7_67 : am_cchk 7 (432, 0, 0, mX2_weigh) [551, 99, 506, 504, 505] = true := by decide +kernel
theorem am_cc7_68 : am_cchk 7 (435, 11, 0, mX0_init) [1042, 0, 0, 0, 0] = true := by decide +kernel
theorem am_cc7_69 : am_cchk 7 (438, 0, 1, mX2_dampWeight) [1043, 99, 907, 905, 906] = true := by decide +kernel
theorem am_cc7_70 : am_cchk 7 (451, 0, 1, mX4_copyFrom) [1116, 95, 767, 765, 766] = true := by decide +kernel
theorem am_cc7_71 : am_cchk 7 (453, 0, 3, mX0_offer) [1121, 101, 1124, 1122, 1123] = true := by decide +kernel
theorem am_cc7_72 : am_cchk 7 (457, 0, 2, mX7_chancesBelow) [1186, 93, 1189, 1188, 43] = true := by decide +kernel
theorem am_cc7_73 : am_cchk 7 (463, 1, 1, mX7_sine) [911, 93, 913, 912, 0] = true := by decide +kernel
theorem am_cc7_74 : am_cchk 7 (469, 1, 2, mX7_steepness) [931, 93, 933, 932, 0] = true := by decide +kernel
theorem am_cc7_75 : am_cchk 7 (472, 1, 2, mX7_keptWithin) [939, 93, 941, 940, 0] = true := by decide +kernel
theorem am_cc7_76 : am_cchk 7 (476, 14, 0, mX0_init) [942, 0, 0, 0, 0] = true := by decide +kernel
theorem am_cc7_77 : am_cchk 7 (479, 13, 0, mX0_init) [945, 0, 0, 0, 0] = true := by decide +kernel
set_option maxRecDepth 100000 in
theorem am_cchk_7 : ∀ q ∈ am_callT 7, ∃ r, am_cchk 7 q r = true := List.forall_mem_cons.mpr ⟨⟨_, am_cc7_0⟩, List.forall_mem_cons.mpr ⟨⟨_, am_cc7_1⟩, List.forall_mem_cons.mpr ⟨⟨_, am_cc7_2⟩, List.forall_mem_cons.mpr ⟨⟨_, am_cc7_3⟩, List.forall_mem_cons.mpr ⟨⟨_, am_cc7_4⟩, List.forall_mem_cons.mpr ⟨⟨_, am_cc7_5⟩, List.forall_mem_cons.mpr ⟨⟨_, am_cc7_6⟩, List.forall_mem_cons.mpr ⟨⟨_, am_cc7_7⟩, List.forall_mem_cons.mpr ⟨⟨_, am_cc7_8⟩, List.forall_mem_cons.mpr ⟨⟨_, am_cc7_9⟩, List.forall_mem_cons.mpr ⟨⟨_, am_cc7_10⟩, List.forall_mem_cons.mpr ⟨⟨_, am_cc7_11⟩, List.forall_mem_cons.mpr ⟨⟨_, am_cc7_12⟩, List.forall_mem_cons.mpr ⟨⟨_, am_cc7_13⟩, List.forall_mem_cons.mpr ⟨⟨_, am_cc7_14⟩, List.forall_mem_cons.mpr ⟨⟨_, am_cc7_15⟩, List.forall_mem_cons.mpr ⟨⟨_, am_cc7_16⟩, List.forall_mem_cons.mpr ⟨⟨_, am_cc7_17⟩, List.forall_mem_cons.mpr ⟨⟨_, am_cc7_18⟩, List.forall_mem_cons.mpr ⟨⟨_, am_cc7_19⟩, List.forall_mem_cons.mpr ⟨⟨_, am_cc7_20⟩, List.forall_mem_cons.mpr ⟨⟨_, am_cc7_21⟩, List.forall_mem_cons.mpr ⟨⟨_, am_cc7_22⟩, List.forall_mem_cons.mpr ⟨⟨_, am_cc7_23⟩, List.forall_mem_cons.mpr ⟨⟨_, am_cc7_24⟩, List.forall_mem_cons.mpr ⟨⟨_, am_cc7_25⟩, List.forall_mem_cons.mpr ⟨⟨_, am_cc7_26⟩, List.forall_mem_cons.mpr ⟨⟨_, am_cc7_27⟩, List.forall_mem_cons.mpr ⟨⟨_, am_cc7_28⟩, List.forall_mem_cons.mpr ⟨⟨_, am_cc7_29⟩, List.forall_mem_cons.mpr ⟨⟨_, am_cc7_30⟩, List.forall_mem_cons.mpr ⟨⟨_, am_cc7_31⟩, List.forall_mem_cons.mpr ⟨⟨_, am_cc7_32⟩, List.forall_mem_cons.mpr ⟨⟨_, am_cc7_33⟩, List.forall_mem_cons.mpr ⟨⟨_, am_cc7_34⟩, List.forall_mem_cons.mpr ⟨⟨_, am_cc7_35⟩, List.forall_mem_cons.mpr ⟨⟨_, am_cc7_36⟩, List.forall_mem_cons.mpr ⟨⟨_, am_cc7_37⟩, List.forall_mem_cons.mpr ⟨⟨_, am_cc7_38⟩, List.forall_mem_cons.mpr ⟨⟨_, am_cc7_39⟩, List.forall_mem_cons.mpr ⟨⟨_, am_cc7_40⟩, List.forall_mem_cons.mpr ⟨⟨_, am_cc7_41⟩, List.forall_mem_cons.mpr ⟨⟨_, am_cc7_42⟩, List.forall_mem_cons.mpr ⟨⟨_, am_cc7_43⟩, List.forall_mem_cons.mpr ⟨⟨_, am_cc7_44⟩, List.forall_mem_cons.mpr ⟨⟨_, am_cc7_45⟩, List.forall_mem_cons.mpr ⟨⟨_, am_cc7_46⟩, List.forall_mem_cons.mpr ⟨⟨_, am_cc7_47⟩, List.forall_mem_cons.mpr ⟨⟨_, am_cc7_48⟩, List.forall_mem_cons.mpr ⟨⟨_, am_cc7_49⟩, List.forall_mem_cons.mpr ⟨⟨_, am_cc7_50⟩, List.forall_mem_cons.mpr ⟨⟨_, am_cc7_51⟩, List.forall_mem_cons.mpr ⟨⟨_, am_cc7_52⟩, List.forall_mem_cons.mpr ⟨⟨_, am_cc7_53⟩, List.forall_mem_cons.mpr ⟨⟨_, am_cc7_54⟩, List.forall_mem_cons.mpr ⟨⟨_, am_cc7_55⟩, List.forall_mem_cons.mpr ⟨⟨_, am_cc7_56⟩, List.forall_mem_cons.mpr ⟨⟨_, am_cc7_57⟩, List.forall_mem_cons.mpr ⟨⟨_, am_cc7_58⟩, List.forall_mem_cons.mpr ⟨⟨_, am_cc7_59⟩, List.forall_mem_cons.mpr ⟨⟨_, am_cc7_60⟩, List.forall_mem_cons.mpr ⟨⟨_, am_cc7_61⟩, List.forall_mem_cons.mpr ⟨⟨_, am_cc7_62⟩, List.forall_mem_cons.mpr ⟨⟨_, am_cc7_63⟩, List.forall_mem_cons.mpr ⟨⟨_, am_cc7_64⟩, List.forall_mem_cons.mpr ⟨⟨_, am_cc7_65⟩, List.forall_mem_cons.mpr ⟨⟨_, am_cc7_66⟩, List.forall_mem_cons.mpr ⟨⟨_, am_cc7_67⟩, List.forall_mem_cons.mpr ⟨⟨_, am_cc7_68⟩, List.forall_mem_cons.mpr ⟨⟨_, am_cc7_69⟩, List.forall_mem_cons.mpr ⟨⟨_, am_cc7_70⟩, List.forall_mem_cons.mpr ⟨⟨_, am_cc7_71⟩, List.forall_mem_cons.mpr ⟨⟨_, am_cc7_72⟩, List.forall_mem_cons.mpr ⟨⟨_, am_cc7_73⟩, List.forall_mem_cons.mpr ⟨⟨_, am_cc7_74⟩, List.forall_mem_cons.mpr ⟨⟨_, am_cc7_75⟩, List.forall_mem_cons.mpr ⟨⟨_, am_cc7_76⟩, List.forall_mem_cons.mpr ⟨⟨_, am_cc7_77⟩, fun _ h => absurd h List.not_mem_nil⟩⟩⟩⟩⟩⟩⟩⟩⟩⟩⟩⟩⟩⟩⟩⟩⟩⟩⟩⟩⟩⟩⟩⟩⟩⟩⟩⟩⟩⟩⟩⟩⟩⟩⟩⟩⟩⟩⟩⟩⟩⟩⟩⟩⟩⟩⟩⟩⟩⟩⟩⟩⟩⟩⟩⟩⟩⟩⟩⟩⟩⟩⟩⟩⟩⟩⟩⟩⟩⟩⟩⟩⟩⟩⟩⟩⟩⟩
theorem am_cc8_0 : am_cchk 8 (3, 3, 0, mX0_init) [1298, 0, 0, 0, 0] = true := by decide +kernel
theorem am_cc8_1 : am_cchk 8 (61, 0, 0, mX8_plainLaw) [1299, 103, 1302, 1301, 46] = true := by decide +kernel
theorem am_cc8_2 : am_cchk 8 (67, 1, 3, mX8_within) [1477, 103, 1479, 1478, 0] = true := by decide +kernel
theorem am_cc8_3 : am_cchk 8 (106, 1, 1, mX8_isLetter) [1502, 103, 1504, 1503, 0] = true := by decide +kernel
theorem am_cc8_4 : am_cchk 8 (110, 0, 1, mX8_see) [1505, 103, 1508, 1507, 50] = true := by decide +kernel
theorem am_cc8_5 : am_cchk 8 (114, 1, 1, mX8_isDigit) [1509, 103, 1511, 1510, 0] = true := by decide +kernel
theorem am_cc8_6 : am_cchk 8 (126, 4, 0, mX0_init) [1517, 0, 0, 0, 0] = true := by decide +kernel
theorem am_cc8_7 : am_cchk 8 (132, 5, 0, mX0_init) [1518, 0, 0, 0, 0] = true := by decide +kernel
theorem am_cc8_8 : am_cchk 8 (136, 0, 1, mX8_blames) [1521, 103, 1524, 1523, 52] = true := by decide +kernel
theorem am_cc8_9 : am_cchk 8 (140, 0, 0, mX8_next) [1498, 103, 1501, 1500, 49] = true := by decide +kernel
theorem am_cc8_10 : am_cchk 8 (146, 0, 1, mX8_fails) [1490, 103, 1493, 1492, 47] = true := by decide +kernel
theorem am_cc8_11 : am_cchk 8 (149, 0, 1, mX8_begins) [1494, 103, 1497, 1496, 48] = true := by decide +kernel
theorem am_cc8_12 : am_cchk 8 (154, 0, 1, mX8_isWord) [1513, 103, 1516, 1515, 51] = true := by decide +kernel
theorem am_cc8_13 : am_cchk 8 (162, 0, 2, mX8_number) [1525, 103, 1528, 1527, 53] = true := by decide +kernel
theorem am_cc8_14 : am_cchk 8 (166, 0, 0, mX8_stop) [1529, 103, 1532, 1531, 54] = true := by decide +kernel
theorem am_cc8_15 : am_cchk 8 (169, 0, 1, mX8_ends) [1533, 103, 1536, 1535, 55] = true := by decide +kernel
theorem am_cc8_16 : am_cchk 8 (174, 0, 1, mX8_nine) [1542, 103, 1545, 1544, 56] = true := by decide +kernel
theorem am_cc8_17 : am_cchk 8 (181, 0, 3, mX8_one) [1548, 103, 1551, 1550, 57] = true := by decide +kernel
theorem am_cc8_18 : am_cchk 8 (193, 0, 1, mX8_isWay) [1564, 103, 1567, 1566, 58] = true := by decide +kernel
theorem am_cc8_19 : am_cchk 8 (196, 0, 1, mX8_foldsOf) [1568, 103, 1571, 1570, 59] = true := by decide +kernel
theorem am_cc8_20 : am_cchk 8 (199, 0, 2, mX8_foldAt) [1572, 103, 1575, 1574, 60] = true := by decide +kernel
theorem am_cc8_21 : am_cchk 8 (211, 11, 0, mX0_init) [1592, 0, 0, 0, 0] = true := by decide +kernel
theorem am_cc8_22 : am_cchk 8 (218, 0, 1, mX8_nose) [1594, 103, 1597, 1596, 64] = true := by decide +kernel
theorem am_cc8_23 : am_cchk 8 (220, 0, 1, mX8_side) [1598, 103, 1601, 1600, 65] = true := by decide +kernel
theorem am_cc8_24 : am_cchk 8 (222, 0, 1, mX8_corner) [1602, 103, 1605, 1604, 66] = true := by decide +kernel
theorem am_cc8_25 : am_cchk 8 (224, 0, 0, mX8_count) [1606, 103, 1609, 1608, 67] = true := by decide +kernel
theorem am_cc8_26 : am_cchk 8 (242, 0, 0, mX8_flat) [1584, 103, 1587, 1586, 62] = true := by decide +kernel
theorem am_cc8_27 : am_cchk 8 (245, 0, 2, mX8_folds) [1588, 103, 1591, 1590, 63] = true := by decide +kernel
theorem am_cc8_28 : am_cchk 8 (249, 0, 0, mX8_measure) [1610, 103, 1613, 1612, 68] = true := by decide +kernel
theorem am_cc8_29 : am_cchk 8 (252, 0, 1, mX8_makes) [1580, 103, 1583, 1582, 61] = true := by decide +kernel
theorem am_cc8_30 : am_cchk 8 (255, 0, 1, mX8_wayFault) [1619, 103, 1622, 1621, 69] = true := by decide +kernel
theorem am_cc8_31 : am_cchk 8 (258, 1, 1, mX8_quarter) [1661, 103, 1663, 1662, 0] = true := by decide +kernel
theorem am_cc8_32 : am_cchk 8 (261, 1, 1, mX8_sine) [1658, 103, 1660, 1659, 0] = true := by decide +kernel
theorem am_cc8_33 : am_cchk 8 (268, 1, 1, mX8_cosine) [1664, 103, 1666, 1665, 0] = true := by decide +kernel
theorem am_cc8_34 : am_cchk 8 (271, 0, 0, mX8_laySines) [1654, 103, 1657, 1656, 72] = true := by decide +kernel
theorem am_cc8_35 : am_cchk 8 (309, 14, 0, mX0_init) [1682, 0, 0, 0, 0] = true := by decide +kernel
theorem am_cc8_36 : am_cchk 8 (312, 13, 0, mX0_init) [1683, 0, 0, 0, 0] = true := by decide +kernel
theorem am_cc8_37 : am_cchk 8 (315, 0, 0, mX8_path) [1675, 103, 1678, 1677, 75] = true := by decide +kernel
theorem am_cc8_38 : am_cchk 8 (318, 1, 2, mX8_kept) [1679, 103, 1681, 1680, 0] = true := by decide +kernel
theorem am_cc8_39 : am_cchk 8 (324, 0, 0, mX8_heavy) [1685, 103, 1688, 1687, 76] = true := by decide +kernel
theorem am_cc8_40 : am_cchk 8 (328, 12, 0, mX0_init) [1689, 0, 0, 0, 0] = true := by decide +kernel
theorem am_cc8_41 : am_cchk 8 (331, 0, 0, mX8_pull) [1690, 103, 1693, 1692, 77] = true := by decide +kernel
theorem am_cc8_42 : am_cchk 8 (333, 0, 1, mX8_air) [1671, 103, 1674, 1673, 74] = true := by decide +kernel
theorem am_cc8_43 : am_cchk 8 (336, 10, 0, mX0_init) [1694, 0, 0, 0, 0] = true := by decide +kernel
theorem am_cc8_44 : am_cchk 8 (349, 0, 2, mX8_starts) [1650, 103, 1653, 1652, 71] = true := by decide +kernel
theorem am_cc8_45 : am_cchk 8 (353, 0, 1, mX8_tick) [1667, 103, 1670, 1669, 73] = true := by decide +kernel
theorem am_cc8_46 : am_cchk 8 (356, 0, 4, mX8_flies) [1646, 103, 1649, 1648, 70] = true := by decide +kernel
theorem am_cc8_47 : am_cchk 8 (360, 1, 1, mX8_isEars) [1631, 103, 1633, 1632, 0] = true := by decide +kernel
theorem am_cc8_48 : am_cchk 8 (363, 1, 1, mX8_isSpeed) [1636, 103, 1638, 1637, 0] = true := by decide +kernel
theorem am_cc8_49 : am_cchk 8 (366, 1, 1, mX8_isSlant) [1640, 103, 1642, 1641, 0] = true := by decide +kernel
theorem am_cc8_50 : am_cchk 8 (383, 0, 4, mX8_far) [1726, 103, 1729, 1728, 78] = true := by decide +kernel
theorem am_cc8_51 : am_cchk 8 (387, 0, 2, mX8_turns) [1738, 103, 1741, 1740, 80] = true := by decide +kernel
theorem am_cc8_52 : am_cchk 8 (391, 0, 2, mX8_isRest) [1734, 103, 1737, 1736, 79] = true := by decide +kernel
theorem am_cc8_53 : am_cchk 8 (394, 0, 2, mX8_throwAt) [1769, 103, 1772, 1771, 84] = true := by decide +kernel
theorem am_cc8_54 : am_cchk 8 (397, 0, 1, mX8_isHand) [1754, 103, 1757, 1756, 81] = true := by decide +kernel
theorem am_cc8_55 : am_cchk 8 (400, 1, 3, mX8_isThrow) [1758, 103, 1760, 1759, 0] = true := by decide +kernel
theorem am_cc8_56 : am_cchk 8 (403, 0, 1, mX8_throwsOf) [1761, 103, 1764, 1763, 82] = true := by decide +kernel
theorem am_cc8_57 : am_cchk 8 (406, 0, 5, mX8_puts) [1765, 103, 1768, 1767, 83] = true := by decide +kernel
theorem am_cc8_58 : am_cchk 8 (410, 0, 2, mX8_handFault) [1777, 103, 1780, 1779, 85] = true := by decide +kernel
theorem am_cc8_59 : am_cchk 8 (413, 0, 3, mX8_reachOf) [1781, 103, 1784, 1783, 86] = true := by decide +kernel
theorem am_cc8_60 : am_cchk 8 (421, 0, 2, mX8_bestEars) [1789, 103, 1792, 1791, 87] = true := by decide +kernel
theorem am_cc8_61 : am_cchk 8 (434, 0, 4, mX8_findChange) [1801, 103, 1804, 1803, 88] = true := by decide +kernel
theorem am_cc8_62 : am_cchk 8 (440, 1, 3, mX8_isHoop) [1814, 103, 1816, 1815, 0] = true := by decide +kernel
theorem am_cc8_63 : am_cchk 8 (444, 0, 6, mX8_goesThrough) [1817, 103, 1820, 1819, 89] = true := by decide +kernel
theorem am_cc8_64 : am_cchk 8 (448, 0, 2, mX8_lessFar) [1833, 103, 1836, 1835, 90] = true := by decide +kernel
theorem am_cc8_65 : am_cchk 8 (451, 0, 2, mX8_isFound) [1849, 103, 1852, 1851, 91] = true := by decide +kernel
theorem am_cc8_66 : am_cchk 8 (454, 1, 1, mX8_isTray) [1857, 103, 1859, 1858, 0] = true := by decide +kernel
set_option maxRecDepth 100000 in
theorem am_cchk_8 : ∀ q ∈ am_callT 8, ∃ r, am_cchk 8 q r = true := List.forall_mem_cons.mpr ⟨⟨_, am_cc8_0⟩, List.forall_mem_cons.mpr ⟨⟨_, am_cc8_1⟩, List.forall_mem_cons.mpr ⟨⟨_, am_cc8_2⟩, List.forall_mem_cons.mpr ⟨⟨_, am_cc8_3⟩, List.forall_mem_cons.mpr ⟨⟨_, am_cc8_4⟩, List.forall_mem_cons.mpr ⟨⟨_, am_cc8_5⟩, List.forall_mem_cons.mpr ⟨⟨_, am_cc8_6⟩, List.forall_mem_cons.mpr ⟨⟨_, am_cc8_7⟩, List.forall_mem_cons.mpr ⟨⟨_, am_cc8_8⟩, List.forall_mem_cons.mpr ⟨⟨_, am_cc8_9⟩, List.forall_mem_cons.mpr ⟨⟨_, am_cc8_10⟩, List.forall_mem_cons.mpr ⟨⟨_, am_cc8_11⟩, List.forall_mem_cons.mpr ⟨⟨_, am_cc8_12⟩, List.forall_mem_cons.mpr ⟨⟨_, am_cc8_13⟩, List.forall_mem_cons.mpr ⟨⟨_, am_cc8_14⟩, List.forall_mem_cons.mpr ⟨⟨_, am_cc8_15⟩, List.forall_mem_cons.mpr ⟨⟨_, am_cc8_16⟩, List.forall_mem_cons.mpr ⟨⟨_, am_cc8_17⟩, List.forall_mem_cons.mpr ⟨⟨_, am_cc8_18⟩, List.forall_mem_cons.mpr ⟨⟨_, am_cc8_19⟩, List.forall_mem_cons.mpr ⟨⟨_, am_cc8_20⟩, List.forall_mem_cons.mpr ⟨⟨_, am_cc8_21⟩, List.forall_mem_cons.mpr ⟨⟨_, am_cc8_22⟩, List.forall_mem_cons.mpr ⟨⟨_, am_cc8_23⟩, List.forall_mem_cons.mpr ⟨⟨_, am_cc8_24⟩, List.forall_mem_cons.mpr ⟨⟨_, am_cc8_25⟩, List.forall_mem_cons.mpr ⟨⟨_, am_cc8_26⟩, List.forall_mem_cons.mpr ⟨⟨_, am_cc8_27⟩, List.forall_mem_cons.mpr ⟨⟨_, am_cc8_28⟩, List.forall_mem_cons.mpr ⟨⟨_, am_cc8_29⟩, List.forall_mem_cons.mpr ⟨⟨_, am_cc8_30⟩, List.forall_mem_cons.mpr ⟨⟨_, am_cc8_31⟩, List.forall_mem_cons.mpr ⟨⟨_, am_cc8_32⟩, List.forall_mem_cons.mpr ⟨⟨_, am_cc8_33⟩, List.forall_mem_cons.mpr ⟨⟨_, am_cc8_34⟩, List.forall_mem_cons.mpr ⟨⟨_, am_cc8_35⟩, List.forall_mem_cons.mpr ⟨⟨_, am_cc8_36⟩, List.forall_mem_cons.mpr ⟨⟨_, am_cc8_37⟩, List.forall_mem_cons.mpr ⟨⟨_, am_cc8_38⟩, List.forall_mem_cons.mpr ⟨⟨_, am_cc8_39⟩, List.forall_mem_cons.mpr ⟨⟨_, am_cc8_40⟩, List.forall_mem_cons.mpr ⟨⟨_, am_cc8_41⟩, List.forall_mem_cons.mpr ⟨⟨_, am_cc8_42⟩, List.forall_mem_cons.mpr ⟨⟨_, am_cc8_43⟩, List.forall_mem_cons.mpr ⟨⟨_, am_cc8_44⟩, List.forall_mem_cons.mpr ⟨⟨_, am_cc8_45⟩, List.forall_mem_cons.mpr ⟨⟨_, am_cc8_46⟩, List.forall_mem_cons.mpr ⟨⟨_, am_cc8_47⟩, List.forall_mem_cons.mpr ⟨⟨_, am_cc8_48⟩, List.forall_mem_cons.mpr ⟨⟨_, am_cc8_49⟩, List.forall_mem_cons.mpr ⟨⟨_, am_cc8_50⟩, List.forall_mem_cons.mpr ⟨⟨_, am_cc8_51⟩, List.forall_mem_cons.mpr ⟨⟨_, am_cc8_52⟩, List.forall_mem_cons.mpr ⟨⟨_, am_cc8_53⟩, List.forall_mem_cons.mpr ⟨⟨_, am_cc8_54⟩, List.forall_mem_cons.mpr ⟨⟨_, am_cc8_55⟩, List.forall_mem_cons.mpr ⟨⟨_, am_cc8_56⟩, List.forall_mem_cons.mpr ⟨⟨_, am_cc8_57⟩, List.forall_mem_cons.mpr ⟨⟨_, am_cc8_58⟩, List.forall_mem_cons.mpr ⟨⟨_, am_cc8_59⟩, List.forall_mem_cons.mpr ⟨⟨_, am_cc8_60⟩, List.forall_mem_cons.mpr ⟨⟨_, am_cc8_61⟩, List.forall_mem_cons.mpr ⟨⟨_, am_cc8_62⟩, List.forall_mem_cons.mpr ⟨⟨_, am_cc8_63⟩, List.forall_mem_cons.mpr ⟨⟨_, am_cc8_64⟩, List.forall_mem_cons.mpr ⟨⟨_, am_cc8_65⟩, List.forall_mem_cons.mpr ⟨⟨_, am_cc8_66⟩, fun _ h => absurd h List.not_mem_nil⟩⟩⟩⟩⟩⟩⟩⟩⟩⟩⟩⟩⟩⟩⟩⟩⟩⟩⟩⟩⟩⟩⟩⟩⟩⟩⟩⟩⟩⟩⟩⟩⟩⟩⟩⟩⟩⟩⟩⟩⟩⟩⟩⟩⟩⟩⟩⟩⟩⟩⟩⟩⟩⟩⟩⟩⟩⟩⟩⟩⟩⟩⟩⟩⟩⟩⟩
theorem am_cc9_0 : am_cchk 9 (7, 0, 2, mX7_sheet) [564, 93, 567, 565, 566] = true := by decide +kernel
theorem am_cc9_1 : am_cchk 9 (15, 0, 1, mX7_way) [643, 93, 646, 644, 645] = true := by decide +kernel
theorem am_cc9_2 : am_cchk 9 (19, 0, 1, mX7_law) [772, 93, 775, 773, 774] = true := by decide +kernel
theorem am_cc9_3 : am_cchk 9 (22, 0, 2, mX7_fold) [812, 93, 815, 813, 814] = true := by decide +kernel
theorem am_cc9_4 : am_cchk 9 (28, 0, 1, mX7_breaks) [843, 93, 846, 844, 845] = true := by decide +kernel
theorem am_cc9_5 : am_cchk 9 (31, 0, 2, mX7_make) [851, 93, 854, 852, 853] = true := by decide +kernel
theorem am_cc9_6 : am_cchk 9 (36, 0, 3, mX7_layers) [878, 93, 881, 879, 880] = true := by decide +kernel
theorem am_cc9_7 : am_cchk 9 (40, 0, 5, mX7_fly) [886, 93, 889, 887, 888] = true := by decide +kernel
theorem am_cc9_8 : am_cchk 9 (44, 0, 6, mX7_at) [987, 93, 990, 988, 989] = true := by decide +kernel
theorem am_cc9_9 : am_cchk 9 (48, 0, 3, mX7_draught) [997, 93, 1000, 998, 999] = true := by decide +kernel
theorem am_cc9_10 : am_cchk 9 (51, 0, 2, mX7_crate) [1004, 93, 1007, 1005, 1006] = true := by decide +kernel
theorem am_cc9_11 : am_cchk 9 (54, 0, 1, mX7_damp) [1012, 93, 1015, 1013, 1014] = true := by decide +kernel
theorem am_cc9_12 : am_cchk 9 (57, 0, 4, mX7_slant) [1019, 93, 1022, 1020, 1021] = true := by decide +kernel
theorem am_cc9_13 : am_cchk 9 (61, 0, 3, mX7_rest) [1030, 93, 1033, 1031, 1032] = true := by decide +kernel
theorem am_cc9_14 : am_cchk 9 (64, 0, 2, mX7_why) [1047, 93, 1050, 1048, 1049] = true := by decide +kernel
theorem am_cc9_15 : am_cchk 9 (67, 0, 4, mX7_toss) [1054, 93, 1057, 1055, 1056] = true := by decide +kernel
theorem am_cc9_16 : am_cchk 9 (71, 0, 4, mX7_reach) [1079, 93, 1082, 1080, 1081] = true := by decide +kernel
theorem am_cc9_17 : am_cchk 9 (75, 0, 3, mX7_ears) [1090, 93, 1093, 1091, 1092] = true := by decide +kernel
theorem am_cc9_18 : am_cchk 9 (79, 0, 2, mX7_best) [1101, 93, 1104, 1102, 1103] = true := by decide +kernel
theorem am_cc9_19 : am_cchk 9 (83, 0, 5, mX7_change) [1108, 93, 1111, 1109, 1110] = true := by decide +kernel
theorem am_cc9_20 : am_cchk 9 (87, 0, 4, mX7_mend) [1131, 93, 1134, 1132, 1133] = true := by decide +kernel
theorem am_cc9_21 : am_cchk 9 (90, 0, 7, mX7_hoop) [1138, 93, 1141, 1139, 1140] = true := by decide +kernel
theorem am_cc9_22 : am_cchk 9 (94, 0, 7, mX7_odds) [1152, 93, 1155, 1153, 1154] = true := by decide +kernel
theorem am_cc9_23 : am_cchk 9 (98, 0, 3, mX7_enter) [1162, 93, 1165, 1163, 1164] = true := by decide +kernel
theorem am_cc9_24 : am_cchk 9 (101, 0, 1, mX7_wins) [1169, 93, 1172, 1170, 1171] = true := by decide +kernel
theorem am_cc9_25 : am_cchk 9 (105, 0, 5, mX7_hours) [1193, 93, 1196, 1194, 1195] = true := by decide +kernel
theorem am_cc9_26 : am_cchk 9 (109, 0, 5, mX7_seen) [1201, 93, 1204, 1202, 1203] = true := by decide +kernel
theorem am_cc9_27 : am_cchk 9 (112, 0, 3, mX7_tray) [1208, 93, 1211, 1209, 1210] = true := by decide +kernel
theorem am_cc9_28 : am_cchk 9 (116, 0, 3, mX7_write) [1225, 93, 1228, 1226, 1227] = true := by decide +kernel
theorem am_cc9_29 : am_cchk 9 (122, 0, 2, mX7_take) [1260, 93, 1263, 1261, 1262] = true := by decide +kernel
theorem am_cc9_30 : am_cchk 9 (125, 0, 1, mX7_image) [1273, 93, 1276, 1274, 1275] = true := by decide +kernel
theorem am_cc9_31 : am_cchk 9 (129, 0, 1, mX7_restore) [1288, 93, 1291, 1289, 1290] = true := by decide +kernel
theorem am_cc9_32 : am_cchk 9 (132, 2, 0, mX7_init) [117, 93, 119, 118, 0] = true := by decide +kernel
theorem am_cc9_33 : am_cchk 9 (135, 2, 0, mX8_init) [1295, 103, 1297, 1296, 0] = true := by decide +kernel
theorem am_cc9_34 : am_cchk 9 (136, 1, 3, mL_sheet) [560, 92, 562, 561, 0] = true := by decide +kernel
theorem am_cc9_35 : am_cchk 9 (141, 0, 2, mX8_sheet) [1471, 103, 1474, 1472, 1473] = true := by decide +kernel
theorem am_cc9_36 : am_cchk 9 (142, 0, 0, mX8_thrown) [1467, 103, 1470, 1468, 1469] = true := by decide +kernel
theorem am_cc9_37 : am_cchk 9 (146, 0, 5, mX7_feed) [431, 93, 434, 432, 433] = true := by decide +kernel
theorem am_cc9_38 : am_cchk 9 (149, 0, 5, mX8_feed) [1482, 103, 1485, 1483, 1484] = true := by decide +kernel
theorem am_cc9_39 : am_cchk 9 (150, 1, 3, mL_way) [640, 92, 642, 641, 0] = true := by decide +kernel
theorem am_cc9_40 : am_cchk 9 (153, 0, 1, mX8_way) [1486, 103, 1489, 1487, 1488] = true := by decide +kernel
theorem am_cc9_41 : am_cchk 9 (154, 1, 3, mL_law) [769, 92, 771, 770, 0] = true := by decide +kernel
theorem am_cc9_42 : am_cchk 9 (156, 0, 1, mX8_law) [1537, 103, 1540, 1538, 1539] = true := by decide +kernel
theorem am_cc9_43 : am_cchk 9 (157, 0, 1, mX7_fault) [439, 93, 442, 440, 441] = true := by decide +kernel
theorem am_cc9_44 : am_cchk 9 (160, 0, 1, mX8_fault) [1556, 103, 1559, 1557, 1558] = true := by decide +kernel
theorem am_cc9_45 : am_cchk 9 (161, 1, 4, mL_fold) [808, 92, 810, 809, 0] = true := by decide +kernel
theorem am_cc9_46 : am_cchk 9 (164, 0, 2, mX8_fold) [1560, 103, 1563, 1561, 1562] = true := by decide +kernel
theorem am_cc9_47 : am_cchk 9 (165, 1, 3, mL_breaks) [840, 92, 842, 841, 0] = true := by decide +kernel
theorem am_cc9_48 : am_cchk 9 (167, 0, 1, mX8_breaks) [1576, 103, 1579, 1577, 1578] = true := by decide +kernel
theorem am_cc9_49 : am_cchk 9 (168, 1, 4, mL_make) [847, 92, 849, 848, 0] = true := by decide +kernel
theorem am_cc9_50 : am_cchk 9 (170, 0, 2, mX8_make) [1615, 103, 1618, 1616, 1617] = true := by decide +kernel
theorem am_cc9_51 : am_cchk 9 (171, 1, 5, mL_layers) [875, 92, 877, 876, 0] = true := by decide +kernel
theorem am_cc9_52 : am_cchk 9 (174, 0, 3, mX8_layers) [1623, 103, 1626, 1624, 1625] = true := by decide +kernel
theorem am_cc9_53 : am_cchk 9 (175, 1, 7, mL_fly) [883, 92, 885, 884, 0] = true := by decide +kernel
theorem am_cc9_54 : am_cchk 9 (178, 0, 5, mX8_fly) [1627, 103, 1630, 1628, 1629] = true := by decide +kernel
theorem am_cc9_55 : am_cchk 9 (179, 1, 8, mL_at) [984, 92, 986, 985, 0] = true := by decide +kernel
theorem am_cc9_56 : am_cchk 9 (182, 0, 6, mX8_at) [1696, 103, 1699, 1697, 1698] = true := by decide +kernel
theorem am_cc9_57 : am_cchk 9 (183, 1, 5, mL_draught) [994, 92, 996, 995, 0] = true := by decide +kernel
theorem am_cc9_58 : am_cchk 9 (185, 0, 3, mX8_draught) [1701, 103, 1704, 1702, 1703] = true := by decide +kernel
theorem am_cc9_59 : am_cchk 9 (186, 1, 4, mL_crate) [1001, 92, 1003, 1002, 0] = true := by decide +kernel
theorem am_cc9_60 : am_cchk 9 (188, 0, 2, mX8_crate) [1707, 103, 1710, 1708, 1709] = true := by decide +kernel
theorem am_cc9_61 : am_cchk 9 (189, 0, 0, mX7_still) [443, 93, 446, 444, 445] = true := by decide +kernel
theorem am_cc9_62 : am_cchk 9 (192, 0, 0, mX8_still) [1713, 103, 1716, 1714, 1715] = true := by decide +kernel
theorem am_cc9_63 : am_cchk 9 (193, 1, 3, mL_damp) [1009, 92, 1011, 1010, 0] = true := by decide +kernel
theorem am_cc9_64 : am_cchk 9 (195, 0, 1, mX8_damp) [1717, 103, 1720, 1718, 1719] = true := by decide +kernel
theorem am_cc9_65 : am_cchk 9 (196, 1, 6, mL_slant) [1016, 92, 1018, 1017, 0] = true := by decide +kernel
theorem am_cc9_66 : am_cchk 9 (199, 0, 4, mX8_slant) [1722, 103, 1725, 1723, 1724] = true := by decide +kernel
theorem am_cc9_67 : am_cchk 9 (200, 1, 5, mL_rest) [1027, 92, 1029, 1028, 0] = true := by decide +kernel
theorem am_cc9_68 : am_cchk 9 (202, 0, 3, mX8_rest) [1730, 103, 1733, 1731, 1732] = true := by decide +kernel
theorem am_cc9_69 : am_cchk 9 (203, 1, 4, mL_why) [1044, 92, 1046, 1045, 0] = true := by decide +kernel
theorem am_cc9_70 : am_cchk 9 (205, 0, 2, mX8_why) [1742, 103, 1745, 1743, 1744] = true := by decide +kernel
theorem am_cc9_71 : am_cchk 9 (206, 0, 0, mX7_hand) [447, 93, 450, 448, 449] = true := by decide +kernel
theorem am_cc9_72 : am_cchk 9 (209, 0, 0, mX8_hand) [1746, 103, 1749, 1747, 1748] = true := by decide +kernel
theorem am_cc9_73 : am_cchk 9 (210, 1, 6, mL_toss) [1051, 92, 1053, 1052, 0] = true := by decide +kernel
theorem am_cc9_74 : am_cchk 9 (213, 0, 4, mX8_toss) [1750, 103, 1753, 1751, 1752] = true := by decide +kernel
theorem am_cc9_75 : am_cchk 9 (214, 1, 6, mL_reach) [1076, 92, 1078, 1077, 0] = true := by decide +kernel
theorem am_cc9_76 : am_cchk 9 (216, 0, 4, mX8_reach) [1773, 103, 1776, 1774, 1775] = true := by decide +kernel
theorem am_cc9_77 : am_cchk 9 (217, 1, 5, mL_ears) [1087, 92, 1089, 1088, 0] = true := by decide +kernel
theorem am_cc9_78 : am_cchk 9 (220, 0, 3, mX8_ears) [1785, 103, 1788, 1786, 1787] = true := by decide +kernel
theorem am_cc9_79 : am_cchk 9 (221, 1, 4, mL_best) [1098, 92, 1100, 1099, 0] = true := by decide +kernel
theorem am_cc9_80 : am_cchk 9 (224, 0, 2, mX8_best) [1793, 103, 1796, 1794, 1795] = true := by decide +kernel
theorem am_cc9_81 : am_cchk 9 (225, 1, 7, mL_change) [1105, 92, 1107, 1106, 0] = true := by decide +kernel
theorem am_cc9_82 : am_cchk 9 (228, 0, 5, mX8_change) [1797, 103, 1800, 1798, 1799] = true := by decide +kernel
theorem am_cc9_83 : am_cchk 9 (229, 1, 6, mL_mend) [1128, 92, 1130, 1129, 0] = true := by decide +kernel
theorem am_cc9_84 : am_cchk 9 (231, 0, 4, mX8_mend) [1806, 103, 1809, 1807, 1808] = true := by decide +kernel
theorem am_cc9_85 : am_cchk 9 (232, 1, 9, mL_hoop) [1135, 92, 1137, 1136, 0] = true := by decide +kernel
theorem am_cc9_86 : am_cchk 9 (235, 0, 7, mX8_hoop) [1810, 103, 1813, 1811, 1812] = true := by decide +kernel
theorem am_cc9_87 : am_cchk 9 (236, 1, 9, mL_odds) [1149, 92, 1151, 1150, 0] = true := by decide +kernel
theorem am_cc9_88 : am_cchk 9 (238, 0, 7, mX8_odds) [1821, 103, 1824, 1822, 1823] = true := by decide +kernel
theorem am_cc9_89 : am_cchk 9 (239, 1, 5, mL_enter) [1159, 92, 1161, 1160, 0] = true := by decide +kernel
theorem am_cc9_90 : am_cchk 9 (241, 0, 3, mX8_enter) [1825, 103, 1828, 1826, 1827] = true := by decide +kernel
theorem am_cc9_91 : am_cchk 9 (242, 1, 3, mL_wins) [1166, 92, 1168, 1167, 0] = true := by decide +kernel
theorem am_cc9_92 : am_cchk 9 (244, 0, 1, mX8_wins) [1829, 103, 1832, 1830, 1831] = true := by decide +kernel
theorem am_cc9_93 : am_cchk 9 (247, 1, 7, mL_hours) [1190, 92, 1192, 1191, 0] = true := by decide +kernel
theorem am_cc9_94 : am_cchk 9 (250, 0, 5, mX8_hours) [1837, 103, 1840, 1838, 1839] = true := by decide +kernel
theorem am_cc9_95 : am_cchk 9 (251, 1, 7, mL_seen) [1198, 92, 1200, 1199, 0] = true := by decide +kernel
theorem am_cc9_96 : am_cchk 9 (253, 0, 5, mX8_seen) [1841, 103, 1844, 1842, 1843] = true := by decide +kernel
theorem am_cc9_97 : am_cchk 9 (254, 0, 3, mX7_found) [455, 93, 458, 456, 457] = true := by decide +kernel
theorem am_cc9_98 : am_cchk 9 (257, 0, 3, mX8_found) [1845, 103, 1848, 1846, 1847] = true := by decide +kernel
theorem am_cc9_99 : am_cchk 9 (258, 1, 4, mL_tray) [1205, 92, 1207, 1206, 0] = true := by decide +kernel
theorem am_cc9_100 : am_cchk 9 (261, 0, 3, mX8_tray) [1853, 103, 1856, 1854, 1855] = true := by decide +kernel
theorem am_cc9_101 : am_cchk 9 (262, 1, 5, mL_write) [1221, 92, 1223, 1222, 0] = true := by decide +kernel
theorem am_cc9_102 : am_cchk 9 (265, 0, 3, mX8_write) [1860, 103, 1863, 1861, 1862] = true := by decide +kernel
theorem am_cc9_103 : am_cchk 9 (266, 1, 4, mL_take) [1257, 92, 1259, 1258, 0] = true := by decide +kernel
theorem am_cc9_104 : am_cchk 9 (268, 0, 2, mX8_take) [1864, 103, 1867, 1865, 1866] = true := by decide +kernel
theorem am_cc9_105 : am_cchk 9 (269, 1, 2, mL_image) [1270, 92, 1272, 1271, 0] = true := by decide +kernel
theorem am_cc9_106 : am_cchk 9 (272, 0, 1, mX8_image) [1868, 103, 1871, 1869, 1870] = true := by decide +kernel
theorem am_cc9_107 : am_cchk 9 (273, 1, 2, mL_restore) [1285, 92, 1287, 1286, 0] = true := by decide +kernel
theorem am_cc9_108 : am_cchk 9 (275, 0, 1, mX8_restore) [1872, 103, 1875, 1873, 1874] = true := by decide +kernel
theorem am_cc9_109 : am_cchk 9 (276, 0, 1, mX7_count) [556, 93, 559, 557, 558] = true := by decide +kernel
theorem am_cc9_110 : am_cchk 9 (279, 0, 1, mX8_count_) [1876, 103, 1879, 1877, 1878] = true := by decide +kernel
set_option maxRecDepth 100000 in
theorem am_cchk_9 : ∀ q ∈ am_callT 9, ∃ r, am_cchk 9 q r = true := List.forall_mem_cons.mpr ⟨⟨_, am_cc9_0⟩, List.forall_mem_cons.mpr ⟨⟨_, am_cc9_1⟩, List.forall_mem_cons.mpr ⟨⟨_, am_cc9_2⟩, List.forall_mem_cons.mpr ⟨⟨_, am_cc9_3⟩, List.forall_mem_cons.mpr ⟨⟨_, am_cc9_4⟩, List.forall_mem_cons.mpr ⟨⟨_, am_cc9_5⟩, List.forall_mem_cons.mpr ⟨⟨_, am_cc9_6⟩, List.forall_mem_cons.mpr ⟨⟨_, am_cc9_7⟩, List.forall_mem_cons.mpr ⟨⟨_, am_cc9_8⟩, List.forall_mem_cons.mpr ⟨⟨_, am_cc9_9⟩, List.forall_mem_cons.mpr ⟨⟨_, am_cc9_10⟩, List.forall_mem_cons.mpr ⟨⟨_, am_cc9_11⟩, List.forall_mem_cons.mpr ⟨⟨_, am_cc9_12⟩, List.forall_mem_cons.mpr ⟨⟨_, am_cc9_13⟩, List.forall_mem_cons.mpr ⟨⟨_, am_cc9_14⟩, List.forall_mem_cons.mpr ⟨⟨_, am_cc9_15⟩, List.forall_mem_cons.mpr ⟨⟨_, am_cc9_16⟩, List.forall_mem_cons.mpr ⟨⟨_, am_cc9_17⟩, List.forall_mem_cons.mpr ⟨⟨_, am_cc9_18⟩, List.forall_mem_cons.mpr ⟨⟨_, am_cc9_19⟩, List.forall_mem_cons.mpr ⟨⟨_, am_cc9_20⟩, List.forall_mem_cons.mpr ⟨⟨_, am_cc9_21⟩, List.forall_mem_cons.mpr ⟨⟨_, am_cc9_22⟩, List.forall_mem_cons.mpr ⟨⟨_, am_cc9_23⟩, List.forall_mem_cons.mpr ⟨⟨_, am_cc9_24⟩, List.forall_mem_cons.mpr ⟨⟨_, am_cc9_25⟩, List.forall_mem_cons.mpr ⟨⟨_, am_cc9_26⟩, List.forall_mem_cons.mpr ⟨⟨_, am_cc9_27⟩, List.forall_mem_cons.mpr ⟨⟨_, am_cc9_28⟩, List.forall_mem_cons.mpr ⟨⟨_, am_cc9_29⟩, List.forall_mem_cons.mpr ⟨⟨_, am_cc9_30⟩, List.forall_mem_cons.mpr ⟨⟨_, am_cc9_31⟩, List.forall_mem_cons.mpr ⟨⟨_, am_cc9_32⟩, List.forall_mem_cons.mpr ⟨⟨_, am_cc9_33⟩, List.forall_mem_cons.mpr ⟨⟨_, am_cc9_34⟩, List.forall_mem_cons.mpr ⟨⟨_, am_cc9_35⟩, List.forall_mem_cons.mpr ⟨⟨_, am_cc9_36⟩, List.forall_mem_cons.mpr ⟨⟨_, am_cc9_37⟩, List.forall_mem_cons.mpr ⟨⟨_, am_cc9_38⟩, List.forall_mem_cons.mpr ⟨⟨_, am_cc9_39⟩, List.forall_mem_cons.mpr ⟨⟨_, am_cc9_40⟩, List.forall_mem_cons.mpr ⟨⟨_, am_cc9_41⟩, List.forall_mem_cons.mpr ⟨⟨_, am_cc9_42⟩, List.forall_mem_cons.mpr ⟨⟨_, am_cc9_43⟩, List.forall_mem_cons.mpr ⟨⟨_, am_cc9_44⟩, List.forall_mem_cons.mpr ⟨⟨_, am_cc9_45⟩, List.forall_mem_cons.mpr ⟨⟨_, am_cc9_46⟩, List.forall_mem_cons.mpr ⟨⟨_, am_cc9_47⟩, List.forall_mem_cons.mpr ⟨⟨_, am_cc9_48⟩, List.forall_mem_cons.mpr ⟨⟨_, am_cc9_49⟩, List.forall_mem_cons.mpr ⟨⟨_, am_cc9_50⟩, List.forall_mem_cons.mpr ⟨⟨_, am_cc9_51⟩, List.forall_mem_cons.mpr ⟨⟨_, am_cc9_52⟩, List.forall_mem_cons.mpr ⟨⟨_, am_cc9_53⟩, List.forall_mem_cons.mpr ⟨⟨_, am_cc9_54⟩, List.forall_mem_cons.mpr ⟨⟨_, am_cc9_55⟩, List.forall_mem_cons.mpr ⟨⟨_, am_cc9_56⟩, List.forall_mem_cons.mpr ⟨⟨_, am_cc9_57⟩, List.forall_mem_cons.mpr ⟨⟨_, am_cc9_58⟩, List.forall_mem_cons.mpr ⟨⟨_, am_cc9_59⟩, List.forall_mem_cons.mpr ⟨⟨_, am_cc9_60⟩, List.forall_mem_cons.mpr ⟨⟨_, am_cc9_61⟩, List.forall_mem_cons.mpr ⟨⟨_, am_cc9_62⟩, List.forall_mem_cons.mpr ⟨⟨_, am_cc9_63⟩, List.forall_mem_cons.mpr ⟨⟨_, am_cc9_64⟩, List.forall_mem_cons.mpr ⟨⟨_, am_cc9_65⟩, List.forall_mem_cons.mpr ⟨⟨_, am_cc9_66⟩, List.forall_mem_cons.mpr ⟨⟨_, am_cc9_67⟩, List.forall_mem_cons.mpr ⟨⟨_, am_cc9_68⟩, List.forall_mem_cons.mpr ⟨⟨_, am_cc9_69⟩, List.forall_mem_cons.mpr ⟨⟨_, am_cc9_70⟩, List.forall_mem_cons.mpr ⟨⟨_, am_cc9_71⟩, List.forall_mem_cons.mpr ⟨⟨_, am_cc9_72⟩, List.forall_mem_cons.mpr ⟨⟨_, am_cc9_73⟩, List.forall_mem_cons.mpr ⟨⟨_, am_cc9_74⟩, List.forall_mem_cons.mpr ⟨⟨_, am_cc9_75⟩, List.forall_mem_cons.mpr ⟨⟨_, am_cc9_76⟩, List.forall_mem_cons.mpr ⟨⟨_, am_cc9_77⟩, List.forall_mem_cons.mpr ⟨⟨_, am_cc9_78⟩, List.forall_mem_cons.mpr ⟨⟨_, am_cc9_79⟩, List.forall_mem_cons.mpr ⟨⟨_, am_cc9_80⟩, List.forall_mem_cons.mpr ⟨⟨_, am_cc9_81⟩, List.forall_mem_cons.mpr ⟨⟨_, am_cc9_82⟩, List.forall_mem_cons.mpr ⟨⟨_, am_cc9_83⟩, List.forall_mem_cons.mpr ⟨⟨_, am_cc9_84⟩, List.forall_mem_cons.mpr ⟨⟨_, am_cc9_85⟩, List.forall_mem_cons.mpr ⟨⟨_, am_cc9_86⟩, List.forall_mem_cons.mpr ⟨⟨_, am_cc9_87⟩, List.forall_mem_cons.mpr ⟨⟨_, am_cc9_88⟩, List.forall_mem_cons.mpr ⟨⟨_, am_cc9_89⟩, List.forall_mem_cons.mpr ⟨⟨_, am_cc9_90⟩, List.forall_mem_cons.mpr ⟨⟨_, am_cc9_91⟩, List.forall_mem_cons.mpr ⟨⟨_, am_cc9_92⟩, List.forall_mem_cons.mpr ⟨⟨_, am_cc9_93⟩, List.forall_mem_cons.mpr ⟨⟨_, am_cc9_94⟩, List.forall_mem_cons.mpr ⟨⟨_, am_cc9_95⟩, List.forall_mem_cons.mpr ⟨⟨_, am_cc9_96⟩, List.forall_mem_cons.mpr ⟨⟨_, am_cc9_97⟩, List.forall_mem_cons.mpr ⟨⟨_, am_cc9_98⟩, List.forall_mem_cons.mpr ⟨⟨_, am_cc9_99⟩, List.forall_mem_cons.mpr ⟨⟨_, am_cc9_100⟩, List.forall_mem_cons.mpr ⟨⟨_, am_cc9_101⟩, List.forall_mem_cons.mpr ⟨⟨_, am_cc9_102⟩, List.forall_mem_cons.mpr ⟨⟨_, am_cc9_103⟩, List.forall_mem_cons.mpr ⟨⟨_, am_cc9_104⟩, List.forall_mem_cons.mpr ⟨⟨_, am_cc9_105⟩, List.forall_mem_cons.mpr ⟨⟨_, am_cc9_106⟩, List.forall_mem_cons.mpr ⟨⟨_, am_cc9_107⟩, List.forall_mem_cons.mpr ⟨⟨_, am_cc9_108⟩, List.forall_mem_cons.mpr ⟨⟨_, am_cc9_109⟩, List.forall_mem_cons.mpr ⟨⟨_, am_cc9_110⟩, fun _ h => absurd h List.not_mem_nil⟩⟩⟩⟩⟩⟩⟩⟩⟩⟩⟩⟩⟩⟩⟩⟩⟩⟩⟩⟩⟩⟩⟩⟩⟩⟩⟩⟩⟩⟩⟩⟩⟩⟩⟩⟩⟩⟩⟩⟩⟩⟩⟩⟩⟩⟩⟩⟩⟩⟩⟩⟩⟩⟩⟩⟩⟩⟩⟩⟩⟩⟩⟩⟩⟩⟩⟩⟩⟩⟩⟩⟩⟩⟩⟩⟩⟩⟩⟩⟩⟩⟩⟩⟩⟩⟩⟩⟩⟩⟩⟩⟩⟩⟩⟩⟩⟩⟩⟩⟩⟩⟩⟩⟩⟩⟩⟩⟩⟩⟩⟩
theorem am_cchk_all (o : Nat) (q : Nat × Nat × Nat × am_M) (h : q ∈ am_callT o) : ∃ r, am_cchk o q r = true := match o, h with
  | 0, h => am_cchk_0 q h
  | 1, h => am_cchk_1 q h
  | 2, h => am_cchk_2 q h
  | 3, h => am_cchk_3 q h
  | 4, h => am_cchk_4 q h
  | 5, h => am_cchk_5 q h
  | 6, h => am_cchk_6 q h
  | 7, h => am_cchk_7 q h
  | 8, h => am_cchk_8 q h
  | 9, h => am_cchk_9 q h
  | _ + 10, h => by cases h
theorem am_nchk_0 : am_zc (am_nchk 0) (am_newT 0) (am_newQ 0) = true := by decide +kernel
theorem am_nchk_1 : am_zc (am_nchk 1) (am_newT 1) (am_newQ 1) = true := by decide +kernel
theorem am_nchk_2 : am_zc (am_nchk 2) (am_newT 2) (am_newQ 2) = true := by decide +kernel
theorem am_nchk_3 : am_zc (am_nchk 3) (am_newT 3) (am_newQ 3) = true := by decide +kernel
theorem am_nchk_4 : am_zc (am_nchk 4) (am_newT 4) (am_newQ 4) = true := by decide +kernel
theorem am_nchk_5 : am_zc (am_nchk 5) (am_newT 5) (am_newQ 5) = true := by decide +kernel
theorem am_nchk_6 : am_zc (am_nchk 6) (am_newT 6) (am_newQ 6) = true := by decide +kernel
theorem am_nchk_7 : am_zc (am_nchk 7) (am_newT 7) (am_newQ 7) = true := by decide +kernel
theorem am_nchk_8 : am_zc (am_nchk 8) (am_newT 8) (am_newQ 8) = true := by decide +kernel
theorem am_nchk_9 : am_zc (am_nchk 9) (am_newT 9) (am_newQ 9) = true := by decide +kernel
theorem am_nchk_all (o : Nat) (q : Nat × Nat) (h : q ∈ am_newT o) : ∃ r, am_nchk o q r = true := match o, h with
  | 0, h => am_zc_in am_nchk_0 q h
  | 1, h => am_zc_in am_nchk_1 q h
  | 2, h => am_zc_in am_nchk_2 q h
  | 3, h => am_zc_in am_nchk_3 q h
  | 4, h => am_zc_in am_nchk_4 q h
  | 5, h => am_zc_in am_nchk_5 q h
  | 6, h => am_zc_in am_nchk_6 q h
  | 7, h => am_zc_in am_nchk_7 q h
  | 8, h => am_zc_in am_nchk_8 q h
  | 9, h => am_zc_in am_nchk_9 q h
  | _ + 10, h => by cases h
theorem am_achk_0 : am_zc (am_achk 0) (am_anewT 0) (am_anewQ 0) = true := by decide +kernel
theorem am_achk_1 : am_zc (am_achk 1) (am_anewT 1) (am_anewQ 1) = true := by decide +kernel
theorem am_achk_2 : am_zc (am_achk 2) (am_anewT 2) (am_anewQ 2) = true := by decide +kernel
theorem am_achk_3 : am_zc (am_achk 3) (am_anewT 3) (am_anewQ 3) = true := by decide +kernel
theorem am_achk_4 : am_zc (am_achk 4) (am_anewT 4) (am_anewQ 4) = true := by decide +kernel
theorem am_achk_5 : am_zc (am_achk 5) (am_anewT 5) (am_anewQ 5) = true := by decide +kernel
theorem am_achk_6 : am_zc (am_achk 6) (am_anewT 6) (am_anewQ 6) = true := by decide +kernel
theorem am_achk_7 : am_zc (am_achk 7) (am_anewT 7) (am_anewQ 7) = true := by decide +kernel
theorem am_achk_8 : am_zc (am_achk 8) (am_anewT 8) (am_anewQ 8) = true := by decide +kernel
theorem am_achk_9 : am_zc (am_achk 9) (am_anewT 9) (am_anewQ 9) = true := by decide +kernel
theorem am_achk_all (o : Nat) (q : Nat × Nat) (h : q ∈ am_anewT o) : ∃ r, am_achk o q r = true := match o, h with
  | 0, h => am_zc_in am_achk_0 q h
  | 1, h => am_zc_in am_achk_1 q h
  | 2, h => am_zc_in am_achk_2 q h
  | 3, h => am_zc_in am_achk_3 q h
  | 4, h => am_zc_in am_achk_4 q h
  | 5, h => am_zc_in am_achk_5 q h
  | 6, h => am_zc_in am_achk_6 q h
  | 7, h => am_zc_in am_achk_7 q h
  | 8, h => am_zc_in am_achk_8 q h
  | 9, h => am_zc_in am_achk_9 q h
  | _ + 10, h => by cases h
theorem am_ichk_0 : am_zc (am_ichk 0) (am_ciT 0) (am_ciQ 0) = true := by decide +kernel
theorem am_ichk_1 : am_zc (am_ichk 1) (am_ciT 1) (am_ciQ 1) = true := by decide +kernel
theorem am_ichk_2 : am_zc (am_ichk 2) (am_ciT 2) (am_ciQ 2) = true := by decide +kernel
theorem am_ichk_3 : am_zc (am_ichk 3) (am_ciT 3) (am_ciQ 3) = true := by decide +kernel
theorem am_ichk_4 : am_zc (am_ichk 4) (am_ciT 4) (am_ciQ 4) = true := by decide +kernel
theorem am_ichk_5 : am_zc (am_ichk 5) (am_ciT 5) (am_ciQ 5) = true := by decide +kernel
theorem am_ichk_6 : am_zc (am_ichk 6) (am_ciT 6) (am_ciQ 6) = true := by decide +kernel
theorem am_ichk_7 : am_zc (am_ichk 7) (am_ciT 7) (am_ciQ 7) = true := by decide +kernel
theorem am_ichk_8 : am_zc (am_ichk 8) (am_ciT 8) (am_ciQ 8) = true := by decide +kernel
theorem am_ichk_9 : am_zc (am_ichk 9) (am_ciT 9) (am_ciQ 9) = true := by decide +kernel
theorem am_ichk_all (o : Nat) (q : Nat × Int32) (h : q ∈ am_ciT o) : ∃ r, am_ichk o q r = true := match o, h with
  | 0, h => am_zc_in am_ichk_0 q h
  | 1, h => am_zc_in am_ichk_1 q h
  | 2, h => am_zc_in am_ichk_2 q h
  | 3, h => am_zc_in am_ichk_3 q h
  | 4, h => am_zc_in am_ichk_4 q h
  | 5, h => am_zc_in am_ichk_5 q h
  | 6, h => am_zc_in am_ichk_6 q h
  | 7, h => am_zc_in am_ichk_7 q h
  | 8, h => am_zc_in am_ichk_8 q h
  | 9, h => am_zc_in am_ichk_9 q h
  | _ + 10, h => by cases h
theorem am_lchk_0 : am_zc (am_lchk 0) (am_clT 0) (am_clQ 0) = true := by decide +kernel
theorem am_lchk_1 : am_zc (am_lchk 1) (am_clT 1) (am_clQ 1) = true := by decide +kernel
theorem am_lchk_2 : am_zc (am_lchk 2) (am_clT 2) (am_clQ 2) = true := by decide +kernel
theorem am_lchk_3 : am_zc (am_lchk 3) (am_clT 3) (am_clQ 3) = true := by decide +kernel
theorem am_lchk_4 : am_zc (am_lchk 4) (am_clT 4) (am_clQ 4) = true := by decide +kernel
theorem am_lchk_5 : am_zc (am_lchk 5) (am_clT 5) (am_clQ 5) = true := by decide +kernel
theorem am_lchk_6 : am_zc (am_lchk 6) (am_clT 6) (am_clQ 6) = true := by decide +kernel
theorem am_lchk_7 : am_zc (am_lchk 7) (am_clT 7) (am_clQ 7) = true := by decide +kernel
theorem am_lchk_8 : am_zc (am_lchk 8) (am_clT 8) (am_clQ 8) = true := by decide +kernel
theorem am_lchk_9 : am_zc (am_lchk 9) (am_clT 9) (am_clQ 9) = true := by decide +kernel
theorem am_lchk_all (o : Nat) (q : Nat × Int64) (h : q ∈ am_clT o) : ∃ r, am_lchk o q r = true := match o, h with
  | 0, h => am_zc_in am_lchk_0 q h
  | 1, h => am_zc_in am_lchk_1 q h
  | 2, h => am_zc_in am_lchk_2 q h
  | 3, h => am_zc_in am_lchk_3 q h
  | 4, h => am_zc_in am_lchk_4 q h
  | 5, h => am_zc_in am_lchk_5 q h
  | 6, h => am_zc_in am_lchk_6 q h
  | 7, h => am_zc_in am_lchk_7 q h
  | 8, h => am_zc_in am_lchk_8 q h
  | 9, h => am_zc_in am_lchk_9 q h
  | _ + 10, h => by cases h
theorem am_lay_0 : am_zc (fun k p => am_wat p (u_lay (am_cn 0) (am_TX 0) k)) (List.range (am_fk 0).length) (am_layQ 0) = true := by decide +kernel
theorem am_lay_1 : am_zc (fun k p => am_wat p (u_lay (am_cn 1) (am_TX 1) k)) (List.range (am_fk 1).length) (am_layQ 1) = true := by decide +kernel
theorem am_lay_2 : am_zc (fun k p => am_wat p (u_lay (am_cn 2) (am_TX 2) k)) (List.range (am_fk 2).length) (am_layQ 2) = true := by decide +kernel
theorem am_lay_3 : am_zc (fun k p => am_wat p (u_lay (am_cn 3) (am_TX 3) k)) (List.range (am_fk 3).length) (am_layQ 3) = true := by decide +kernel
theorem am_lay_4 : am_zc (fun k p => am_wat p (u_lay (am_cn 4) (am_TX 4) k)) (List.range (am_fk 4).length) (am_layQ 4) = true := by decide +kernel
theorem am_lay_5 : am_zc (fun k p => am_wat p (u_lay (am_cn 5) (am_TX 5) k)) (List.range (am_fk 5).length) (am_layQ 5) = true := by decide +kernel
theorem am_lay_6 : am_zc (fun k p => am_wat p (u_lay (am_cn 6) (am_TX 6) k)) (List.range (am_fk 6).length) (am_layQ 6) = true := by decide +kernel
theorem am_lay_7 : am_zc (fun k p => am_wat p (u_lay (am_cn 7) (am_TX 7) k)) (List.range (am_fk 7).length) (am_layQ 7) = true := by decide +kernel
theorem am_lay_8 : am_zc (fun k p => am_wat p (u_lay (am_cn 8) (am_TX 8) k)) (List.range (am_fk 8).length) (am_layQ 8) = true := by decide +kernel
theorem am_lay_all (ci : Nat) (h : ci < 9) : ∀ w ∈ u_ws (am_cn ci) (am_TX ci) (am_fk ci).length, w ∈ am_T := by
  intro w hw
  obtain ⟨k, hk, rfl⟩ := List.mem_map.mp hw
  have key : am_zc (fun k p => am_wat p (u_lay (am_cn ci) (am_TX ci) k)) (List.range (am_fk ci).length) (am_layQ ci) = true := by
    match ci, h with
    | 0, _ => exact am_lay_0
    | 1, _ => exact am_lay_1
    | 2, _ => exact am_lay_2
    | 3, _ => exact am_lay_3
    | 4, _ => exact am_lay_4
    | 5, _ => exact am_lay_5
    | 6, _ => exact am_lay_6
    | 7, _ => exact am_lay_7
    | 8, _ => exact am_lay_8
  obtain ⟨r, hr⟩ := am_zc_in key k hk
  exact am_wat_in hr
theorem am_cl_at (ci : Nat) (h : ci < 9) : vwCl[ci]? = some (am_cn ci, am_TX ci, (am_fk ci).length) := by
  match ci, h with
  | 0, _ => rfl
  | 1, _ => rfl
  | 2, _ => rfl
  | 3, _ => rfl
  | 4, _ => rfl
  | 5, _ => rfl
  | 6, _ => rfl
  | 7, _ => rfl
  | 8, _ => rfl
theorem am_w_oi : Cond.instanceMethod Lib.objectInit ∈ am_T := am_wat_in (i := 121) (by decide +kernel)
theorem am_w_oc : Cond.code Lib.objectInit ⟨#[0xb1]⟩ 1 none ∈ am_T := am_wat_in (i := 122) (by decide +kernel)
theorem am_w_an : Cond.native arraycopyName ∈ am_T := am_wat_in (i := 159) (by decide +kernel)
theorem am_w_as : Cond.static arraycopyName ∈ am_T := am_wat_in (i := 158) (by decide +kernel)
theorem am_w_ai : Cond.initialized "java/lang/System" ∈ am_T := am_wat_in (i := 97) (by decide +kernel)
theorem am_wm_max_s : Cond.static Lib.Math.max.name ∈ am_T := am_wat_in (i := 970) (by decide +kernel)
theorem am_wm_max_c : Cond.code Lib.Math.max.name Lib.Math.max.code 2 (some .int) ∈ am_T := am_wat_in (i := 971) (by decide +kernel)
theorem am_wm_min_s : Cond.static Lib.Math.min.name ∈ am_T := am_wat_in (i := 137) (by decide +kernel)
theorem am_wm_min_c : Cond.code Lib.Math.min.name Lib.Math.min.code 2 (some .int) ∈ am_T := am_wat_in (i := 138) (by decide +kernel)
theorem am_wm_abs_s : Cond.static Lib.Math.abs.name ∈ am_T := am_wat_in (i := 929) (by decide +kernel)
theorem am_wm_abs_c : Cond.code Lib.Math.abs.name Lib.Math.abs.code 1 (some .int) ∈ am_T := am_wat_in (i := 930) (by decide +kernel)
theorem am_wm_lmax_s : Cond.static Lib.MathLoose.max_long.x ∈ am_T := am_wat_in (i := 946) (by decide +kernel)
theorem am_wm_lmax_c : Cond.code Lib.MathLoose.max_long.x Lib.MathLoose.max_long.code 4 (some .long) ∈ am_T := am_wat_in (i := 947) (by decide +kernel)
theorem am_wm_lmin_s : Cond.static Lib.MathLoose.min_long.x ∈ am_T := am_wat_in (i := 943) (by decide +kernel)
theorem am_wm_lmin_c : Cond.code Lib.MathLoose.min_long.x Lib.MathLoose.min_long.code 4 (some .long) ∈ am_T := am_wat_in (i := 944) (by decide +kernel)
theorem am_wm_i : Cond.initialized "java/lang/Math" ∈ am_T := am_wat_in (i := 96) (by decide +kernel)
