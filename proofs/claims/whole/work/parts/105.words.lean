abbrev am_name (M : am_M) : MethodName := M.1
abbrev am_code (M : am_M) : ByteArray := M.2.1
abbrev am_maxL (M : am_M) : Nat := M.2.2.1
abbrev am_ret (M : am_M) : Option FieldType := M.2.2.2.1
abbrev am_hh (M : am_M) : List (Nat × Nat × Nat × Nat) := M.2.2.2.2.1
abbrev am_own (M : am_M) : Nat := M.2.2.2.2.2
def am_fin (ci k : Nat) : Bool := match ci with
  | 1 => decide (k < 2)
  | 2 => decide (k = 0)
  | 3 => decide (k = 0)
  | 4 => decide (k < 2)
  | 5 => decide (k = 3 ∨ k = 4 ∨ k = 6 ∨ 8 ≤ k)
  | 6 => decide (k = 0)
  | 7 => true
  | 8 => decide (k < 3 ∨ (4 ≤ k ∧ k < 7) ∨ (17 ≤ k ∧ k < 20) ∨ k = 28 ∨ k = 29 ∨ 50 ≤ k)
  | _ => false
def am_T : List Cond := lw_tbl.filter (fun w => w.onTables)
def am_cn : Nat → String
  | 0 => RX0
  | 1 => RX1
  | 2 => RX2
  | 3 => RX3
  | 4 => RX4
  | 5 => RX5
  | 6 => RX6
  | 7 => RX7
  | 8 => RX8
  | 9 => RL
  | _ => RJ9
/-! ===== places of the words that justify the tables (printed by gen/pos.py) ===== -/
def am_fldQ : Nat → List (List Nat) := fun o => match o with
  | 0 => [[363], [369], [365], [367]]
  | 1 => [[297], [298], [299], [10165], [10169], [300], [301], [303], [305], [307], [309], [311], [313], [314], [316], [318], [319], [320], [10269], [10260], [10178], [10147], [10181]]
  | 2 => [[254], [10143], [255], [256], [258], [262], [264], [266], [268], [271]]
  | 3 => [[215], [225], [216], [10144], [223], [220], [218], [219], [222], [221]]
  | 4 => [[140], [141], [142]]
  | 5 => [[161], [163], [168], [171], [174], [177], [180], [183], [172], [175], [10145], [166]]
  | 6 => [[385], [386], [388]]
  | 7 => [[398], [399], [400], [401], [402], [403], [404], [405], [406], [407], [408], [10162], [10164], [10217], [10173], [10224], [10170], [10226], [10146], [10257], [10259], [10261], [10263], [10265], [10267], [10270], [10302], [10315], [10317], [10321], [10304], [10306], [10308], [10310], [10312], [10179], [10182], [10167], [10364], [10366], [10368], [10370], [10184], [10389], [10176], [10387]]
  | 8 => [[1308], [1309], [1310], [1312], [1313], [1314], [1324], [1325], [1326], [1327], [1336], [1337], [1358], [1359], [1360], [1361], [1311], [1315], [1316], [1317], [1318], [1319], [1320], [1321], [1322], [1323], [1329], [1330], [1328], [1331], [1332], [1333], [1334], [1335], [1338], [1339], [1340], [1341], [1342], [1343], [1344], [1345], [1346], [1347], [1348], [1349], [1353], [1350], [1351], [1352], [1354], [1355], [1357], [1356]]
  | _ => []
def am_callQ : Nat → List (List Nat) := fun o => match o with
  | 0 => [[362, 0, 0, 0, 0], [11130, 94, 526, 525, 0], [11131, 94, 529, 528, 0]]
  | 1 => [[296, 0, 0, 0, 0], [905, 100, 908, 906, 907], [10909, 94, 911, 910, 0], [10917, 94, 914, 913, 0], [901, 101, 904, 902, 903], [918, 101, 921, 919, 920], [922, 101, 925, 923, 924], [10926, 94, 928, 927, 0], [10937, 94, 939, 938, 0], [949, 0, 0, 0, 0], [950, 101, 953, 952, 29], [955, 101, 958, 957, 30], [961, 101, 964, 963, 31], [970, 101, 973, 972, 33], [977, 101, 980, 979, 34], [10960, 94, 942, 941, 0], [965, 101, 968, 967, 32], [969, 96, 479, 477, 478], [974, 0, 0, 0, 0]]
  | 2 => [[253, 0, 0, 0, 0], [472, 100, 475, 474, 2], [476, 96, 479, 477, 478], [480, 100, 483, 481, 482], [504, 100, 507, 505, 506], [484, 100, 487, 486, 3], [496, 100, 499, 498, 6], [500, 100, 503, 502, 7], [488, 100, 491, 490, 4], [492, 100, 495, 494, 5], [508, 100, 511, 509, 510], [550, 0, 0, 0, 0]]
  | 3 => [[214, 0, 0, 0, 0], [652, 99, 655, 654, 14], [678, 99, 681, 680, 18], [682, 99, 685, 684, 19], [744, 99, 747, 746, 21], [748, 99, 751, 750, 22], [657, 99, 660, 659, 15], [752, 99, 755, 754, 23], [756, 99, 759, 758, 24], [760, 96, 533, 531, 532], [783, 99, 786, 785, 25], [787, 99, 790, 789, 26], [656, 0, 0, 0, 0], [686, 99, 688, 687, 0], [692, 99, 695, 694, 20], [791, 99, 793, 792, 0], [696, 0, 0, 0, 0], [661, 99, 664, 663, 16], [706, 0, 0, 0, 0], [665, 99, 667, 666, 0], [668, 99, 670, 669, 0], [671, 99, 673, 672, 0], [674, 99, 677, 676, 17]]
  | 4 => [[136, 0, 0, 0, 0], [137, 0, 0, 0, 0], [534, 96, 537, 536, 10], [769, 0, 0, 0, 0]]
  | 5 => [[129, 0, 0, 0, 0], [133, 96, 135, 134, 0], [158, 0, 0, 0, 0], [765, 96, 768, 766, 767]]
  | 6 => [[384, 0, 0, 0, 0], [1258, 103, 1261, 1260, 46]]
  | 7 => [[121, 0, 0, 0, 0], [126, 95, 128, 127, 0], [10211, 99, 213, 212, 0], [10250, 100, 252, 251, 0], [293, 101, 295, 294, 0], [356, 96, 135, 134, 0], [10359, 102, 361, 360, 0], [10381, 103, 383, 382, 0], [569, 94, 571, 570, 0], [436, 99, 439, 437, 438], [648, 99, 651, 649, 650], [761, 95, 764, 762, 763], [778, 0, 0, 0, 0], [779, 99, 782, 780, 781], [817, 94, 820, 819, 27], [553, 94, 555, 554, 0], [464, 94, 467, 466, 1], [856, 94, 859, 858, 28], [883, 100, 511, 509, 510], [891, 94, 893, 892, 0], [897, 101, 900, 898, 899], [981, 101, 984, 982, 983], [985, 101, 988, 986, 987], [996, 101, 904, 902, 903], [997, 101, 921, 919, 920], [998, 101, 925, 923, 924], [530, 96, 533, 531, 532], [894, 94, 896, 895, 0], [1028, 101, 1031, 1029, 1030], [1039, 94, 1042, 1041, 35], [1043, 94, 1046, 1045, 36], [452, 95, 455, 453, 454], [1063, 94, 1066, 1065, 37], [1072, 94, 1074, 1073, 0], [1088, 94, 1091, 1090, 38], [1099, 94, 1102, 1101, 39], [821, 95, 824, 822, 823], [1117, 94, 1120, 1119, 40], [1122, 96, 1125, 1123, 1124], [1147, 94, 1149, 1148, 0], [1150, 101, 1153, 1151, 1152], [556, 96, 479, 477, 478], [1161, 94, 1163, 1162, 0], [1179, 94, 1182, 1181, 41], [1067, 95, 1070, 1068, 1069], [1183, 94, 1186, 1185, 42], [1187, 94, 1190, 1189, 43], [929, 0, 0, 0, 0], [1202, 0, 0, 0, 0], [460, 94, 463, 462, 0], [516, 94, 519, 518, 8], [538, 94, 541, 540, 11], [1217, 94, 1220, 1219, 45], [1222, 103, 1225, 1223, 1224], [1234, 94, 1236, 1235, 0], [1254, 103, 1257, 1255, 1256], [1270, 103, 1273, 1271, 1272], [1282, 94, 1284, 1283, 0], [1286, 95, 1289, 1287, 1288], [468, 100, 471, 469, 470], [512, 100, 515, 513, 514], [520, 94, 523, 522, 9], [542, 94, 545, 544, 12], [524, 94, 526, 525, 0], [527, 94, 529, 528, 0], [546, 100, 549, 547, 548], [551, 100, 483, 481, 482], [552, 100, 507, 505, 506], [1047, 0, 0, 0, 0], [1048, 100, 908, 906, 907], [1121, 96, 768, 766, 767], [1126, 102, 1129, 1127, 1128], [1191, 94, 1194, 1193, 44], [912, 94, 914, 913, 0], [932, 94, 934, 933, 0], [940, 94, 942, 941, 0], [943, 0, 0, 0, 0], [946, 0, 0, 0, 0]]
  | 8 => [[1303, 0, 0, 0, 0], [1304, 104, 1307, 1306, 47], [1482, 104, 1484, 1483, 0], [1507, 104, 1509, 1508, 0], [1510, 104, 1513, 1512, 51], [1514, 104, 1516, 1515, 0], [1522, 0, 0, 0, 0], [1523, 0, 0, 0, 0], [1526, 104, 1529, 1528, 53], [1503, 104, 1506, 1505, 50], [1495, 104, 1498, 1497, 48], [1499, 104, 1502, 1501, 49], [1518, 104, 1521, 1520, 52], [1530, 104, 1533, 1532, 54], [1534, 104, 1537, 1536, 55], [1538, 104, 1541, 1540, 56], [1547, 104, 1550, 1549, 57], [1553, 104, 1556, 1555, 58], [1569, 104, 1572, 1571, 59], [1573, 104, 1576, 1575, 60], [1577, 104, 1580, 1579, 61], [1597, 0, 0, 0, 0], [1599, 104, 1602, 1601, 65], [1603, 104, 1606, 1605, 66], [1607, 104, 1610, 1609, 67], [1611, 104, 1614, 1613, 68], [1589, 104, 1592, 1591, 63], [1593, 104, 1596, 1595, 64], [1615, 104, 1618, 1617, 69], [1585, 104, 1588, 1587, 62], [1624, 104, 1627, 1626, 70], [1666, 104, 1668, 1667, 0], [1663, 104, 1665, 1664, 0], [1669, 104, 1671, 1670, 0], [1659, 104, 1662, 1661, 73], [1687, 0, 0, 0, 0], [1688, 0, 0, 0, 0], [1680, 104, 1683, 1682, 76], [1684, 104, 1686, 1685, 0], [1690, 104, 1693, 1692, 77], [1694, 0, 0, 0, 0], [1695, 104, 1698, 1697, 78], [1676, 104, 1679, 1678, 75], [1699, 0, 0, 0, 0], [1655, 104, 1658, 1657, 72], [1672, 104, 1675, 1674, 74], [1651, 104, 1654, 1653, 71], [1636, 104, 1638, 1637, 0], [1641, 104, 1643, 1642, 0], [1645, 104, 1647, 1646, 0], [1731, 104, 1734, 1733, 79], [1743, 104, 1746, 1745, 81], [1739, 104, 1742, 1741, 80], [1774, 104, 1777, 1776, 85], [1759, 104, 1762, 1761, 82], [1763, 104, 1765, 1764, 0], [1766, 104, 1769, 1768, 83], [1770, 104, 1773, 1772, 84], [1782, 104, 1785, 1784, 86], [1786, 104, 1789, 1788, 87], [1794, 104, 1797, 1796, 88], [1806, 104, 1809, 1808, 89], [1819, 104, 1821, 1820, 0], [1822, 104, 1825, 1824, 90], [1838, 104, 1841, 1840, 91], [1854, 104, 1857, 1856, 92], [1862, 104, 1864, 1863, 0]]
  | 9 => [[565, 94, 568, 566, 567], [644, 94, 647, 645, 646], [773, 94, 776, 774, 775], [813, 94, 816, 814, 815], [844, 94, 847, 845, 846], [852, 94, 855, 853, 854], [879, 94, 882, 880, 881], [887, 94, 890, 888, 889], [992, 94, 995, 993, 994], [1002, 94, 1005, 1003, 1004], [1009, 94, 1012, 1010, 1011], [1017, 94, 1020, 1018, 1019], [1024, 94, 1027, 1025, 1026], [1035, 94, 1038, 1036, 1037], [1052, 94, 1055, 1053, 1054], [1059, 94, 1062, 1060, 1061], [1084, 94, 1087, 1085, 1086], [1095, 94, 1098, 1096, 1097], [1106, 94, 1109, 1107, 1108], [1113, 94, 1116, 1114, 1115], [1136, 94, 1139, 1137, 1138], [1143, 94, 1146, 1144, 1145], [1157, 94, 1160, 1158, 1159], [1167, 94, 1170, 1168, 1169], [1174, 94, 1177, 1175, 1176], [1198, 94, 1201, 1199, 1200], [1206, 94, 1209, 1207, 1208], [1213, 94, 1216, 1214, 1215], [1230, 94, 1233, 1231, 1232], [1265, 94, 1268, 1266, 1267], [1278, 94, 1281, 1279, 1280], [1293, 94, 1296, 1294, 1295], [118, 94, 120, 119, 0], [1300, 104, 1302, 1301, 0], [561, 93, 563, 562, 0], [1476, 104, 1479, 1477, 1478], [1472, 104, 1475, 1473, 1474], [432, 94, 435, 433, 434], [1487, 104, 1490, 1488, 1489], [641, 93, 643, 642, 0], [1491, 104, 1494, 1492, 1493], [770, 93, 772, 771, 0], [1542, 104, 1545, 1543, 1544], [440, 94, 443, 441, 442], [1561, 104, 1564, 1562, 1563], [809, 93, 811, 810, 0], [1565, 104, 1568, 1566, 1567], [841, 93, 843, 842, 0], [1581, 104, 1584, 1582, 1583], [848, 93, 850, 849, 0], [1620, 104, 1623, 1621, 1622], [876, 93, 878, 877, 0], [1628, 104, 1631, 1629, 1630], [884, 93, 886, 885, 0], [1632, 104, 1635, 1633, 1634], [989, 93, 991, 990, 0], [1701, 104, 1704, 1702, 1703], [999, 93, 1001, 1000, 0], [1706, 104, 1709, 1707, 1708], [1006, 93, 1008, 1007, 0], [1712, 104, 1715, 1713, 1714], [444, 94, 447, 445, 446], [1718, 104, 1721, 1719, 1720], [1014, 93, 1016, 1015, 0], [1722, 104, 1725, 1723, 1724], [1021, 93, 1023, 1022, 0], [1727, 104, 1730, 1728, 1729], [1032, 93, 1034, 1033, 0], [1735, 104, 1738, 1736, 1737], [1049, 93, 1051, 1050, 0], [1747, 104, 1750, 1748, 1749], [448, 94, 451, 449, 450], [1751, 104, 1754, 1752, 1753], [1056, 93, 1058, 1057, 0], [1755, 104, 1758, 1756, 1757], [1081, 93, 1083, 1082, 0], [1778, 104, 1781, 1779, 1780], [1092, 93, 1094, 1093, 0], [1790, 104, 1793, 1791, 1792], [1103, 93, 1105, 1104, 0], [1798, 104, 1801, 1799, 1800], [1110, 93, 1112, 1111, 0], [1802, 104, 1805, 1803, 1804], [1133, 93, 1135, 1134, 0], [1811, 104, 1814, 1812, 1813], [1140, 93, 1142, 1141, 0], [1815, 104, 1818, 1816, 1817], [1154, 93, 1156, 1155, 0], [1826, 104, 1829, 1827, 1828], [1164, 93, 1166, 1165, 0], [1830, 104, 1833, 1831, 1832], [1171, 93, 1173, 1172, 0], [1834, 104, 1837, 1835, 1836], [1195, 93, 1197, 1196, 0], [1842, 104, 1845, 1843, 1844], [1203, 93, 1205, 1204, 0], [1846, 104, 1849, 1847, 1848], [456, 94, 459, 457, 458], [1850, 104, 1853, 1851, 1852], [1210, 93, 1212, 1211, 0], [1858, 104, 1861, 1859, 1860], [1226, 93, 1228, 1227, 0], [1865, 104, 1868, 1866, 1867], [1262, 93, 1264, 1263, 0], [1869, 104, 1872, 1870, 1871], [1275, 93, 1277, 1276, 0], [1873, 104, 1876, 1874, 1875], [1290, 93, 1292, 1291, 0], [1877, 104, 1880, 1878, 1879], [557, 94, 560, 558, 559], [1881, 104, 1884, 1882, 1883]]
  | _ => []
def am_newQ : Nat → List (List Nat) := fun o => match o with
  | 5 => [[130, 132, 96]]
  | 7 => [[124, 125, 95], [209, 210, 99], [246, 380, 103], [248, 249, 100], [291, 292, 101], [355, 132, 96], [357, 358, 102]]
  | 9 => [[116, 117, 94], [1298, 1299, 104]]
  | _ => []
def am_anewQ : Nat → List (List Nat) := fun o => match o with
  | 5 => [[130]]
  | 7 => [[124], [246]]
  | _ => []
def am_ciQ : Nat → List (List Nat) := fun o => match o with
  | 7 => [[1013]]
  | _ => []
def am_clQ : Nat → List (List Nat) := fun o => match o with
  | 1 => [[954], [959]]
  | 7 => [[1132], [1075], [1076], [1077], [1078], [1079]]
  | 8 => [[1639], [1640], [1619], [1644], [1648], [1649], [1480], [1481], [1485], [1486], [1598], [1689], [1700], [1650], [1705], [1710], [1711], [1716], [1717], [1726], [1810]]
  | 9 => [[1885]]
  | _ => []
def am_layQ : Nat → List Nat := fun o => match o with
  | 0 => [371, 373, 375, 377]
  | 1 => [322, 324, 326, 328, 330, 332, 334, 336, 338, 340, 342, 344, 346, 348, 350, 352]
  | 2 => [272, 274, 276, 278, 280, 282, 284, 286, 288]
  | 3 => [227, 229, 231, 233, 235, 237, 239, 241, 243]
  | 4 => [148, 150, 152]
  | 5 => [185, 187, 189, 191, 193, 195, 197, 199, 201, 203, 205]
  | 6 => [390, 392, 394]
  | 7 => [409, 411, 413, 415, 417, 419, 421, 423, 425, 427, 429]
  | 8 => [1362, 1364, 1366, 1368, 1370, 1372, 1374, 1376, 1378, 1380, 1382, 1384, 1386, 1388, 1390, 1392, 1394, 1396, 1398, 1400, 1402, 1404, 1406, 1408, 1410, 1412, 1414, 1416, 1418, 1420, 1422, 1424, 1426, 1428, 1430, 1432, 1434, 1436, 1438, 1440, 1442, 1444, 1446, 1448, 1450, 1452, 1454, 1456, 1458, 1460, 1462, 1464, 1466, 1468]
  | _ => []
def am_TX : Nat → u_T := fun ci => match ci with
  | 0 => TX0
  | 1 => TX1
  | 2 => TX2
  | 3 => TX3
  | 4 => TX4
  | 5 => TX5
  | 6 => TX6
  | 7 => TX7
  | _ => TX8
def am_wat (i : Nat) (w : Cond) : Bool := decide (lw_tbl[i]? = some w) && w.onTables
theorem am_wat_in {i : Nat} {w : Cond} (h : am_wat i w = true) : w ∈ am_T := by
  simp only [am_wat, Bool.and_eq_true, decide_eq_true_eq] at h
  exact List.mem_filter.mpr ⟨List.mem_of_getElem? h.1, h.2⟩
def am_zc {α β : Type} (f : α → β → Bool) : List α → List β → Bool
  | [], [] => true
  | a :: l, b :: m => f a b && am_zc f l m
  | _, _ => false
theorem am_zc_in {α β : Type} {f : α → β → Bool} : ∀ {l : List α} {m : List β}, am_zc f l m = true → ∀ q ∈ l, ∃ r, f q r = true
  | [], [], _, q, h => by cases h
  | [], _ :: _, h, _, _ => by simp [am_zc] at h
  | _ :: _, [], h, _, _ => by simp [am_zc] at h
  | a :: l, b :: m, h, q, hq => by
    simp only [am_zc, Bool.and_eq_true] at h
    rcases List.mem_cons.mp hq with rfl | hq
    · exact ⟨b, h.1⟩
    · exact am_zc_in h.2 q hq
def am_fchk (o : Nat) (q : Nat × Nat × Nat) (r : List Nat) : Bool := match r with
  | [p] => decide (q.2.1 < 9) && decide (q.2.2 < (am_fk q.2.1).length) && decide ((am_TX q.2.1 q.2.2).1 = am_cn q.2.1) && decide ((am_TX q.2.1 q.2.2).2.2.2 = am_fin q.2.1 q.2.2) &&
    (if p < 10000 then am_wat p (.fieldLink (am_cn o) q.1 (am_cn q.2.1) (am_TX q.2.1 q.2.2).2.1 (am_TX q.2.1 q.2.2).2.2.1)
     else am_wat (p - 10000) (.fieldLinkNest (am_cn o) q.1 (am_cn q.2.1) (am_TX q.2.1 q.2.2).2.1 (am_TX q.2.1 q.2.2).2.2.1 "DartHangar"))
  | _ => false
def am_cw (M : am_M) : Cond := if am_hh M = [] then .code (am_name M) (am_code M) (am_maxL M) (am_ret M) else .codeWith (am_name M) (am_code M) (am_maxL M) (am_ret M) (am_hh M)
def am_cchk (o : Nat) (q : Nat × Nat × Nat × am_M) (r : List Nat) : Bool := match q, r with
  | (x, kd, na, M), [p0, p1, p2, p3, p4] =>
    if kd ≤ 2 then
      (if p0 < 10000 then am_wat p0 (.methodLink (am_cn o) x (am_name M)) else am_wat (p0 - 10000) (.methodLinkNest (am_cn o) x (am_name M) "DartHangar") && decide (kd ≠ 0) && decide (am_hh M = [])) &&
      am_wat p1 (.initialized (am_name M).cls) && am_wat p2 (am_cw M) && decide ((am_name M).cls = am_cn (am_own M)) && decide (am_maxL M ≤ 40) &&
      decide ((am_name M).cls ≠ "java/lang/invoke/MethodHandle" ∧ (am_name M).cls ≠ "java/lang/invoke/VarHandle") && decide ((parseMethodDescriptor (am_name M).desc).map (fun d => d.parameters.length) = some na) && plainName (am_name M).cls &&
      (if kd = 0 then am_wat p3 (.instanceMethod (am_name M)) && am_wat p4 (.selects (am_name M).cls (am_name M) (am_name M)) && decide (am_own M < 9) && decide (am_hh M = []) else
       if kd = 1 then am_wat p3 (.static (am_name M)) else am_wat p3 (.instanceMethod (am_name M)) && decide ((am_name M).name = "<init>") && decide (am_ret M = none) && decide (am_hh M = []))
    else if kd = 3 then am_wat p0 (.methodLink (am_cn o) x Lib.objectInit)
    else if kd = 4 then am_wat p0 (.methodLink (am_cn o) x yJ0_length_8abf5)
    else if kd = 5 then am_wat p0 (.methodLink (am_cn o) x yJ0_charAt_5068e)
    else if kd = 6 then am_wat p0 (.methodLink (am_cn o) x arraycopyName)
    else if kd = 10 then am_wat p0 (.methodLink (am_cn o) x Lib.Math.max.name)
    else if kd = 11 then am_wat p0 (.methodLink (am_cn o) x Lib.Math.min.name)
    else if kd = 12 then am_wat p0 (.methodLink (am_cn o) x Lib.Math.abs.name)
    else if kd = 13 then am_wat p0 (.methodLink (am_cn o) x Lib.MathLoose.max_long.x)
    else decide (kd = 14) && am_wat p0 (.methodLink (am_cn o) x Lib.MathLoose.min_long.x)
  | _, _ => false
def am_nchk (o : Nat) (q : Nat × Nat) (r : List Nat) : Bool := match r with
  | [p0, p1, p2] => decide (q.2 < 9) && am_wat p0 (.classLink (am_cn o) q.1 (am_cn q.2)) && am_wat p1 (.instantiable (am_cn q.2) (am_fk q.2).length) && am_wat p2 (.initialized (am_cn q.2))
  | _ => false
def am_achk (o : Nat) (q : Nat × Nat) (r : List Nat) : Bool := match r with
  | [p0] => decide (23 ≤ q.2 ∧ q.2 ≤ 25) && am_wat p0 (.classLink (am_cn o) q.1 (am_cn (q.2 - 19)))
  | _ => false
def am_ichk (o : Nat) (q : Nat × Int32) (r : List Nat) : Bool := match r with
  | [p0] => am_wat p0 (.constant (am_cn o) q.1 q.2)
  | _ => false
def am_lchk (o : Nat) (q : Nat × Int64) (r : List Nat) : Bool := match r with
  | [p0] => am_wat p0 (.constantLong (am_cn o) q.1 q.2)
  | _ => false
theorem am_fchk_0 : am_zc (am_fchk 0) (am_fldT 0) (am_fldQ 0) = true := by decide +kernel
theorem am_fchk_1 : am_zc (am_fchk 1) (am_fldT 1) (am_fldQ 1) = true := by decide +kernel
theorem am_fchk_2 : am_zc (am_fchk 2) (am_fldT 2) (am_fldQ 2) = true := by decide +kernel
theorem am_fchk_3 : am_zc (am_fchk 3) (am_fldT 3) (am_fldQ 3) = true := by decide +kernel
theorem am_fchk_4 : am_zc (am_fchk 4) (am_fldT 4) (am_fldQ 4) = true := by decide +kernel
theorem am_fchk_5 : am_zc (am_fchk 5) (am_fldT 5) (am_fldQ 5) = true := by decide +kernel
theorem am_fchk_6 : am_zc (am_fchk 6) (am_fldT 6) (am_fldQ 6) = true := by decide +kernel
theorem am_fchk_7 : am_zc (am_fchk 7) (am_fldT 7) (am_fldQ 7) = true := by decide +kernel
theorem am_fchk_8 : am_zc (am_fchk 8) (am_fldT 8) (am_fldQ 8) = true := by decide +kernel
theorem am_fchk_9 : am_zc (am_fchk 9) (am_fldT 9) (am_fldQ 9) = true := by decide +kernel
theorem am_fchk_all (o : Nat) (q : Nat × Nat × Nat) (h : q ∈ am_fldT o) : ∃ r, am_fchk o q r = true := match o, h with
  | 0, h => am_zc_in am_fchk_0 q h
  | 1, h => am_zc_in am_fchk_1 q h
  | 2, h => am_zc_in am_fchk_2 q h
  | 3, h => am_zc_in am_fchk_3 q h
  | 4, h => am_zc_in am_fchk_4 q h
  | 5, h => am_zc_in am_fchk_5 q h
  | 6, h => am_zc_in am_fchk_6 q h
  | 7, h => am_zc_in am_fchk_7 q h
  | 8, h => am_zc_in am_fchk_8 q h
  | 9, h => am_zc_in am_fchk_9 q h
  | _ + 10, h => by cases h
theorem am_cc0_0 : am_cchk 0 (3, 3, 0, mX0_init) [362, 0, 0, 0, 0] = true := by decide +kernel
theorem am_cc0_1 : am_cchk 0 (19, 1, 1, mX7_triedKind) [11130, 94, 526, 525, 0] = true := by decide +kernel
theorem am_cc0_2 : am_cchk 0 (26, 1, 1, mX7_triedN) [11131, 94, 529, 528, 0] = true := by decide +kernel
set_option maxRecDepth 100000 in
theorem am_cchk_0 : ∀ q ∈ am_callT 0, ∃ r, am_cchk 0 q r = true := List.forall_mem_cons.mpr ⟨⟨_, am_cc0_0⟩, List.forall_mem_cons.mpr ⟨⟨_, am_cc0_1⟩, List.forall_mem_cons.mpr ⟨⟨_, am_cc0_2⟩, fun _ h => absurd h List.not_mem_nil⟩⟩⟩
theorem am_cc1_0 : am_cchk 1 (3, 3, 0, mX0_init) [296, 0, 0, 0, 0] = true := by decide +kernel
theorem am_cc1_1 : am_cchk 1 (28, 0, 1, mX2_dampWeight) [905, 100, 908, 906, 907] = true := by decide +kernel
theorem am_cc1_2 : am_cchk 1 (48, 1, 1, mX7_cosine) [10909, 94, 911, 910, 0] = true := by decide +kernel
theorem am_cc1_3 : am_cchk 1 (54, 1, 1, mX7_sine) [10917, 94, 914, 913, 0] = true := by decide +kernel
theorem am_cc1_4 : am_cchk 1 (84, 0, 3, mX1_begin) [901, 101, 904, 902, 903] = true := by decide +kernel
theorem am_cc1_5 : am_cchk 1 (88, 0, 0, mX1_goesOn) [918, 101, 921, 919, 920] = true := by decide +kernel
theorem am_cc1_6 : am_cchk 1 (92, 0, 0, mX1_tick) [922, 101, 925, 923, 924] = true := by decide +kernel
theorem am_cc1_7 : am_cchk 1 (95, 1, 2, mX7_pathOf) [10926, 94, 928, 927, 0] = true := by decide +kernel
theorem am_cc1_8 : am_cchk 1 (99, 1, 2, mX7_attackOf) [10937, 94, 939, 938, 0] = true := by decide +kernel
theorem am_cc1_9 : am_cchk 1 (102, 12, 0, mX0_init) [949, 0, 0, 0, 0] = true := by decide +kernel
theorem am_cc1_10 : am_cchk 1 (107, 0, 2, mX1_force) [950, 101, 953, 952, 29] = true := by decide +kernel
theorem am_cc1_11 : am_cchk 1 (116, 0, 1, mX1_turnNose) [955, 101, 958, 957, 30] = true := by decide +kernel
theorem am_cc1_12 : am_cchk 1 (120, 0, 3, mX1_push) [961, 101, 964, 963, 31] = true := by decide +kernel
theorem am_cc1_13 : am_cchk 1 (124, 0, 0, mX1_move) [970, 101, 973, 972, 33] = true := by decide +kernel
theorem am_cc1_14 : am_cchk 1 (127, 0, 0, mX1_noteEnd) [977, 101, 980, 979, 34] = true := by decide +kernel
theorem am_cc1_15 : am_cchk 1 (135, 1, 2, mX7_keptWithin) [10960, 94, 942, 941, 0] = true := by decide +kernel
theorem am_cc1_16 : am_cchk 1 (139, 0, 0, mX1_pullNow) [965, 101, 968, 967, 32] = true := by decide +kernel
theorem am_cc1_17 : am_cchk 1 (152, 0, 2, mX4_get) [969, 96, 479, 477, 478] = true := by decide +kernel
theorem am_cc1_18 : am_cchk 1 (155, 10, 0, mX0_init) [974, 0, 0, 0, 0] = true := by decide +kernel
set_option maxRecDepth 100000 in
theorem am_cchk_1 : ∀ q ∈ am_callT 1, ∃ r, am_cchk 1 q r = true := List.forall_mem_cons.mpr ⟨⟨_, am_cc1_0⟩, List.forall_mem_cons.mpr ⟨⟨_, am_cc1_1⟩, List.forall_mem_cons.mpr ⟨⟨_, am_cc1_2⟩, List.forall_mem_cons.mpr ⟨⟨_, am_cc1_3⟩, List.forall_mem_cons.mpr ⟨⟨_, am_cc1_4⟩, List.forall_mem_cons.mpr ⟨⟨_, am_cc1_5⟩, List.forall_mem_cons.mpr ⟨⟨_, am_cc1_6⟩, List.forall_mem_cons.mpr ⟨⟨_, am_cc1_7⟩, List.forall_mem_cons.mpr ⟨⟨_, am_cc1_8⟩, List.forall_mem_cons.mpr ⟨⟨_, am_cc1_9⟩, List.forall_mem_cons.mpr ⟨⟨_, am_cc1_10⟩, List.forall_mem_cons.mpr ⟨⟨_, am_cc1_11⟩, List.forall_mem_cons.mpr ⟨⟨_, am_cc1_12⟩, List.forall_mem_cons.mpr ⟨⟨_, am_cc1_13⟩, List.forall_mem_cons.mpr ⟨⟨_, am_cc1_14⟩, List.forall_mem_cons.mpr ⟨⟨_, am_cc1_15⟩, List.forall_mem_cons.mpr ⟨⟨_, am_cc1_16⟩, List.forall_mem_cons.mpr ⟨⟨_, am_cc1_17⟩, List.forall_mem_cons.mpr ⟨⟨_, am_cc1_18⟩, fun _ h => absurd h List.not_mem_nil⟩⟩⟩⟩⟩⟩⟩⟩⟩⟩⟩⟩⟩⟩⟩⟩⟩⟩⟩
theorem am_cc2_0 : am_cchk 2 (3, 3, 0, mX0_init) [253, 0, 0, 0, 0] = true := by decide +kernel
theorem am_cc2_1 : am_cchk 2 (15, 0, 2, mX2_spread) [472, 100, 475, 474, 2] = true := by decide +kernel
theorem am_cc2_2 : am_cchk 2 (25, 0, 2, mX4_get) [476, 96, 479, 477, 478] = true := by decide +kernel
theorem am_cc2_3 : am_cchk 2 (29, 0, 2, mX2_foldOnce) [480, 100, 483, 481, 482] = true := by decide +kernel
theorem am_cc2_4 : am_cchk 2 (33, 0, 0, mX2_weigh) [504, 100, 507, 505, 506] = true := by decide +kernel
theorem am_cc2_5 : am_cchk 2 (45, 0, 1, mX2_foldNose) [484, 100, 487, 486, 3] = true := by decide +kernel
theorem am_cc2_6 : am_cchk 2 (49, 0, 1, mX2_foldSide) [496, 100, 499, 498, 6] = true := by decide +kernel
theorem am_cc2_7 : am_cchk 2 (52, 0, 1, mX2_foldCorner) [500, 100, 503, 502, 7] = true := by decide +kernel
theorem am_cc2_8 : am_cchk 2 (55, 0, 2, mX2_placeOf) [488, 100, 491, 490, 4] = true := by decide +kernel
theorem am_cc2_9 : am_cchk 2 (58, 0, 2, mX2_lay) [492, 100, 495, 494, 5] = true := by decide +kernel
theorem am_cc2_10 : am_cchk 2 (73, 0, 2, mX2_layersAt) [508, 100, 511, 509, 510] = true := by decide +kernel
theorem am_cc2_11 : am_cchk 2 (79, 6, 0, mX0_init) [550, 0, 0, 0, 0] = true := by decide +kernel
set_option maxRecDepth 100000 in
theorem am_cchk_2 : ∀ q ∈ am_callT 2, ∃ r, am_cchk 2 q r = true := List.forall_mem_cons.mpr ⟨⟨_, am_cc2_0⟩, List.forall_mem_cons.mpr ⟨⟨_, am_cc2_1⟩, List.forall_mem_cons.mpr ⟨⟨_, am_cc2_2⟩, List.forall_mem_cons.mpr ⟨⟨_, am_cc2_3⟩, List.forall_mem_cons.mpr ⟨⟨_, am_cc2_4⟩, List.forall_mem_cons.mpr ⟨⟨_, am_cc2_5⟩, List.forall_mem_cons.mpr ⟨⟨_, am_cc2_6⟩, List.forall_mem_cons.mpr ⟨⟨_, am_cc2_7⟩, List.forall_mem_cons.mpr ⟨⟨_, am_cc2_8⟩, List.forall_mem_cons.mpr ⟨⟨_, am_cc2_9⟩, List.forall_mem_cons.mpr ⟨⟨_, am_cc2_10⟩, List.forall_mem_cons.mpr ⟨⟨_, am_cc2_11⟩, fun _ h => absurd h List.not_mem_nil⟩⟩⟩⟩⟩⟩⟩⟩⟩⟩⟩⟩
theorem am_cc3_0 : am_cchk 3 (3, 3, 0, mX0_init) [214, 0, 0, 0, 0] = true := by decide +kernel
theorem am_cc3_1 : am_cchk 3 (22, 0, 1, mX3_begin) [652, 99, 655, 654, 14] = true := by decide +kernel
theorem am_cc3_2 : am_cchk 3 (37, 0, 1, mX3_readFold) [678, 99, 681, 680, 18] = true := by decide +kernel
theorem am_cc3_3 : am_cchk 3 (41, 0, 0, mX3_kindOfWord) [682, 99, 685, 684, 19] = true := by decide +kernel
theorem am_cc3_4 : am_cchk 3 (45, 0, 0, mX3_refuse) [744, 99, 747, 746, 21] = true := by decide +kernel
theorem am_cc3_5 : am_cchk 3 (48, 0, 1, mX3_fail) [748, 99, 751, 750, 22] = true := by decide +kernel
theorem am_cc3_6 : am_cchk 3 (51, 0, 0, mX3_advance) [657, 99, 660, 659, 15] = true := by decide +kernel
theorem am_cc3_7 : am_cchk 3 (54, 0, 2, mX3_readNumber) [752, 99, 755, 754, 23] = true := by decide +kernel
theorem am_cc3_8 : am_cchk 3 (58, 0, 0, mX3_readStop) [756, 99, 759, 758, 24] = true := by decide +kernel
theorem am_cc3_9 : am_cchk 3 (61, 0, 3, mX4_add) [760, 96, 533, 531, 532] = true := by decide +kernel
theorem am_cc3_10 : am_cchk 3 (65, 0, 1, mX3_readLine) [783, 99, 786, 785, 25] = true := by decide +kernel
theorem am_cc3_11 : am_cchk 3 (69, 0, 0, mX3_lineOfWord) [787, 99, 790, 789, 26] = true := by decide +kernel
theorem am_cc3_12 : am_cchk 3 (84, 11, 0, mX0_init) [656, 0, 0, 0, 0] = true := by decide +kernel
theorem am_cc3_13 : am_cchk 3 (101, 1, 1, mX3_foldWord) [686, 99, 688, 687, 0] = true := by decide +kernel
theorem am_cc3_14 : am_cchk 3 (105, 0, 1, mX3_isWord) [692, 99, 695, 694, 20] = true := by decide +kernel
theorem am_cc3_15 : am_cchk 3 (109, 1, 1, mX3_lineWord) [791, 99, 793, 792, 0] = true := by decide +kernel
theorem am_cc3_16 : am_cchk 3 (132, 4, 0, mX0_init) [696, 0, 0, 0, 0] = true := by decide +kernel
theorem am_cc3_17 : am_cchk 3 (136, 0, 1, mX3_byteAt) [661, 99, 664, 663, 16] = true := by decide +kernel
theorem am_cc3_18 : am_cchk 3 (140, 5, 0, mX0_init) [706, 0, 0, 0, 0] = true := by decide +kernel
theorem am_cc3_19 : am_cchk 3 (144, 1, 1, mX3_isBlank) [665, 99, 667, 666, 0] = true := by decide +kernel
theorem am_cc3_20 : am_cchk 3 (148, 1, 1, mX3_isLetter) [668, 99, 670, 669, 0] = true := by decide +kernel
theorem am_cc3_21 : am_cchk 3 (151, 1, 1, mX3_isDigit) [671, 99, 673, 672, 0] = true := by decide +kernel
theorem am_cc3_22 : am_cchk 3 (154, 0, 1, mX3_advanceDigits) [674, 99, 677, 676, 17] = true := by decide +kernel
set_option maxRecDepth 100000 in
theorem am_cchk_3 : ∀ q ∈ am_callT 3, ∃ r, am_cchk 3 q r = true := List.forall_mem_cons.mpr ⟨⟨_, am_cc3_0⟩, List.forall_mem_cons.mpr ⟨⟨_, am_cc3_1⟩, List.forall_mem_cons.mpr ⟨⟨_, am_cc3_2⟩, List.forall_mem_cons.mpr ⟨⟨_, am_cc3_3⟩, List.forall_mem_cons.mpr ⟨⟨_, am_cc3_4⟩, List.forall_mem_cons.mpr ⟨⟨_, am_cc3_5⟩, List.forall_mem_cons.mpr ⟨⟨_, am_cc3_6⟩, List.forall_mem_cons.mpr ⟨⟨_, am_cc3_7⟩, List.forall_mem_cons.mpr ⟨⟨_, am_cc3_8⟩, List.forall_mem_cons.mpr ⟨⟨_, am_cc3_9⟩, List.forall_mem_cons.mpr ⟨⟨_, am_cc3_10⟩, List.forall_mem_cons.mpr ⟨⟨_, am_cc3_11⟩, List.forall_mem_cons.mpr ⟨⟨_, am_cc3_12⟩, List.forall_mem_cons.mpr ⟨⟨_, am_cc3_13⟩, List.forall_mem_cons.mpr ⟨⟨_, am_cc3_14⟩, List.forall_mem_cons.mpr ⟨⟨_, am_cc3_15⟩, List.forall_mem_cons.mpr ⟨⟨_, am_cc3_16⟩, List.forall_mem_cons.mpr ⟨⟨_, am_cc3_17⟩, List.forall_mem_cons.mpr ⟨⟨_, am_cc3_18⟩, List.forall_mem_cons.mpr ⟨⟨_, am_cc3_19⟩, List.forall_mem_cons.mpr ⟨⟨_, am_cc3_20⟩, List.forall_mem_cons.mpr ⟨⟨_, am_cc3_21⟩, List.forall_mem_cons.mpr ⟨⟨_, am_cc3_22⟩, fun _ h => absurd h List.not_mem_nil⟩⟩⟩⟩⟩⟩⟩⟩⟩⟩⟩⟩⟩⟩⟩⟩⟩⟩⟩⟩⟩⟩⟩
theorem am_cc4_0 : am_cchk 4 (3, 3, 0, mX0_init) [136, 0, 0, 0, 0] = true := by decide +kernel
theorem am_cc4_1 : am_cchk 4 (15, 11, 0, mX0_init) [137, 0, 0, 0, 0] = true := by decide +kernel
theorem am_cc4_2 : am_cchk 4 (28, 0, 3, mX4_put) [534, 96, 537, 536, 10] = true := by decide +kernel
theorem am_cc4_3 : am_cchk 4 (32, 6, 0, mX0_init) [769, 0, 0, 0, 0] = true := by decide +kernel
set_option maxRecDepth 100000 in
theorem am_cchk_4 : ∀ q ∈ am_callT 4, ∃ r, am_cchk 4 q r = true := List.forall_mem_cons.mpr ⟨⟨_, am_cc4_0⟩, List.forall_mem_cons.mpr ⟨⟨_, am_cc4_1⟩, List.forall_mem_cons.mpr ⟨⟨_, am_cc4_2⟩, List.forall_mem_cons.mpr ⟨⟨_, am_cc4_3⟩, fun _ h => absurd h List.not_mem_nil⟩⟩⟩⟩
theorem am_cc5_0 : am_cchk 5 (3, 3, 0, mX0_init) [129, 0, 0, 0, 0] = true := by decide +kernel
theorem am_cc5_1 : am_cchk 5 (31, 2, 1, mX4_init) [133, 96, 135, 134, 0] = true := by decide +kernel
theorem am_cc5_2 : am_cchk 5 (47, 6, 0, mX0_init) [158, 0, 0, 0, 0] = true := by decide +kernel
theorem am_cc5_3 : am_cchk 5 (59, 0, 1, mX4_copyFrom) [765, 96, 768, 766, 767] = true := by decide +kernel
set_option maxRecDepth 100000 in
theorem am_cchk_5 : ∀ q ∈ am_callT 5, ∃ r, am_cchk 5 q r = true := List.forall_mem_cons.mpr ⟨⟨_, am_cc5_0⟩, List.forall_mem_cons.mpr ⟨⟨_, am_cc5_1⟩, List.forall_mem_cons.mpr ⟨⟨_, am_cc5_2⟩, List.forall_mem_cons.mpr ⟨⟨_, am_cc5_3⟩, fun _ h => absurd h List.not_mem_nil⟩⟩⟩⟩
theorem am_cc6_0 : am_cchk 6 (3, 3, 0, mX0_init) [384, 0, 0, 0, 0] = true := by decide +kernel
theorem am_cc6_1 : am_cchk 6 (22, 0, 1, mX6_cut) [1258, 103, 1261, 1260, 46] = true := by decide +kernel
set_option maxRecDepth 100000 in
theorem am_cchk_6 : ∀ q ∈ am_callT 6, ∃ r, am_cchk 6 q r = true := List.forall_mem_cons.mpr ⟨⟨_, am_cc6_0⟩, List.forall_mem_cons.mpr ⟨⟨_, am_cc6_1⟩, fun _ h => absurd h List.not_mem_nil⟩⟩
theorem am_cc7_0 : am_cchk 7 (3, 3, 0, mX0_init) [121, 0, 0, 0, 0] = true := by decide +kernel
theorem am_cc7_1 : am_cchk 7 (11, 2, 0, mX5_init) [126, 95, 128, 127, 0] = true := by decide +kernel
theorem am_cc7_2 : am_cchk 7 (22, 2, 0, mX3_init) [10211, 99, 213, 212, 0] = true := by decide +kernel
theorem am_cc7_3 : am_cchk 7 (35, 2, 0, mX2_init) [10250, 100, 252, 251, 0] = true := by decide +kernel
theorem am_cc7_4 : am_cchk 7 (45, 2, 2, mX1_init) [293, 101, 295, 294, 0] = true := by decide +kernel
theorem am_cc7_5 : am_cchk 7 (54, 2, 1, mX4_init) [356, 96, 135, 134, 0] = true := by decide +kernel
theorem am_cc7_6 : am_cchk 7 (67, 2, 0, mX0_init) [10359, 102, 361, 360, 0] = true := by decide +kernel
theorem am_cc7_7 : am_cchk 7 (75, 2, 0, mX6_init) [10381, 103, 383, 382, 0] = true := by decide +kernel
theorem am_cc7_8 : am_cchk 7 (76, 1, 3, mX7_needWithin) [569, 94, 571, 570, 0] = true := by decide +kernel
theorem am_cc7_9 : am_cchk 7 (90, 0, 1, mX3_append) [436, 99, 439, 437, 438] = true := by decide +kernel
theorem am_cc7_10 : am_cchk 7 (96, 0, 2, mX3_readWay) [648, 99, 651, 649, 650] = true := by decide +kernel
theorem am_cc7_11 : am_cchk 7 (103, 0, 1, mX5_addWay) [761, 95, 764, 762, 763] = true := by decide +kernel
theorem am_cc7_12 : am_cchk 7 (110, 6, 0, mX0_init) [778, 0, 0, 0, 0] = true := by decide +kernel
theorem am_cc7_13 : am_cchk 7 (116, 0, 2, mX3_readLaw) [779, 99, 782, 780, 781] = true := by decide +kernel
theorem am_cc7_14 : am_cchk 7 (126, 0, 1, mX7_needWay) [817, 94, 820, 819, 27] = true := by decide +kernel
theorem am_cc7_15 : am_cchk 7 (133, 1, 2, mX7_codeOf) [553, 94, 555, 554, 0] = true := by decide +kernel
theorem am_cc7_16 : am_cchk 7 (137, 0, 1, mX7_breakOf) [464, 94, 467, 466, 1] = true := by decide +kernel
theorem am_cc7_17 : am_cchk 7 (140, 0, 1, mX7_needMake) [856, 94, 859, 858, 28] = true := by decide +kernel
theorem am_cc7_18 : am_cchk 7 (161, 0, 2, mX2_layersAt) [883, 100, 511, 509, 510] = true := by decide +kernel
theorem am_cc7_19 : am_cchk 7 (165, 1, 3, mX7_needThrow) [891, 94, 893, 892, 0] = true := by decide +kernel
theorem am_cc7_20 : am_cchk 7 (168, 0, 3, mX1_flyOut) [897, 101, 900, 898, 899] = true := by decide +kernel
theorem am_cc7_21 : am_cchk 7 (183, 0, 0, mX1_loops) [981, 101, 984, 982, 983] = true := by decide +kernel
theorem am_cc7_22 : am_cchk 7 (187, 0, 0, mX1_evenFrom) [985, 101, 988, 986, 987] = true := by decide +kernel
theorem am_cc7_23 : am_cchk 7 (190, 0, 3, mX1_begin) [996, 101, 904, 902, 903] = true := by decide +kernel
theorem am_cc7_24 : am_cchk 7 (193, 0, 0, mX1_goesOn) [997, 101, 921, 919, 920] = true := by decide +kernel
theorem am_cc7_25 : am_cchk 7 (197, 0, 0, mX1_tick) [998, 101, 925, 923, 924] = true := by decide +kernel
theorem am_cc7_26 : am_cchk 7 (218, 0, 3, mX4_add) [530, 96, 533, 531, 532] = true := by decide +kernel
theorem am_cc7_27 : am_cchk 7 (229, 1, 1, mX7_needEars) [894, 94, 896, 895, 0] = true := by decide +kernel
theorem am_cc7_28 : am_cchk 7 (232, 0, 1, mX1_score) [1028, 101, 1031, 1029, 1030] = true := by decide +kernel
theorem am_cc7_29 : am_cchk 7 (236, 0, 2, mX7_isRest) [1039, 94, 1042, 1041, 35] = true := by decide +kernel
theorem am_cc7_30 : am_cchk 7 (240, 0, 2, mX7_torque) [1043, 94, 1046, 1045, 36] = true := by decide +kernel
theorem am_cc7_31 : am_cchk 7 (243, 0, 0, mX5_addHand) [452, 95, 455, 453, 454] = true := by decide +kernel
theorem am_cc7_32 : am_cchk 7 (246, 0, 1, mX7_needHand) [1063, 94, 1066, 1065, 37] = true := by decide +kernel
theorem am_cc7_33 : am_cchk 7 (249, 1, 3, mX7_isThrow) [1072, 94, 1074, 1073, 0] = true := by decide +kernel
theorem am_cc7_34 : am_cchk 7 (260, 0, 3, mX7_reachOf) [1088, 94, 1091, 1090, 38] = true := by decide +kernel
theorem am_cc7_35 : am_cchk 7 (264, 0, 2, mX7_bestEarsOf) [1099, 94, 1102, 1101, 39] = true := by decide +kernel
theorem am_cc7_36 : am_cchk 7 (268, 0, 1, mX5_wayAt) [821, 95, 824, 822, 823] = true := by decide +kernel
theorem am_cc7_37 : am_cchk 7 (271, 0, 4, mX7_findBestChange) [1117, 94, 1120, 1119, 40] = true := by decide +kernel
theorem am_cc7_38 : am_cchk 7 (290, 0, 3, mX4_putFold) [1122, 96, 1125, 1123, 1124] = true := by decide +kernel
theorem am_cc7_39 : am_cchk 7 (293, 1, 3, mX7_needHoop) [1147, 94, 1149, 1148, 0] = true := by decide +kernel
theorem am_cc7_40 : am_cchk 7 (296, 0, 3, mX1_goesThrough) [1150, 101, 1153, 1151, 1152] = true := by decide +kernel
theorem am_cc7_41 : am_cchk 7 (300, 0, 2, mX4_get) [556, 96, 479, 477, 478] = true := by decide +kernel
theorem am_cc7_42 : am_cchk 7 (303, 1, 2, mX7_power) [1161, 94, 1163, 1162, 0] = true := by decide +kernel
theorem am_cc7_43 : am_cchk 7 (315, 0, 0, mX7_allEntriesThrow) [1179, 94, 1182, 1181, 41] = true := by decide +kernel
theorem am_cc7_44 : am_cchk 7 (318, 0, 1, mX5_handAt) [1067, 95, 1070, 1068, 1069] = true := by decide +kernel
theorem am_cc7_45 : am_cchk 7 (321, 0, 2, mX7_farOf) [1183, 94, 1186, 1185, 42] = true := by decide +kernel
theorem am_cc7_46 : am_cchk 7 (324, 0, 2, mX7_rowsBelow) [1187, 94, 1190, 1189, 43] = true := by decide +kernel
theorem am_cc7_47 : am_cchk 7 (328, 12, 0, mX0_init) [929, 0, 0, 0, 0] = true := by decide +kernel
theorem am_cc7_48 : am_cchk 7 (334, 10, 0, mX0_init) [1202, 0, 0, 0, 0] = true := by decide +kernel
theorem am_cc7_49 : am_cchk 7 (337, 0, 2, mX7_findNoFold) [460, 94, 463, 462, 0] = true := by decide +kernel
theorem am_cc7_50 : am_cchk 7 (340, 0, 2, mX7_findOneFold) [516, 94, 519, 518, 8] = true := by decide +kernel
theorem am_cc7_51 : am_cchk 7 (343, 0, 2, mX7_findTwoFolds) [538, 94, 541, 540, 11] = true := by decide +kernel
theorem am_cc7_52 : am_cchk 7 (346, 0, 1, mX7_needTray) [1217, 94, 1220, 1219, 45] = true := by decide +kernel
theorem am_cc7_53 : am_cchk 7 (350, 0, 2, mX6_lay) [1222, 103, 1225, 1223, 1224] = true := by decide +kernel
theorem am_cc7_54 : am_cchk 7 (354, 1, 1, mX7_needThere) [1234, 94, 1236, 1235, 0] = true := by decide +kernel
theorem am_cc7_55 : am_cchk 7 (364, 0, 2, mX6_put) [1254, 103, 1257, 1255, 1256] = true := by decide +kernel
theorem am_cc7_56 : am_cchk 7 (370, 0, 1, mX6_get) [1270, 103, 1273, 1271, 1272] = true := by decide +kernel
theorem am_cc7_57 : am_cchk 7 (375, 1, 1, mX7_needImageNumber) [1282, 94, 1284, 1283, 0] = true := by decide +kernel
theorem am_cc7_58 : am_cchk 7 (378, 0, 1, mX5_copyFrom) [1286, 95, 1289, 1287, 1288] = true := by decide +kernel
theorem am_cc7_59 : am_cchk 7 (407, 0, 3, mX2_foldAll) [468, 100, 471, 469, 470] = true := by decide +kernel
theorem am_cc7_60 : am_cchk 7 (411, 0, 2, mX2_isLike) [512, 100, 515, 513, 514] = true := by decide +kernel
theorem am_cc7_61 : am_cchk 7 (414, 0, 1, mX7_tryFirst) [520, 94, 523, 522, 9] = true := by decide +kernel
theorem am_cc7_62 : am_cchk 7 (417, 0, 2, mX7_findSecond) [542, 94, 545, 544, 12] = true := by decide +kernel
theorem am_cc7_63 : am_cchk 7 (420, 1, 1, mX7_triedKind) [524, 94, 526, 525, 0] = true := by decide +kernel
theorem am_cc7_64 : am_cchk 7 (423, 1, 1, mX7_triedN) [527, 94, 529, 528, 0] = true := by decide +kernel
theorem am_cc7_65 : am_cchk 7 (426, 0, 1, mX2_copyFrom) [546, 100, 549, 547, 548] = true := by decide +kernel
theorem am_cc7_66 : am_cchk 7 (429, 0, 2, mX2_foldOnce) [551, 100, 483, 481, 482] = true := by decide +kernel
theorem am_cc7_67 : am_cchk 7 (432, 0, 0, mX2_weigh) [552, 100, 507, 505, 506] = true := by decide +kernel
theorem am_cc7_68 : am_cchk 7 (435, 11, 0, mX0_init) [1047, 0, 0, 0, 0] = true := by decide +kernel
theorem am_cc7_69 : am_cchk 7 (438, 0, 1, mX2_dampWeight) [1048, 100, 908, 906, 907] = true := by decide +kernel
theorem am_cc7_70 : am_cchk 7 (451, 0, 1, mX4_copyFrom) [1121, 96, 768, 766, 767] = true := by decide +kernel
theorem am_cc7_71 : am_cchk 7 (453, 0, 3, mX0_offer) [1126, 102, 1129, 1127, 1128] = true := by decide +kernel
theorem am_cc7_72 : am_cchk 7 (457, 0, 2, mX7_chancesBelow) [1191, 94, 1194, 1193, 44] = true := by decide +kernel
theorem am_cc7_73 : am_cchk 7 (463, 1, 1, mX7_sine) [912, 94, 914, 913, 0] = true := by decide +kernel
theorem am_cc7_74 : am_cchk 7 (469, 1, 2, mX7_steepness) [932, 94, 934, 933, 0] = true := by decide +kernel
theorem am_cc7_75 : am_cchk 7 (472, 1, 2, mX7_keptWithin) [940, 94, 942, 941, 0] = true := by decide +kernel
theorem am_cc7_76 : am_cchk 7 (476, 14, 0, mX0_init) [943, 0, 0, 0, 0] = true := by decide +kernel
theorem am_cc7_77 : am_cchk 7 (479, 13, 0, mX0_init) [946, 0, 0, 0, 0] = true := by decide +kernel
set_option maxRecDepth 100000 in
theorem am_cchk_7 : ∀ q ∈ am_callT 7, ∃ r, am_cchk 7 q r = true := List.forall_mem_cons.mpr ⟨⟨_, am_cc7_0⟩, List.forall_mem_cons.mpr ⟨⟨_, am_cc7_1⟩, List.forall_mem_cons.mpr ⟨⟨_, am_cc7_2⟩, List.forall_mem_cons.mpr ⟨⟨_, am_cc7_3⟩, List.forall_mem_cons.mpr ⟨⟨_, am_cc7_4⟩, List.forall_mem_cons.mpr ⟨⟨_, am_cc7_5⟩, List.forall_mem_cons.mpr ⟨⟨_, am_cc7_6⟩, List.forall_mem_cons.mpr ⟨⟨_, am_cc7_7⟩, List.forall_mem_cons.mpr ⟨⟨_, am_cc7_8⟩, List.forall_mem_cons.mpr ⟨⟨_, am_cc7_9⟩, List.forall_mem_cons.mpr ⟨⟨_, am_cc7_10⟩, List.forall_mem_cons.mpr ⟨⟨_, am_cc7_11⟩, List.forall_mem_cons.mpr ⟨⟨_, am_cc7_12⟩, List.forall_mem_cons.mpr ⟨⟨_, am_cc7_13⟩, List.forall_mem_cons.mpr ⟨⟨_, am_cc7_14⟩, List.forall_mem_cons.mpr ⟨⟨_, am_cc7_15⟩, List.forall_mem_cons.mpr ⟨⟨_, am_cc7_16⟩, List.forall_mem_cons.mpr ⟨⟨_, am_cc7_17⟩, List.forall_mem_cons.mpr ⟨⟨_, am_cc7_18⟩, List.forall_mem_cons.mpr ⟨⟨_, am_cc7_19⟩, List.forall_mem_cons.mpr ⟨⟨_, am_cc7_20⟩, List.forall_mem_cons.mpr ⟨⟨_, am_cc7_21⟩, List.forall_mem_cons.mpr ⟨⟨_, am_cc7_22⟩, List.forall_mem_cons.mpr ⟨⟨_, am_cc7_23⟩, List.forall_mem_cons.mpr ⟨⟨_, am_cc7_24⟩, List.forall_mem_cons.mpr ⟨⟨_, am_cc7_25⟩, List.forall_mem_cons.mpr ⟨⟨_, am_cc7_26⟩, List.forall_mem_cons.mpr ⟨⟨_, am_cc7_27⟩, List.forall_mem_cons.mpr ⟨⟨_, am_cc7_28⟩, List.forall_mem_cons.mpr ⟨⟨_, am_cc7_29⟩, List.forall_mem_cons.mpr ⟨⟨_, am_cc7_30⟩, List.forall_mem_cons.mpr ⟨⟨_, am_cc7_31⟩, List.forall_mem_cons.mpr ⟨⟨_, am_cc7_32⟩, List.forall_mem_cons.mpr ⟨⟨_, am_cc7_33⟩, List.forall_mem_cons.mpr ⟨⟨_, am_cc7_34⟩, List.forall_mem_cons.mpr ⟨⟨_, am_cc7_35⟩, List.forall_mem_cons.mpr ⟨⟨_, am_cc7_36⟩, List.forall_mem_cons.mpr ⟨⟨_, am_cc7_37⟩, List.forall_mem_cons.mpr ⟨⟨_, am_cc7_38⟩, List.forall_mem_cons.mpr ⟨⟨_, am_cc7_39⟩, List.forall_mem_cons.mpr ⟨⟨_, am_cc7_40⟩, List.forall_mem_cons.mpr ⟨⟨_, am_cc7_41⟩, List.forall_mem_cons.mpr ⟨⟨_, am_cc7_42⟩, List.forall_mem_cons.mpr ⟨⟨_, am_cc7_43⟩, List.forall_mem_cons.mpr ⟨⟨_, am_cc7_44⟩, List.forall_mem_cons.mpr ⟨⟨_, am_cc7_45⟩, List.forall_mem_cons.mpr ⟨⟨_, am_cc7_46⟩, List.forall_mem_cons.mpr ⟨⟨_, am_cc7_47⟩, List.forall_mem_cons.mpr ⟨⟨_, am_cc7_48⟩, List.forall_mem_cons.mpr ⟨⟨_, am_cc7_49⟩, List.forall_mem_cons.mpr ⟨⟨_, am_cc7_50⟩, List.forall_mem_cons.mpr ⟨⟨_, am_cc7_51⟩, List.forall_mem_cons.mpr ⟨⟨_, am_cc7_52⟩, List.forall_mem_cons.mpr ⟨⟨_, am_cc7_53⟩, List.forall_mem_cons.mpr ⟨⟨_, am_cc7_54⟩, List.forall_mem_cons.mpr ⟨⟨_, am_cc7_55⟩, List.forall_mem_cons.mpr ⟨⟨_, am_cc7_56⟩, List.forall_mem_cons.mpr ⟨⟨_, am_cc7_57⟩, List.forall_mem_cons.mpr ⟨⟨_, am_cc7_58⟩, List.forall_mem_cons.mpr ⟨⟨_, am_cc7_59⟩, List.forall_mem_cons.mpr ⟨⟨_, am_cc7_60⟩, List.forall_mem_cons.mpr ⟨⟨_, am_cc7_61⟩, List.forall_mem_cons.mpr ⟨⟨_, am_cc7_62⟩, List.forall_mem_cons.mpr ⟨⟨_, am_cc7_63⟩, List.forall_mem_cons.mpr ⟨⟨_, am_cc7_64⟩, List.forall_mem_cons.mpr ⟨⟨_, am_cc7_65⟩, List.forall_mem_cons.mpr ⟨⟨_, am_cc7_66⟩, List.forall_mem_cons.mpr ⟨⟨_, am_cc7_67⟩, List.forall_mem_cons.mpr ⟨⟨_, am_cc7_68⟩, List.forall_mem_cons.mpr ⟨⟨_, am_cc7_69⟩, List.forall_mem_cons.mpr ⟨⟨_, am_cc7_70⟩, List.forall_mem_cons.mpr ⟨⟨_, am_cc7_71⟩, List.forall_mem_cons.mpr ⟨⟨_, am_cc7_72⟩, List.forall_mem_cons.mpr ⟨⟨_, am_cc7_73⟩, List.forall_mem_cons.mpr ⟨⟨_, am_cc7_74⟩, List.forall_mem_cons.mpr ⟨⟨_, am_cc7_75⟩, List.forall_mem_cons.mpr ⟨⟨_, am_cc7_76⟩, List.forall_mem_cons.mpr ⟨⟨_, am_cc7_77⟩, fun _ h => absurd h List.not_mem_nil⟩⟩⟩⟩⟩⟩⟩⟩⟩⟩⟩⟩⟩⟩⟩⟩⟩⟩⟩⟩⟩⟩⟩⟩⟩⟩⟩⟩⟩⟩⟩⟩⟩⟩⟩⟩⟩⟩⟩⟩⟩⟩⟩⟩⟩⟩⟩⟩⟩⟩⟩⟩⟩⟩⟩⟩⟩⟩⟩⟩⟩⟩⟩⟩⟩⟩⟩⟩⟩⟩⟩⟩⟩⟩⟩⟩⟩⟩
theorem am_cc8_0 : am_cchk 8 (3, 3, 0, mX0_init) [1303, 0, 0, 0, 0] = true := by decide +kernel
theorem am_cc8_1 : am_cchk 8 (61, 0, 0, mX8_plainLaw) [1304, 104, 1307, 1306, 47] = true := by decide +kernel
theorem am_cc8_2 : am_cchk 8 (67, 1, 3, mX8_within) [1482, 104, 1484, 1483, 0] = true := by decide +kernel
theorem am_cc8_3 : am_cchk 8 (106, 1, 1, mX8_isLetter) [1507, 104, 1509, 1508, 0] = true := by decide +kernel
theorem am_cc8_4 : am_cchk 8 (110, 0, 1, mX8_see) [1510, 104, 1513, 1512, 51] = true := by decide +kernel
theorem am_cc8_5 : am_cchk 8 (114, 1, 1, mX8_isDigit) [1514, 104, 1516, 1515, 0] = true := by decide +kernel
theorem am_cc8_6 : am_cchk 8 (126, 4, 0, mX0_init) [1522, 0, 0, 0, 0] = true := by decide +kernel
theorem am_cc8_7 : am_cchk 8 (132, 5, 0, mX0_init) [1523, 0, 0, 0, 0] = true := by decide +kernel
theorem am_cc8_8 : am_cchk 8 (136, 0, 1, mX8_blames) [1526, 104, 1529, 1528, 53] = true := by decide +kernel
theorem am_cc8_9 : am_cchk 8 (140, 0, 0, mX8_next) [1503, 104, 1506, 1505, 50] = true := by decide +kernel
theorem am_cc8_10 : am_cchk 8 (146, 0, 1, mX8_fails) [1495, 104, 1498, 1497, 48] = true := by decide +kernel
theorem am_cc8_11 : am_cchk 8 (149, 0, 1, mX8_begins) [1499, 104, 1502, 1501, 49] = true := by decide +kernel
theorem am_cc8_12 : am_cchk 8 (154, 0, 1, mX8_isWord) [1518, 104, 1521, 1520, 52] = true := by decide +kernel
theorem am_cc8_13 : am_cchk 8 (162, 0, 2, mX8_number) [1530, 104, 1533, 1532, 54] = true := by decide +kernel
theorem am_cc8_14 : am_cchk 8 (166, 0, 0, mX8_stop) [1534, 104, 1537, 1536, 55] = true := by decide +kernel
theorem am_cc8_15 : am_cchk 8 (169, 0, 1, mX8_ends) [1538, 104, 1541, 1540, 56] = true := by decide +kernel
theorem am_cc8_16 : am_cchk 8 (174, 0, 1, mX8_nine) [1547, 104, 1550, 1549, 57] = true := by decide +kernel
theorem am_cc8_17 : am_cchk 8 (181, 0, 3, mX8_one) [1553, 104, 1556, 1555, 58] = true := by decide +kernel
theorem am_cc8_18 : am_cchk 8 (193, 0, 1, mX8_isWay) [1569, 104, 1572, 1571, 59] = true := by decide +kernel
theorem am_cc8_19 : am_cchk 8 (196, 0, 1, mX8_foldsOf) [1573, 104, 1576, 1575, 60] = true := by decide +kernel
theorem am_cc8_20 : am_cchk 8 (199, 0, 2, mX8_foldAt) [1577, 104, 1580, 1579, 61] = true := by decide +kernel
theorem am_cc8_21 : am_cchk 8 (211, 11, 0, mX0_init) [1597, 0, 0, 0, 0] = true := by decide +kernel
theorem am_cc8_22 : am_cchk 8 (218, 0, 1, mX8_nose) [1599, 104, 1602, 1601, 65] = true := by decide +kernel
theorem am_cc8_23 : am_cchk 8 (220, 0, 1, mX8_side) [1603, 104, 1606, 1605, 66] = true := by decide +kernel
theorem am_cc8_24 : am_cchk 8 (222, 0, 1, mX8_corner) [1607, 104, 1610, 1609, 67] = true := by decide +kernel
theorem am_cc8_25 : am_cchk 8 (224, 0, 0, mX8_count) [1611, 104, 1614, 1613, 68] = true := by decide +kernel
theorem am_cc8_26 : am_cchk 8 (242, 0, 0, mX8_flat) [1589, 104, 1592, 1591, 63] = true := by decide +kernel
theorem am_cc8_27 : am_cchk 8 (245, 0, 2, mX8_folds) [1593, 104, 1596, 1595, 64] = true := by decide +kernel
theorem am_cc8_28 : am_cchk 8 (249, 0, 0, mX8_measure) [1615, 104, 1618, 1617, 69] = true := by decide +kernel
theorem am_cc8_29 : am_cchk 8 (252, 0, 1, mX8_makes) [1585, 104, 1588, 1587, 62] = true := by decide +kernel
theorem am_cc8_30 : am_cchk 8 (255, 0, 1, mX8_wayFault) [1624, 104, 1627, 1626, 70] = true := by decide +kernel
theorem am_cc8_31 : am_cchk 8 (258, 1, 1, mX8_quarter) [1666, 104, 1668, 1667, 0] = true := by decide +kernel
theorem am_cc8_32 : am_cchk 8 (261, 1, 1, mX8_sine) [1663, 104, 1665, 1664, 0] = true := by decide +kernel
theorem am_cc8_33 : am_cchk 8 (268, 1, 1, mX8_cosine) [1669, 104, 1671, 1670, 0] = true := by decide +kernel
theorem am_cc8_34 : am_cchk 8 (271, 0, 0, mX8_laySines) [1659, 104, 1662, 1661, 73] = true := by decide +kernel
theorem am_cc8_35 : am_cchk 8 (309, 14, 0, mX0_init) [1687, 0, 0, 0, 0] = true := by decide +kernel
theorem am_cc8_36 : am_cchk 8 (312, 13, 0, mX0_init) [1688, 0, 0, 0, 0] = true := by decide +kernel
theorem am_cc8_37 : am_cchk 8 (315, 0, 0, mX8_path) [1680, 104, 1683, 1682, 76] = true := by decide +kernel
theorem am_cc8_38 : am_cchk 8 (318, 1, 2, mX8_kept) [1684, 104, 1686, 1685, 0] = true := by decide +kernel
theorem am_cc8_39 : am_cchk 8 (324, 0, 0, mX8_heavy) [1690, 104, 1693, 1692, 77] = true := by decide +kernel
theorem am_cc8_40 : am_cchk 8 (328, 12, 0, mX0_init) [1694, 0, 0, 0, 0] = true := by decide +kernel
theorem am_cc8_41 : am_cchk 8 (331, 0, 0, mX8_pull) [1695, 104, 1698, 1697, 78] = true := by decide +kernel
theorem am_cc8_42 : am_cchk 8 (333, 0, 1, mX8_air) [1676, 104, 1679, 1678, 75] = true := by decide +kernel
theorem am_cc8_43 : am_cchk 8 (336, 10, 0, mX0_init) [1699, 0, 0, 0, 0] = true := by decide +kernel
theorem am_cc8_44 : am_cchk 8 (349, 0, 2, mX8_starts) [1655, 104, 1658, 1657, 72] = true := by decide +kernel
theorem am_cc8_45 : am_cchk 8 (353, 0, 1, mX8_tick) [1672, 104, 1675, 1674, 74] = true := by decide +kernel
theorem am_cc8_46 : am_cchk 8 (356, 0, 4, mX8_flies) [1651, 104, 1654, 1653, 71] = true := by decide +kernel
theorem am_cc8_47 : am_cchk 8 (360, 1, 1, mX8_isEars) [1636, 104, 1638, 1637, 0] = true := by decide +kernel
theorem am_cc8_48 : am_cchk 8 (363, 1, 1, mX8_isSpeed) [1641, 104, 1643, 1642, 0] = true := by decide +kernel
theorem am_cc8_49 : am_cchk 8 (366, 1, 1, mX8_isSlant) [1645, 104, 1647, 1646, 0] = true := by decide +kernel
theorem am_cc8_50 : am_cchk 8 (383, 0, 4, mX8_far) [1731, 104, 1734, 1733, 79] = true := by decide +kernel
theorem am_cc8_51 : am_cchk 8 (387, 0, 2, mX8_turns) [1743, 104, 1746, 1745, 81] = true := by decide +kernel
theorem am_cc8_52 : am_cchk 8 (391, 0, 2, mX8_isRest) [1739, 104, 1742, 1741, 80] = true := by decide +kernel
theorem am_cc8_53 : am_cchk 8 (394, 0, 2, mX8_throwAt) [1774, 104, 1777, 1776, 85] = true := by decide +kernel
theorem am_cc8_54 : am_cchk 8 (397, 0, 1, mX8_isHand) [1759, 104, 1762, 1761, 82] = true := by decide +kernel
theorem am_cc8_55 : am_cchk 8 (400, 1, 3, mX8_isThrow) [1763, 104, 1765, 1764, 0] = true := by decide +kernel
theorem am_cc8_56 : am_cchk 8 (403, 0, 1, mX8_throwsOf) [1766, 104, 1769, 1768, 83] = true := by decide +kernel
theorem am_cc8_57 : am_cchk 8 (406, 0, 5, mX8_puts) [1770, 104, 1773, 1772, 84] = true := by decide +kernel
theorem am_cc8_58 : am_cchk 8 (410, 0, 2, mX8_handFault) [1782, 104, 1785, 1784, 86] = true := by decide +kernel
theorem am_cc8_59 : am_cchk 8 (413, 0, 3, mX8_reachOf) [1786, 104, 1789, 1788, 87] = true := by decide +kernel
theorem am_cc8_60 : am_cchk 8 (421, 0, 2, mX8_bestEars) [1794, 104, 1797, 1796, 88] = true := by decide +kernel
theorem am_cc8_61 : am_cchk 8 (434, 0, 4, mX8_findChange) [1806, 104, 1809, 1808, 89] = true := by decide +kernel
theorem am_cc8_62 : am_cchk 8 (440, 1, 3, mX8_isHoop) [1819, 104, 1821, 1820, 0] = true := by decide +kernel
theorem am_cc8_63 : am_cchk 8 (444, 0, 6, mX8_goesThrough) [1822, 104, 1825, 1824, 90] = true := by decide +kernel
theorem am_cc8_64 : am_cchk 8 (448, 0, 2, mX8_lessFar) [1838, 104, 1841, 1840, 91] = true := by decide +kernel
theorem am_cc8_65 : am_cchk 8 (451, 0, 2, mX8_isFound) [1854, 104, 1857, 1856, 92] = true := by decide +kernel
theorem am_cc8_66 : am_cchk 8 (454, 1, 1, mX8_isTray) [1862, 104, 1864, 1863, 0] = true := by decide +kernel
set_option maxRecDepth 100000 in
theorem am_cchk_8 : ∀ q ∈ am_callT 8, ∃ r, am_cchk 8 q r = true := List.forall_mem_cons.mpr ⟨⟨_, am_cc8_0⟩, List.forall_mem_cons.mpr ⟨⟨_, am_cc8_1⟩, List.forall_mem_cons.mpr ⟨⟨_, am_cc8_2⟩, List.forall_mem_cons.mpr ⟨⟨_, am_cc8_3⟩, List.forall_mem_cons.mpr ⟨⟨_, am_cc8_4⟩, List.forall_mem_cons.mpr ⟨⟨_, am_cc8_5⟩, List.forall_mem_cons.mpr ⟨⟨_, am_cc8_6⟩, List.forall_mem_cons.mpr ⟨⟨_, am_cc8_7⟩, List.forall_mem_cons.mpr ⟨⟨_, am_cc8_8⟩, List.forall_mem_cons.mpr ⟨⟨_, am_cc8_9⟩, List.forall_mem_cons.mpr ⟨⟨_, am_cc8_10⟩, List.forall_mem_cons.mpr ⟨⟨_, am_cc8_11⟩, List.forall_mem_cons.mpr ⟨⟨_, am_cc8_12⟩, List.forall_mem_cons.mpr ⟨⟨_, am_cc8_13⟩, List.forall_mem_cons.mpr ⟨⟨_, am_cc8_14⟩, List.forall_mem_cons.mpr ⟨⟨_, am_cc8_15⟩, List.forall_mem_cons.mpr ⟨⟨_, am_cc8_16⟩, List.forall_mem_cons.mpr ⟨⟨_, am_cc8_17⟩, List.forall_mem_cons.mpr ⟨⟨_, am_cc8_18⟩, List.forall_mem_cons.mpr ⟨⟨_, am_cc8_19⟩, List.forall_mem_cons.mpr ⟨⟨_, am_cc8_20⟩, List.forall_mem_cons.mpr ⟨⟨_, am_cc8_21⟩, List.forall_mem_cons.mpr ⟨⟨_, am_cc8_22⟩, List.forall_mem_cons.mpr ⟨⟨_, am_cc8_23⟩, List.forall_mem_cons.mpr ⟨⟨_, am_cc8_24⟩, List.forall_mem_cons.mpr ⟨⟨_, am_cc8_25⟩, List.forall_mem_cons.mpr ⟨⟨_, am_cc8_26⟩, List.forall_mem_cons.mpr ⟨⟨_, am_cc8_27⟩, List.forall_mem_cons.mpr ⟨⟨_, am_cc8_28⟩, List.forall_mem_cons.mpr ⟨⟨_, am_cc8_29⟩, List.forall_mem_cons.mpr ⟨⟨_, am_cc8_30⟩, List.forall_mem_cons.mpr ⟨⟨_, am_cc8_31⟩, List.forall_mem_cons.mpr ⟨⟨_, am_cc8_32⟩, List.forall_mem_cons.mpr ⟨⟨_, am_cc8_33⟩, List.forall_mem_cons.mpr ⟨⟨_, am_cc8_34⟩, List.forall_mem_cons.mpr ⟨⟨_, am_cc8_35⟩, List.forall_mem_cons.mpr ⟨⟨_, am_cc8_36⟩, List.forall_mem_cons.mpr ⟨⟨_, am_cc8_37⟩, List.forall_mem_cons.mpr ⟨⟨_, am_cc8_38⟩, List.forall_mem_cons.mpr ⟨⟨_, am_cc8_39⟩, List.forall_mem_cons.mpr ⟨⟨_, am_cc8_40⟩, List.forall_mem_cons.mpr ⟨⟨_, am_cc8_41⟩, List.forall_mem_cons.mpr ⟨⟨_, am_cc8_42⟩, List.forall_mem_cons.mpr ⟨⟨_, am_cc8_43⟩, List.forall_mem_cons.mpr ⟨⟨_, am_cc8_44⟩, List.forall_mem_cons.mpr ⟨⟨_, am_cc8_45⟩, List.forall_mem_cons.mpr ⟨⟨_, am_cc8_46⟩, List.forall_mem_cons.mpr ⟨⟨_, am_cc8_47⟩, List.forall_mem_cons.mpr ⟨⟨_, am_cc8_48⟩, List.forall_mem_cons.mpr ⟨⟨_, am_cc8_49⟩, List.forall_mem_cons.mpr ⟨⟨_, am_cc8_50⟩, List.forall_mem_cons.mpr ⟨⟨_, am_cc8_51⟩, List.forall_mem_cons.mpr ⟨⟨_, am_cc8_52⟩, List.forall_mem_cons.mpr ⟨⟨_, am_cc8_53⟩, List.forall_mem_cons.mpr ⟨⟨_, am_cc8_54⟩, List.forall_mem_cons.mpr ⟨⟨_, am_cc8_55⟩, List.forall_mem_cons.mpr ⟨⟨_, am_cc8_56⟩, List.forall_mem_cons.mpr ⟨⟨_, am_cc8_57⟩, List.forall_mem_cons.mpr ⟨⟨_, am_cc8_58⟩, List.forall_mem_cons.mpr ⟨⟨_, am_cc8_59⟩, List.forall_mem_cons.mpr ⟨⟨_, am_cc8_60⟩, List.forall_mem_cons.mpr ⟨⟨_, am_cc8_61⟩, List.forall_mem_cons.mpr ⟨⟨_, am_cc8_62⟩, List.forall_mem_cons.mpr ⟨⟨_, am_cc8_63⟩, List.forall_mem_cons.mpr ⟨⟨_, am_cc8_64⟩, List.forall_mem_cons.mpr ⟨⟨_, am_cc8_65⟩, List.forall_mem_cons.mpr ⟨⟨_, am_cc8_66⟩, fun _ h => absurd h List.not_mem_nil⟩⟩⟩⟩⟩⟩⟩⟩⟩⟩⟩⟩⟩⟩⟩⟩⟩⟩⟩⟩⟩⟩⟩⟩⟩⟩⟩⟩⟩⟩⟩⟩⟩⟩⟩⟩⟩⟩⟩⟩⟩⟩⟩⟩⟩⟩⟩⟩⟩⟩⟩⟩⟩⟩⟩⟩⟩⟩⟩⟩⟩⟩⟩⟩⟩⟩⟩
theorem am_cc9_0 : am_cchk 9 (7, 0, 2, mX7_sheet) [565, 94, 568, 566, 567] = true := by decide +kernel
theorem am_cc9_1 : am_cchk 9 (15, 0, 1, mX7_way) [644, 94, 647, 645, 646] = true := by decide +kernel
theorem am_cc9_2 : am_cchk 9 (19, 0, 1, mX7_law) [773, 94, 776, 774, 775] = true := by decide +kernel
theorem am_cc9_3 : am_cchk 9 (22, 0, 2, mX7_fold) [813, 94, 816, 814, 815] = true := by decide +kernel
theorem am_cc9_4 : am_cchk 9 (28, 0, 1, mX7_breaks) [844, 94, 847, 845, 846] = true := by decide +kernel
theorem am_cc9_5 : am_cchk 9 (31, 0, 2, mX7_make) [852, 94, 855, 853, 854] = true := by decide +kernel
theorem am_cc9_6 : am_cchk 9 (36, 0, 3, mX7_layers) [879, 94, 882, 880, 881] = true := by decide +kernel
theorem am_cc9_7 : am_cchk 9 (40, 0, 5, mX7_fly) [887, 94, 890, 888, 889] = true := by decide +kernel
theorem am_cc9_8 : am_cchk 9 (44, 0, 6, mX7_at) [992, 94, 995, 993, 994] = true := by decide +kernel
theorem am_cc9_9 : am_cchk 9 (48, 0, 3, mX7_draught) [1002, 94, 1005, 1003, 1004] = true := by decide +kernel
theorem am_cc9_10 : am_cchk 9 (51, 0, 2, mX7_crate) [1009, 94, 1012, 1010, 1011] = true := by decide +kernel
theorem am_cc9_11 : am_cchk 9 (54, 0, 1, mX7_damp) [1017, 94, 1020, 1018, 1019] = true := by decide +kernel
theorem am_cc9_12 : am_cchk 9 (57, 0, 4, mX7_slant) [1024, 94, 1027, 1025, 1026] = true := by decide +kernel
theorem am_cc9_13 : am_cchk 9 (61, 0, 3, mX7_rest) [1035, 94, 1038, 1036, 1037] = true := by decide +kernel
theorem am_cc9_14 : am_cchk 9 (64, 0, 2, mX7_why) [1052, 94, 1055, 1053, 1054] = true := by decide +kernel
theorem am_cc9_15 : am_cchk 9 (67, 0, 4, mX7_toss) [1059, 94, 1062, 1060, 1061] = true := by decide +kernel
theorem am_cc9_16 : am_cchk 9 (71, 0, 4, mX7_reach) [1084, 94, 1087, 1085, 1086] = true := by decide +kernel
theorem am_cc9_17 : am_cchk 9 (75, 0, 3, mX7_ears) [1095, 94, 1098, 1096, 1097] = true := by decide +kernel
theorem am_cc9_18 : am_cchk 9 (79, 0, 2, mX7_best) [1106, 94, 1109, 1107, 1108] = true := by decide +kernel
theorem am_cc9_19 : am_cchk 9 (83, 0, 5, mX7_change) [1113, 94, 1116, 1114, 1115] = true := by decide +kernel
theorem am_cc9_20 : am_cchk 9 (87, 0, 4, mX7_mend) [1136, 94, 1139, 1137, 1138] = true := by decide +kernel
theorem am_cc9_21 : am_cchk 9 (90, 0, 7, mX7_hoop) [1143, 94, 1146, 1144, 1145] = true := by decide +kernel
theorem am_cc9_22 : am_cchk 9 (94, 0, 7, mX7_odds) [1157, 94, 1160, 1158, 1159] = true := by decide +kernel
theorem am_cc9_23 : am_cchk 9 (98, 0, 3, mX7_enter) [1167, 94, 1170, 1168, 1169] = true := by decide +kernel
theorem am_cc9_24 : am_cchk 9 (101, 0, 1, mX7_wins) [1174, 94, 1177, 1175, 1176] = true := by decide +kernel
theorem am_cc9_25 : am_cchk 9 (105, 0, 5, mX7_hours) [1198, 94, 1201, 1199, 1200] = true := by decide +kernel
theorem am_cc9_26 : am_cchk 9 (109, 0, 5, mX7_seen) [1206, 94, 1209, 1207, 1208] = true := by decide +kernel
theorem am_cc9_27 : am_cchk 9 (112, 0, 3, mX7_tray) [1213, 94, 1216, 1214, 1215] = true := by decide +kernel
theorem am_cc9_28 : am_cchk 9 (116, 0, 3, mX7_write) [1230, 94, 1233, 1231, 1232] = true := by decide +kernel
theorem am_cc9_29 : am_cchk 9 (122, 0, 2, mX7_take) [1265, 94, 1268, 1266, 1267] = true := by decide +kernel
theorem am_cc9_30 : am_cchk 9 (125, 0, 1, mX7_image) [1278, 94, 1281, 1279, 1280] = true := by decide +kernel
theorem am_cc9_31 : am_cchk 9 (129, 0, 1, mX7_restore) [1293, 94, 1296, 1294, 1295] = true := by decide +kernel
theorem am_cc9_32 : am_cchk 9 (132, 2, 0, mX7_init) [118, 94, 120, 119, 0] = true := by decide +kernel
theorem am_cc9_33 : am_cchk 9 (135, 2, 0, mX8_init) [1300, 104, 1302, 1301, 0] = true := by decide +kernel
theorem am_cc9_34 : am_cchk 9 (136, 1, 3, mL_sheet) [561, 93, 563, 562, 0] = true := by decide +kernel
theorem am_cc9_35 : am_cchk 9 (141, 0, 2, mX8_sheet) [1476, 104, 1479, 1477, 1478] = true := by decide +kernel
theorem am_cc9_36 : am_cchk 9 (142, 0, 0, mX8_thrown) [1472, 104, 1475, 1473, 1474] = true := by decide +kernel
theorem am_cc9_37 : am_cchk 9 (146, 0, 5, mX7_feed) [432, 94, 435, 433, 434] = true := by decide +kernel
theorem am_cc9_38 : am_cchk 9 (149, 0, 5, mX8_feed) [1487, 104, 1490, 1488, 1489] = true := by decide +kernel
theorem am_cc9_39 : am_cchk 9 (150, 1, 3, mL_way) [641, 93, 643, 642, 0] = true := by decide +kernel
theorem am_cc9_40 : am_cchk 9 (153, 0, 1, mX8_way) [1491, 104, 1494, 1492, 1493] = true := by decide +kernel
theorem am_cc9_41 : am_cchk 9 (154, 1, 3, mL_law) [770, 93, 772, 771, 0] = true := by decide +kernel
theorem am_cc9_42 : am_cchk 9 (156, 0, 1, mX8_law) [1542, 104, 1545, 1543, 1544] = true := by decide +kernel
theorem am_cc9_43 : am_cchk 9 (157, 0, 1, mX7_fault) [440, 94, 443, 441, 442] = true := by decide +kernel
theorem am_cc9_44 : am_cchk 9 (160, 0, 1, mX8_fault) [1561, 104, 1564, 1562, 1563] = true := by decide +kernel
theorem am_cc9_45 : am_cchk 9 (161, 1, 4, mL_fold) [809, 93, 811, 810, 0] = true := by decide +kernel
theorem am_cc9_46 : am_cchk 9 (164, 0, 2, mX8_fold) [1565, 104, 1568, 1566, 1567] = true := by decide +kernel
theorem am_cc9_47 : am_cchk 9 (165, 1, 3, mL_breaks) [841, 93, 843, 842, 0] = true := by decide +kernel
theorem am_cc9_48 : am_cchk 9 (167, 0, 1, mX8_breaks) [1581, 104, 1584, 1582, 1583] = true := by decide +kernel
theorem am_cc9_49 : am_cchk 9 (168, 1, 4, mL_make) [848, 93, 850, 849, 0] = true := by decide +kernel
theorem am_cc9_50 : am_cchk 9 (170, 0, 2, mX8_make) [1620, 104, 1623, 1621, 1622] = true := by decide +kernel
theorem am_cc9_51 : am_cchk 9 (171, 1, 5, mL_layers) [876, 93, 878, 877, 0] = true := by decide +kernel
theorem am_cc9_52 : am_cchk 9 (174, 0, 3, mX8_layers) [1628, 104, 1631, 1629, 1630] = true := by decide +kernel
theorem am_cc9_53 : am_cchk 9 (175, 1, 7, mL_fly) [884, 93, 886, 885, 0] = true := by decide +kernel
theorem am_cc9_54 : am_cchk 9 (178, 0, 5, mX8_fly) [1632, 104, 1635, 1633, 1634] = true := by decide +kernel
theorem am_cc9_55 : am_cchk 9 (179, 1, 8, mL_at) [989, 93, 991, 990, 0] = true := by decide +kernel
theorem am_cc9_56 : am_cchk 9 (182, 0, 6, mX8_at) [1701, 104, 1704, 1702, 1703] = true := by decide +kernel
theorem am_cc9_57 : am_cchk 9 (183, 1, 5, mL_draught) [999, 93, 1001, 1000, 0] = true := by decide +kernel
theorem am_cc9_58 : am_cchk 9 (185, 0, 3, mX8_draught) [1706, 104, 1709, 1707, 1708] = true := by decide +kernel
theorem am_cc9_59 : am_cchk 9 (186, 1, 4, mL_crate) [1006, 93, 1008, 1007, 0] = true := by decide +kernel
theorem am_cc9_60 : am_cchk 9 (188, 0, 2, mX8_crate) [1712, 104, 1715, 1713, 1714] = true := by decide +kernel
theorem am_cc9_61 : am_cchk 9 (189, 0, 0, mX7_still) [444, 94, 447, 445, 446] = true := by decide +kernel
theorem am_cc9_62 : am_cchk 9 (192, 0, 0, mX8_still) [1718, 104, 1721, 1719, 1720] = true := by decide +kernel
theorem am_cc9_63 : am_cchk 9 (193, 1, 3, mL_damp) [1014, 93, 1016, 1015, 0] = true := by decide +kernel
theorem am_cc9_64 : am_cchk 9 (195, 0, 1, mX8_damp) [1722, 104, 1725, 1723, 1724] = true := by decide +kernel
theorem am_cc9_65 : am_cchk 9 (196, 1, 6, mL_slant) [1021, 93, 1023, 1022, 0] = true := by decide +kernel
theorem am_cc9_66 : am_cchk 9 (199, 0, 4, mX8_slant) [1727, 104, 1730, 1728, 1729] = true := by decide +kernel
theorem am_cc9_67 : am_cchk 9 (200, 1, 5, mL_rest) [1032, 93, 1034, 1033, 0] = true := by decide +kernel
theorem am_cc9_68 : am_cchk 9 (202, 0, 3, mX8_rest) [1735, 104, 1738, 1736, 1737] = true := by decide +kernel
theorem am_cc9_69 : am_cchk 9 (203, 1, 4, mL_why) [1049, 93, 1051, 1050, 0] = true := by decide +kernel
theorem am_cc9_70 : am_cchk 9 (205, 0, 2, mX8_why) [1747, 104, 1750, 1748, 1749] = true := by decide +kernel
theorem am_cc9_71 : am_cchk 9 (206, 0, 0, mX7_hand) [448, 94, 451, 449, 450] = true := by decide +kernel
theorem am_cc9_72 : am_cchk 9 (209, 0, 0, mX8_hand) [1751, 104, 1754, 1752, 1753] = true := by decide +kernel
theorem am_cc9_73 : am_cchk 9 (210, 1, 6, mL_toss) [1056, 93, 1058, 1057, 0] = true := by decide +kernel
theorem am_cc9_74 : am_cchk 9 (213, 0, 4, mX8_toss) [1755, 104, 1758, 1756, 1757] = true := by decide +kernel
theorem am_cc9_75 : am_cchk 9 (214, 1, 6, mL_reach) [1081, 93, 1083, 1082, 0] = true := by decide +kernel
theorem am_cc9_76 : am_cchk 9 (216, 0, 4, mX8_reach) [1778, 104, 1781, 1779, 1780] = true := by decide +kernel
theorem am_cc9_77 : am_cchk 9 (217, 1, 5, mL_ears) [1092, 93, 1094, 1093, 0] = true := by decide +kernel
theorem am_cc9_78 : am_cchk 9 (220, 0, 3, mX8_ears) [1790, 104, 1793, 1791, 1792] = true := by decide +kernel
theorem am_cc9_79 : am_cchk 9 (221, 1, 4, mL_best) [1103, 93, 1105, 1104, 0] = true := by decide +kernel
theorem am_cc9_80 : am_cchk 9 (224, 0, 2, mX8_best) [1798, 104, 1801, 1799, 1800] = true := by decide +kernel
theorem am_cc9_81 : am_cchk 9 (225, 1, 7, mL_change) [1110, 93, 1112, 1111, 0] = true := by decide +kernel
theorem am_cc9_82 : am_cchk 9 (228, 0, 5, mX8_change) [1802, 104, 1805, 1803, 1804] = true := by decide +kernel
theorem am_cc9_83 : am_cchk 9 (229, 1, 6, mL_mend) [1133, 93, 1135, 1134, 0] = true := by decide +kernel
theorem am_cc9_84 : am_cchk 9 (231, 0, 4, mX8_mend) [1811, 104, 1814, 1812, 1813] = true := by decide +kernel
theorem am_cc9_85 : am_cchk 9 (232, 1, 9, mL_hoop) [1140, 93, 1142, 1141, 0] = true := by decide +kernel
theorem am_cc9_86 : am_cchk 9 (235, 0, 7, mX8_hoop) [1815, 104, 1818, 1816, 1817] = true := by decide +kernel
theorem am_cc9_87 : am_cchk 9 (236, 1, 9, mL_odds) [1154, 93, 1156, 1155, 0] = true := by decide +kernel
theorem am_cc9_88 : am_cchk 9 (238, 0, 7, mX8_odds) [1826, 104, 1829, 1827, 1828] = true := by decide +kernel
theorem am_cc9_89 : am_cchk 9 (239, 1, 5, mL_enter) [1164, 93, 1166, 1165, 0] = true := by decide +kernel
theorem am_cc9_90 : am_cchk 9 (241, 0, 3, mX8_enter) [1830, 104, 1833, 1831, 1832] = true := by decide +kernel
theorem am_cc9_91 : am_cchk 9 (242, 1, 3, mL_wins) [1171, 93, 1173, 1172, 0] = true := by decide +kernel
theorem am_cc9_92 : am_cchk 9 (244, 0, 1, mX8_wins) [1834, 104, 1837, 1835, 1836] = true := by decide +kernel
theorem am_cc9_93 : am_cchk 9 (247, 1, 7, mL_hours) [1195, 93, 1197, 1196, 0] = true := by decide +kernel
theorem am_cc9_94 : am_cchk 9 (250, 0, 5, mX8_hours) [1842, 104, 1845, 1843, 1844] = true := by decide +kernel
theorem am_cc9_95 : am_cchk 9 (251, 1, 7, mL_seen) [1203, 93, 1205, 1204, 0] = true := by decide +kernel
theorem am_cc9_96 : am_cchk 9 (253, 0, 5, mX8_seen) [1846, 104, 1849, 1847, 1848] = true := by decide +kernel
theorem am_cc9_97 : am_cchk 9 (254, 0, 3, mX7_found) [456, 94, 459, 457, 458] = true := by decide +kernel
theorem am_cc9_98 : am_cchk 9 (257, 0, 3, mX8_found) [1850, 104, 1853, 1851, 1852] = true := by decide +kernel
theorem am_cc9_99 : am_cchk 9 (258, 1, 4, mL_tray) [1210, 93, 1212, 1211, 0] = true := by decide +kernel
theorem am_cc9_100 : am_cchk 9 (261, 0, 3, mX8_tray) [1858, 104, 1861, 1859, 1860] = true := by decide +kernel
theorem am_cc9_101 : am_cchk 9 (262, 1, 5, mL_write) [1226, 93, 1228, 1227, 0] = true := by decide +kernel
theorem am_cc9_102 : am_cchk 9 (265, 0, 3, mX8_write) [1865, 104, 1868, 1866, 1867] = true := by decide +kernel
theorem am_cc9_103 : am_cchk 9 (266, 1, 4, mL_take) [1262, 93, 1264, 1263, 0] = true := by decide +kernel
theorem am_cc9_104 : am_cchk 9 (268, 0, 2, mX8_take) [1869, 104, 1872, 1870, 1871] = true := by decide +kernel
theorem am_cc9_105 : am_cchk 9 (269, 1, 2, mL_image) [1275, 93, 1277, 1276, 0] = true := by decide +kernel
theorem am_cc9_106 : am_cchk 9 (272, 0, 1, mX8_image) [1873, 104, 1876, 1874, 1875] = true := by decide +kernel
theorem am_cc9_107 : am_cchk 9 (273, 1, 2, mL_restore) [1290, 93, 1292, 1291, 0] = true := by decide +kernel
theorem am_cc9_108 : am_cchk 9 (275, 0, 1, mX8_restore) [1877, 104, 1880, 1878, 1879] = true := by decide +kernel
theorem am_cc9_109 : am_cchk 9 (276, 0, 1, mX7_count) [557, 94, 560, 558, 559] = true := by decide +kernel
theorem am_cc9_110 : am_cchk 9 (279, 0, 1, mX8_count_) [1881, 104, 1884, 1882, 1883] = true := by decide +kernel
set_option maxRecDepth 100000 in
theorem am_cchk_9 : ∀ q ∈ am_callT 9, ∃ r, am_cchk 9 q r = true := List.forall_mem_cons.mpr ⟨⟨_, am_cc9_0⟩, List.forall_mem_cons.mpr ⟨⟨_, am_cc9_1⟩, List.forall_mem_cons.mpr ⟨⟨_, am_cc9_2⟩, List.forall_mem_cons.mpr ⟨⟨_, am_cc9_3⟩, List.forall_mem_cons.mpr ⟨⟨_, am_cc9_4⟩, List.forall_mem_cons.mpr ⟨⟨_, am_cc9_5⟩, List.forall_mem_cons.mpr ⟨⟨_, am_cc9_6⟩, List.forall_mem_cons.mpr ⟨⟨_, am_cc9_7⟩, List.forall_mem_cons.mpr ⟨⟨_, am_cc9_8⟩, List.forall_mem_cons.mpr ⟨⟨_, am_cc9_9⟩, List.forall_mem_cons.mpr ⟨⟨_, am_cc9_10⟩, List.forall_mem_cons.mpr ⟨⟨_, am_cc9_11⟩, List.forall_mem_cons.mpr ⟨⟨_, am_cc9_12⟩, List.forall_mem_cons.mpr ⟨⟨_, am_cc9_13⟩, List.forall_mem_cons.mpr ⟨⟨_, am_cc9_14⟩, List.forall_mem_cons.mpr ⟨⟨_, am_cc9_15⟩, List.forall_mem_cons.mpr ⟨⟨_, am_cc9_16⟩, List.forall_mem_cons.mpr ⟨⟨_, am_cc9_17⟩, List.forall_mem_cons.mpr ⟨⟨_, am_cc9_18⟩, List.forall_mem_cons.mpr ⟨⟨_, am_cc9_19⟩, List.forall_mem_cons.mpr ⟨⟨_, am_cc9_20⟩, List.forall_mem_cons.mpr ⟨⟨_, am_cc9_21⟩, List.forall_mem_cons.mpr ⟨⟨_, am_cc9_22⟩, List.forall_mem_cons.mpr ⟨⟨_, am_cc9_23⟩, List.forall_mem_cons.mpr ⟨⟨_, am_cc9_24⟩, List.forall_mem_cons.mpr ⟨⟨_, am_cc9_25⟩, List.forall_mem_cons.mpr ⟨⟨_, am_cc9_26⟩, List.forall_mem_cons.mpr ⟨⟨_, am_cc9_27⟩, List.forall_mem_cons.mpr ⟨⟨_, am_cc9_28⟩, List.forall_mem_cons.mpr ⟨⟨_, am_cc9_29⟩, List.forall_mem_cons.mpr ⟨⟨_, am_cc9_30⟩, List.forall_mem_cons.mpr ⟨⟨_, am_cc9_31⟩, List.forall_mem_cons.mpr ⟨⟨_, am_cc9_32⟩, List.forall_mem_cons.mpr ⟨⟨_, am_cc9_33⟩, List.forall_mem_cons.mpr ⟨⟨_, am_cc9_34⟩, List.forall_mem_cons.mpr ⟨⟨_, am_cc9_35⟩, List.forall_mem_cons.mpr ⟨⟨_, am_cc9_36⟩, List.forall_mem_cons.mpr ⟨⟨_, am_cc9_37⟩, List.forall_mem_cons.mpr ⟨⟨_, am_cc9_38⟩, List.forall_mem_cons.mpr ⟨⟨_, am_cc9_39⟩, List.forall_mem_cons.mpr ⟨⟨_, am_cc9_40⟩, List.forall_mem_cons.mpr ⟨⟨_, am_cc9_41⟩, List.forall_mem_cons.mpr ⟨⟨_, am_cc9_42⟩, List.forall_mem_cons.mpr ⟨⟨_, am_cc9_43⟩, List.forall_mem_cons.mpr ⟨⟨_, am_cc9_44⟩, List.forall_mem_cons.mpr ⟨⟨_, am_cc9_45⟩, List.forall_mem_cons.mpr ⟨⟨_, am_cc9_46⟩, List.forall_mem_cons.mpr ⟨⟨_, am_cc9_47⟩, List.forall_mem_cons.mpr ⟨⟨_, am_cc9_48⟩, List.forall_mem_cons.mpr ⟨⟨_, am_cc9_49⟩, List.forall_mem_cons.mpr ⟨⟨_, am_cc9_50⟩, List.forall_mem_cons.mpr ⟨⟨_, am_cc9_51⟩, List.forall_mem_cons.mpr ⟨⟨_, am_cc9_52⟩, List.forall_mem_cons.mpr ⟨⟨_, am_cc9_53⟩, List.forall_mem_cons.mpr ⟨⟨_, am_cc9_54⟩, List.forall_mem_cons.mpr ⟨⟨_, am_cc9_55⟩, List.forall_mem_cons.mpr ⟨⟨_, am_cc9_56⟩, List.forall_mem_cons.mpr ⟨⟨_, am_cc9_57⟩, List.forall_mem_cons.mpr ⟨⟨_, am_cc9_58⟩, List.forall_mem_cons.mpr ⟨⟨_, am_cc9_59⟩, List.forall_mem_cons.mpr ⟨⟨_, am_cc9_60⟩, List.forall_mem_cons.mpr ⟨⟨_, am_cc9_61⟩, List.forall_mem_cons.mpr ⟨⟨_, am_cc9_62⟩, List.forall_mem_cons.mpr ⟨⟨_, am_cc9_63⟩, List.forall_mem_cons.mpr ⟨⟨_, am_cc9_64⟩, List.forall_mem_cons.mpr ⟨⟨_, am_cc9_65⟩, List.forall_mem_cons.mpr ⟨⟨_, am_cc9_66⟩, List.forall_mem_cons.mpr ⟨⟨_, am_cc9_67⟩, List.forall_mem_cons.mpr ⟨⟨_, am_cc9_68⟩, List.forall_mem_cons.mpr ⟨⟨_, am_cc9_69⟩, List.forall_mem_cons.mpr ⟨⟨_, am_cc9_70⟩, List.forall_mem_cons.mpr ⟨⟨_, am_cc9_71⟩, List.forall_mem_cons.mpr ⟨⟨_, am_cc9_72⟩, List.forall_mem_cons.mpr ⟨⟨_, am_cc9_73⟩, List.forall_mem_cons.mpr ⟨⟨_, am_cc9_74⟩, List.forall_mem_cons.mpr ⟨⟨_, am_cc9_75⟩, List.forall_mem_cons.mpr ⟨⟨_, am_cc9_76⟩, List.forall_mem_cons.mpr ⟨⟨_, am_cc9_77⟩, List.forall_mem_cons.mpr ⟨⟨_, am_cc9_78⟩, List.forall_mem_cons.mpr ⟨⟨_, am_cc9_79⟩, List.forall_mem_cons.mpr ⟨⟨_, am_cc9_80⟩, List.forall_mem_cons.mpr ⟨⟨_, am_cc9_81⟩, List.forall_mem_cons.mpr ⟨⟨_, am_cc9_82⟩, List.forall_mem_cons.mpr ⟨⟨_, am_cc9_83⟩, List.forall_mem_cons.mpr ⟨⟨_, am_cc9_84⟩, List.forall_mem_cons.mpr ⟨⟨_, am_cc9_85⟩, List.forall_mem_cons.mpr ⟨⟨_, am_cc9_86⟩, List.forall_mem_cons.mpr ⟨⟨_, am_cc9_87⟩, List.forall_mem_cons.mpr ⟨⟨_, am_cc9_88⟩, List.forall_mem_cons.mpr ⟨⟨_, am_cc9_89⟩, List.forall_mem_cons.mpr ⟨⟨_, am_cc9_90⟩, List.forall_mem_cons.mpr ⟨⟨_, am_cc9_91⟩, List.forall_mem_cons.mpr ⟨⟨_, am_cc9_92⟩, List.forall_mem_cons.mpr ⟨⟨_, am_cc9_93⟩, List.forall_mem_cons.mpr ⟨⟨_, am_cc9_94⟩, List.forall_mem_cons.mpr ⟨⟨_, am_cc9_95⟩, List.forall_mem_cons.mpr ⟨⟨_, am_cc9_96⟩, List.forall_mem_cons.mpr ⟨⟨_, am_cc9_97⟩, List.forall_mem_cons.mpr ⟨⟨_, am_cc9_98⟩, List.forall_mem_cons.mpr ⟨⟨_, am_cc9_99⟩, List.forall_mem_cons.mpr ⟨⟨_, am_cc9_100⟩, List.forall_mem_cons.mpr ⟨⟨_, am_cc9_101⟩, List.forall_mem_cons.mpr ⟨⟨_, am_cc9_102⟩, List.forall_mem_cons.mpr ⟨⟨_, am_cc9_103⟩, List.forall_mem_cons.mpr ⟨⟨_, am_cc9_104⟩, List.forall_mem_cons.mpr ⟨⟨_, am_cc9_105⟩, List.forall_mem_cons.mpr ⟨⟨_, am_cc9_106⟩, List.forall_mem_cons.mpr ⟨⟨_, am_cc9_107⟩, List.forall_mem_cons.mpr ⟨⟨_, am_cc9_108⟩, List.forall_mem_cons.mpr ⟨⟨_, am_cc9_109⟩, List.forall_mem_cons.mpr ⟨⟨_, am_cc9_110⟩, fun _ h => absurd h List.not_mem_nil⟩⟩⟩⟩⟩⟩⟩⟩⟩⟩⟩⟩⟩⟩⟩⟩⟩⟩⟩⟩⟩⟩⟩⟩⟩⟩⟩⟩⟩⟩⟩⟩⟩⟩⟩⟩⟩⟩⟩⟩⟩⟩⟩⟩⟩⟩⟩⟩⟩⟩⟩⟩⟩⟩⟩⟩⟩⟩⟩⟩⟩⟩⟩⟩⟩⟩⟩⟩⟩⟩⟩⟩⟩⟩⟩⟩⟩⟩⟩⟩⟩⟩⟩⟩⟩⟩⟩⟩⟩⟩⟩⟩⟩⟩⟩⟩⟩⟩⟩⟩⟩⟩⟩⟩⟩⟩⟩⟩⟩⟩⟩
theorem am_cchk_all (o : Nat) (q : Nat × Nat × Nat × am_M) (h : q ∈ am_callT o) : ∃ r, am_cchk o q r = true := match o, h with
  | 0, h => am_cchk_0 q h
  | 1, h => am_cchk_1 q h
  | 2, h => am_cchk_2 q h
  | 3, h => am_cchk_3 q h
  | 4, h => am_cchk_4 q h
  | 5, h => am_cchk_5 q h
  | 6, h => am_cchk_6 q h
  | 7, h => am_cchk_7 q h
  | 8, h => am_cchk_8 q h
  | 9, h => am_cchk_9 q h
  | _ + 10, h => by cases h
theorem am_nchk_0 : am_zc (am_nchk 0) (am_newT 0) (am_newQ 0) = true := by decide +kernel
theorem am_nchk_1 : am_zc (am_nchk 1) (am_newT 1) (am_newQ 1) = true := by decide +kernel
theorem am_nchk_2 : am_zc (am_nchk 2) (am_newT 2) (am_newQ 2) = true := by decide +kernel
theorem am_nchk_3 : am_zc (am_nchk 3) (am_newT 3) (am_newQ 3) = true := by decide +kernel
theorem am_nchk_4 : am_zc (am_nchk 4) (am_newT 4) (am_newQ 4) = true := by decide +kernel
theorem am_nchk_5 : am_zc (am_nchk 5) (am_newT 5) (am_newQ 5) = true := by decide +kernel
theorem am_nchk_6 : am_zc (am_nchk 6) (am_newT 6) (am_newQ 6) = true := by decide +kernel
theorem am_nchk_7 : am_zc (am_nchk 7) (am_newT 7) (am_newQ 7) = true := by decide +kernel
theorem am_nchk_8 : am_zc (am_nchk 8) (am_newT 8) (am_newQ 8) = true := by decide +kernel
theorem am_nchk_9 : am_zc (am_nchk 9) (am_newT 9) (am_newQ 9) = true := by decide +kernel
theorem am_nchk_all (o : Nat) (q : Nat × Nat) (h : q ∈ am_newT o) : ∃ r, am_nchk o q r = true := match o, h with
  | 0, h => am_zc_in am_nchk_0 q h
  | 1, h => am_zc_in am_nchk_1 q h
  | 2, h => am_zc_in am_nchk_2 q h
  | 3, h => am_zc_in am_nchk_3 q h
  | 4, h => am_zc_in am_nchk_4 q h
  | 5, h => am_zc_in am_nchk_5 q h
  | 6, h => am_zc_in am_nchk_6 q h
  | 7, h => am_zc_in am_nchk_7 q h
  | 8, h => am_zc_in am_nchk_8 q h
  | 9, h => am_zc_in am_nchk_9 q h
  | _ + 10, h => by cases h
theorem am_achk_0 : am_zc (am_achk 0) (am_anewT 0) (am_anewQ 0) = true := by decide +kernel
theorem am_achk_1 : am_zc (am_achk 1) (am_anewT 1) (am_anewQ 1) = true := by decide +kernel
theorem am_achk_2 : am_zc (am_achk 2) (am_anewT 2) (am_anewQ 2) = true := by decide +kernel
theorem am_achk_3 : am_zc (am_achk 3) (am_anewT 3) (am_anewQ 3) = true := by decide +kernel
theorem am_achk_4 : am_zc (am_achk 4) (am_anewT 4) (am_anewQ 4) = true := by decide +kernel
theorem am_achk_5 : am_zc (am_achk 5) (am_anewT 5) (am_anewQ 5) = true := by decide +kernel
theorem am_achk_6 : am_zc (am_achk 6) (am_anewT 6) (am_anewQ 6) = true := by decide +kernel
theorem am_achk_7 : am_zc (am_achk 7) (am_anewT 7) (am_anewQ 7) = true := by decide +kernel
theorem am_achk_8 : am_zc (am_achk 8) (am_anewT 8) (am_anewQ 8) = true := by decide +kernel
theorem am_achk_9 : am_zc (am_achk 9) (am_anewT 9) (am_anewQ 9) = true := by decide +kernel
theorem am_achk_all (o : Nat) (q : Nat × Nat) (h : q ∈ am_anewT o) : ∃ r, am_achk o q r = true := match o, h with
  | 0, h => am_zc_in am_achk_0 q h
  | 1, h => am_zc_in am_achk_1 q h
  | 2, h => am_zc_in am_achk_2 q h
  | 3, h => am_zc_in am_achk_3 q h
  | 4, h => am_zc_in am_achk_4 q h
  | 5, h => am_zc_in am_achk_5 q h
  | 6, h => am_zc_in am_achk_6 q h
  | 7, h => am_zc_in am_achk_7 q h
  | 8, h => am_zc_in am_achk_8 q h
  | 9, h => am_zc_in am_achk_9 q h
  | _ + 10, h => by cases h
theorem am_ichk_0 : am_zc (am_ichk 0) (am_ciT 0) (am_ciQ 0) = true := by decide +kernel
theorem am_ichk_1 : am_zc (am_ichk 1) (am_ciT 1) (am_ciQ 1) = true := by decide +kernel
theorem am_ichk_2 : am_zc (am_ichk 2) (am_ciT 2) (am_ciQ 2) = true := by decide +kernel
theorem am_ichk_3 : am_zc (am_ichk 3) (am_ciT 3) (am_ciQ 3) = true := by decide +kernel
theorem am_ichk_4 : am_zc (am_ichk 4) (am_ciT 4) (am_ciQ 4) = true := by decide +kernel
theorem am_ichk_5 : am_zc (am_ichk 5) (am_ciT 5) (am_ciQ 5) = true := by decide +kernel
theorem am_ichk_6 : am_zc (am_ichk 6) (am_ciT 6) (am_ciQ 6) = true := by decide +kernel
theorem am_ichk_7 : am_zc (am_ichk 7) (am_ciT 7) (am_ciQ 7) = true := by decide +kernel
theorem am_ichk_8 : am_zc (am_ichk 8) (am_ciT 8) (am_ciQ 8) = true := by decide +kernel
theorem am_ichk_9 : am_zc (am_ichk 9) (am_ciT 9) (am_ciQ 9) = true := by decide +kernel
theorem am_ichk_all (o : Nat) (q : Nat × Int32) (h : q ∈ am_ciT o) : ∃ r, am_ichk o q r = true := match o, h with
  | 0, h => am_zc_in am_ichk_0 q h
  | 1, h => am_zc_in am_ichk_1 q h
  | 2, h => am_zc_in am_ichk_2 q h
  | 3, h => am_zc_in am_ichk_3 q h
  | 4, h => am_zc_in am_ichk_4 q h
  | 5, h => am_zc_in am_ichk_5 q h
  | 6, h => am_zc_in am_ichk_6 q h
  | 7, h => am_zc_in am_ichk_7 q h
  | 8, h => am_zc_in am_ichk_8 q h
  | 9, h => am_zc_in am_ichk_9 q h
  | _ + 10, h => by cases h
theorem am_lchk_0 : am_zc (am_lchk 0) (am_clT 0) (am_clQ 0) = true := by decide +kernel
theorem am_lchk_1 : am_zc (am_lchk 1) (am_clT 1) (am_clQ 1) = true := by decide +kernel
theorem am_lchk_2 : am_zc (am_lchk 2) (am_clT 2) (am_clQ 2) = true := by decide +kernel
theorem am_lchk_3 : am_zc (am_lchk 3) (am_clT 3) (am_clQ 3) = true := by decide +kernel
theorem am_lchk_4 : am_zc (am_lchk 4) (am_clT 4) (am_clQ 4) = true := by decide +kernel
theorem am_lchk_5 : am_zc (am_lchk 5) (am_clT 5) (am_clQ 5) = true := by decide +kernel
theorem am_lchk_6 : am_zc (am_lchk 6) (am_clT 6) (am_clQ 6) = true := by decide +kernel
theorem am_lchk_7 : am_zc (am_lchk 7) (am_clT 7) (am_clQ 7) = true := by decide +kernel
theorem am_lchk_8 : am_zc (am_lchk 8) (am_clT 8) (am_clQ 8) = true := by decide +kernel
theorem am_lchk_9 : am_zc (am_lchk 9) (am_clT 9) (am_clQ 9) = true := by decide +kernel
theorem am_lchk_all (o : Nat) (q : Nat × Int64) (h : q ∈ am_clT o) : ∃ r, am_lchk o q r = true := match o, h with
  | 0, h => am_zc_in am_lchk_0 q h
  | 1, h => am_zc_in am_lchk_1 q h
  | 2, h => am_zc_in am_lchk_2 q h
  | 3, h => am_zc_in am_lchk_3 q h
  | 4, h => am_zc_in am_lchk_4 q h
  | 5, h => am_zc_in am_lchk_5 q h
  | 6, h => am_zc_in am_lchk_6 q h
  | 7, h => am_zc_in am_lchk_7 q h
  | 8, h => am_zc_in am_lchk_8 q h
  | 9, h => am_zc_in am_lchk_9 q h
  | _ + 10, h => by cases h
theorem am_lay_0 : am_zc (fun k p => am_wat p (u_lay (am_cn 0) (am_TX 0) k)) (List.range (am_fk 0).length) (am_layQ 0) = true := by decide +kernel
theorem am_lay_1 : am_zc (fun k p => am_wat p (u_lay (am_cn 1) (am_TX 1) k)) (List.range (am_fk 1).length) (am_layQ 1) = true := by decide +kernel
theorem am_lay_2 : am_zc (fun k p => am_wat p (u_lay (am_cn 2) (am_TX 2) k)) (List.range (am_fk 2).length) (am_layQ 2) = true := by decide +kernel
theorem am_lay_3 : am_zc (fun k p => am_wat p (u_lay (am_cn 3) (am_TX 3) k)) (List.range (am_fk 3).length) (am_layQ 3) = true := by decide +kernel
theorem am_lay_4 : am_zc (fun k p => am_wat p (u_lay (am_cn 4) (am_TX 4) k)) (List.range (am_fk 4).length) (am_layQ 4) = true := by decide +kernel
theorem am_lay_5 : am_zc (fun k p => am_wat p (u_lay (am_cn 5) (am_TX 5) k)) (List.range (am_fk 5).length) (am_layQ 5) = true := by decide +kernel
theorem am_lay_6 : am_zc (fun k p => am_wat p (u_lay (am_cn 6) (am_TX 6) k)) (List.range (am_fk 6).length) (am_layQ 6) = true := by decide +kernel
theorem am_lay_7 : am_zc (fun k p => am_wat p (u_lay (am_cn 7) (am_TX 7) k)) (List.range (am_fk 7).length) (am_layQ 7) = true := by decide +kernel
theorem am_lay_8 : am_zc (fun k p => am_wat p (u_lay (am_cn 8) (am_TX 8) k)) (List.range (am_fk 8).length) (am_layQ 8) = true := by decide +kernel
theorem am_lay_all (ci : Nat) (h : ci < 9) : ∀ w ∈ u_ws (am_cn ci) (am_TX ci) (am_fk ci).length, w ∈ am_T := by
  intro w hw
  obtain ⟨k, hk, rfl⟩ := List.mem_map.mp hw
  have key : am_zc (fun k p => am_wat p (u_lay (am_cn ci) (am_TX ci) k)) (List.range (am_fk ci).length) (am_layQ ci) = true := by
    match ci, h with
    | 0, _ => exact am_lay_0
    | 1, _ => exact am_lay_1
    | 2, _ => exact am_lay_2
    | 3, _ => exact am_lay_3
    | 4, _ => exact am_lay_4
    | 5, _ => exact am_lay_5
    | 6, _ => exact am_lay_6
    | 7, _ => exact am_lay_7
    | 8, _ => exact am_lay_8
  obtain ⟨r, hr⟩ := am_zc_in key k hk
  exact am_wat_in hr
theorem am_cl_at (ci : Nat) (h : ci < 9) : vwCl[ci]? = some (am_cn ci, am_TX ci, (am_fk ci).length) := by
  match ci, h with
  | 0, _ => rfl
  | 1, _ => rfl
  | 2, _ => rfl
  | 3, _ => rfl
  | 4, _ => rfl
  | 5, _ => rfl
  | 6, _ => rfl
  | 7, _ => rfl
  | 8, _ => rfl
theorem am_w_oi : Cond.instanceMethod Lib.objectInit ∈ am_T := am_wat_in (i := 122) (by decide +kernel)
theorem am_w_oc : Cond.code Lib.objectInit ⟨#[0xb1]⟩ 1 none ∈ am_T := am_wat_in (i := 123) (by decide +kernel)
theorem am_w_an : Cond.native arraycopyName ∈ am_T := am_wat_in (i := 160) (by decide +kernel)
theorem am_w_as : Cond.static arraycopyName ∈ am_T := am_wat_in (i := 159) (by decide +kernel)
theorem am_w_ai : Cond.initialized "java/lang/System" ∈ am_T := am_wat_in (i := 98) (by decide +kernel)
theorem am_wm_max_s : Cond.static Lib.Math.max.name ∈ am_T := am_wat_in (i := 975) (by decide +kernel)
theorem am_wm_max_c : Cond.code Lib.Math.max.name Lib.Math.max.code 2 (some .int) ∈ am_T := am_wat_in (i := 976) (by decide +kernel)
theorem am_wm_min_s : Cond.static Lib.Math.min.name ∈ am_T := am_wat_in (i := 138) (by decide +kernel)
theorem am_wm_min_c : Cond.code Lib.Math.min.name Lib.Math.min.code 2 (some .int) ∈ am_T := am_wat_in (i := 139) (by decide +kernel)
theorem am_wm_abs_s : Cond.static Lib.Math.abs.name ∈ am_T := am_wat_in (i := 930) (by decide +kernel)
theorem am_wm_abs_c : Cond.code Lib.Math.abs.name Lib.Math.abs.code 1 (some .int) ∈ am_T := am_wat_in (i := 931) (by decide +kernel)
theorem am_wm_lmax_s : Cond.static Lib.MathLoose.max_long.x ∈ am_T := am_wat_in (i := 947) (by decide +kernel)
theorem am_wm_lmax_c : Cond.code Lib.MathLoose.max_long.x Lib.MathLoose.max_long.code 4 (some .long) ∈ am_T := am_wat_in (i := 948) (by decide +kernel)
theorem am_wm_lmin_s : Cond.static Lib.MathLoose.min_long.x ∈ am_T := am_wat_in (i := 944) (by decide +kernel)
theorem am_wm_lmin_c : Cond.code Lib.MathLoose.min_long.x Lib.MathLoose.min_long.code 4 (some .long) ∈ am_T := am_wat_in (i := 945) (by decide +kernel)
theorem am_wm_i : Cond.initialized "java/lang/Math" ∈ am_T := am_wat_in (i := 97) (by decide +kernel)
