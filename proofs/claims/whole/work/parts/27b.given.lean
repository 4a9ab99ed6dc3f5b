-- what the Statement gives of the start
/-- a part of a conjunction, by its way: 2n to the left, 2n+1 to the right, 1 here -/
def gPick : Cond → Nat → Cond
  | .and a b, n => if n ≤ 1 then .and a b else if n % 2 = 0 then gPick a (n / 2) else gPick b (n / 2)
  | c, _ => c
theorem gPick_ok {args : Array Value} {s : State} (T : Cond) : T.before args s = true → ∀ n : Nat, (gPick T n).before args s = true := by
  induction T with
  | and a b iha ihb =>
    intro h n
    have h2 := h
    rw [Cond.before_and, Bool.and_eq_true] at h2
    show (if n ≤ 1 then Cond.and a b else if n % 2 = 0 then gPick a (n / 2) else gPick b (n / 2)).before args s = true
    by_cases c1 : n ≤ 1
    · rw [if_pos c1]; exact h
    · rw [if_neg c1]
      by_cases c2 : n % 2 = 0
      · rw [if_pos c2]; exact iha h2.1 _
      · rw [if_neg c2]; exact ihb h2.2 _
  | _ => intro h n; exact h
def sP : List (List Nat) := [[1125, 1637, 1381, 1893, 1253, 1765, 1509, 2021, 1045, 1557, 1301, 1813, 1173, 1685, 1429, 1941, 1109, 1621, 1365, 1877], [1237, 1749, 1493, 2005, 1077, 1589, 1333, 1845, 1205, 1717], [1461, 1973, 1141, 1653, 1397], [1909, 1269, 1781, 1525, 3061], [4085, 1037, 1549, 1293, 1805], [1165, 1677, 1421, 1933, 1101, 1613, 1357], [1869, 1229, 1741, 1485, 1997, 1069], [1915, 1275, 1787, 1531, 3067, 4091, 1031, 1543, 1287], [1799, 1159, 1671, 1415, 1927, 1095, 1607, 1351, 1863], [1223, 1735, 1479, 1991, 1063], [1575, 1319, 1831, 1191, 1703, 1447, 1959, 1127, 1639], [1581, 1325, 1837, 1197, 1709, 1453], [1083, 1595, 1339, 1851, 1211, 1723, 1467, 1979, 1147, 1659, 1403], [1965, 1133, 1645, 1389, 1901, 1261, 1773], [1947, 1115, 1627, 1371, 1883, 1243, 1755, 1499, 2011], [1517, 3053, 4077, 1053, 1565], [1309, 1821, 1181, 1693, 1437, 1949], [1117, 1629, 1373, 1885, 1245], [1757, 1501, 2013, 1085, 1597], [1341, 1853, 1213, 1725, 1469], [1981, 1149, 1661, 1405, 1917, 1277, 1789, 1533], [3069, 4093, 1027, 1539, 1283, 1795, 1155, 1667, 1411], [1923, 1091, 1603, 1347, 1859, 1219], [1307, 1819, 1179, 1691, 1435], [1835, 1195, 1707, 1451, 1963], [1131, 1643, 1387, 1899, 1259], [1771, 1515, 2027, 1051, 1563], [1731, 1475, 1987, 1059, 1571, 1315, 1827, 1187], [1699, 1443, 1955, 1123, 1635, 1379, 1891, 1251], [1763, 1507, 2019, 1043, 1555], [1299, 1811, 1171, 1683, 1427], [1939, 1107, 1619, 1363, 1875, 1235, 1747, 1491, 2003], [1075, 1587, 1331, 1843, 1203, 1715, 1459, 1971], [1139, 1651, 1395, 1907, 1267, 1779], [1523, 3059, 4083, 1035, 1547, 1291], [1803, 1163, 1675, 1419, 1931, 1099, 1611, 1355], [1867, 1227, 1739, 1483, 1995, 1067, 1579, 1323], [1383, 1895, 1255, 1767, 1511, 2023, 1047], [1559, 1303, 1815, 1175, 1687, 1431, 1943, 1111], [1623, 1367, 1879, 1239, 1751, 1495, 2007, 1079], [1591, 1335, 1847, 1207, 1719, 1463, 1975, 1143], [1655, 1399, 1911, 1271, 1783, 1527, 3063, 4087], [1039, 1551, 1295, 1807, 1167, 1679, 1423, 1935, 1103, 1615], [1359, 1871, 1231, 1743, 1487, 1999, 1071], [1583, 1327, 1839, 1199, 1711, 1455, 1967], [1135, 1647, 1391, 1903, 1263, 1775, 1519], [3055, 4079, 1055, 1567, 1311, 1823, 1183], [1695, 1439, 1951, 1119, 1631, 1375], [1887, 1247, 1759, 1503, 2015], [1087, 1599, 1343, 1855, 1215], [1727, 1471, 1983, 1151, 1663, 1407], [1919, 1279, 1791, 1535, 3071, 4095], [1720, 1464, 1976, 1144, 1656, 1400, 1912, 1272, 1784, 1528, 3064, 4088, 1028, 1540, 1284, 1796, 1156, 1668, 1412, 1924, 1092, 1604, 1348, 1860, 1220, 1732, 1476, 1988, 1060, 1572, 1316, 1828, 1188, 1700, 1444, 1956, 1124, 1636, 1380, 1892, 1252, 1764, 1508, 2020, 1044, 1556, 1300, 1812, 1172, 1684, 1428, 1940, 1108, 1620, 1364, 1876, 1236, 1748, 1492, 2004, 1076, 1588, 1332, 1844, 1204, 1716, 1460, 1972, 1140, 1652, 1396, 1908, 1268, 1780, 1524, 3060, 4084, 1036, 1548, 1292, 1804, 1164, 1676, 1420, 1932, 1100, 1612, 1356, 1868, 1228, 1740, 1484, 1996, 1068, 1580, 1324, 1836, 1196, 1708, 1452, 1964, 1132, 1644, 1388, 1900, 1260, 1772, 1516, 3052, 4076, 1052, 1564, 1308, 1820, 1180, 1692, 1436, 1948, 1116, 1628, 1372, 1884, 1244, 1756, 1500, 2012, 1084, 1596, 1340, 1852, 1212, 1724, 1468, 1980, 1148, 1660, 1404, 1916, 1276, 1788, 1532, 3068, 4092, 1026, 1538, 1282, 1794, 1154, 1666, 1410, 1922], [1090, 1602, 1346, 1858, 1218, 1730, 1474, 1986, 1058, 1570, 1314, 1826, 1186, 1698, 1442, 1954, 1122, 1634, 1378, 1890], [1250, 1762, 1506, 2018, 1042, 1554, 1298, 1810, 1170, 1682, 1426, 1938, 1106, 1618, 1362, 1874, 1234, 1746, 1490, 2002, 1074, 1586, 1330, 1842, 1202, 1714, 1458, 1970, 1138, 1650, 1394, 1906, 1266, 1778, 1522], [3058, 4082, 1034, 1546, 1290, 1802, 1162, 1674, 1418, 1930, 1098, 1610, 1354, 1866], [1226, 1738, 1482, 1994, 1066, 1578, 1322, 1834, 1194, 1706, 1450, 1962, 1130, 1642, 1386, 1898, 1258, 1770], [1514, 2026, 1050, 1562, 1306, 1818, 1178, 1690, 1434, 1946, 1114, 1626, 1370, 1882, 1242, 1754, 1498], [2010, 1082, 1594, 1338, 1850, 1210, 1722, 1466, 1978, 1146, 1658, 1402, 1914, 1274, 1786, 1530, 3066, 4090, 1030, 1542, 1286, 1798, 1158, 1670, 1414, 1926, 1094, 1606, 1350, 1862, 1222, 1734, 1478, 1990, 1062, 1574, 1318], [1830, 1190, 1702, 1446, 1958, 1126, 1638, 1382, 1894, 1254, 1766, 1510, 2022, 1046, 1558, 1302, 1814, 1174, 1686, 1430, 1942, 1110, 1622, 1366, 1878, 1238, 1750, 1494, 2006, 1078, 1590, 1334], [1846, 1206, 1718, 1462, 1974, 1142, 1654, 1398, 1910, 1270, 1782, 1526, 3062, 4086], [1038, 1550, 1294, 1806, 1166, 1678, 1422, 1934, 1102, 1614, 1358, 1870, 1230, 1742, 1486, 1998], [1070, 1582, 1326, 1838, 1198, 1710, 1454, 1966, 1134, 1646, 1390, 1902, 1262, 1774, 1518, 3054, 4078, 1054, 1566, 1310, 1822, 1182, 1694, 1438, 1950, 1118], [1630, 1374, 1886, 1246, 1758, 1502, 2014, 1086, 1598, 1342, 1854, 1214, 1726, 1470, 1982, 1150, 1662, 1406, 1918, 1278, 1790, 1534, 3070, 4094, 1025], [1537, 1281, 1793, 1153, 1665, 1409, 1921, 1089, 1601, 1345, 1857, 1217, 1729, 1473, 1985, 1057, 1569, 1313, 1825, 1185, 1697, 1441, 1953], [1121, 1633, 1377, 1889, 1249, 1761, 1505, 2017, 1041, 1553, 1297, 1809, 1169, 1681, 1425, 1937, 1105, 1617, 1361, 1873, 1233, 1745, 1489, 2001, 1073], [1585, 1329, 1841, 1201, 1713, 1457, 1969, 1137, 1649, 1393, 1905, 1265, 1777, 1521, 3057, 4081, 1033, 1545, 1289, 1801, 1161, 1673, 1417, 1929, 1097, 1609, 1353, 1865, 1225, 1737, 1481, 1993], [1065, 1577, 1321, 1833, 1193, 1705, 1449, 1961, 1129, 1641, 1385, 1897, 1257, 1769], [1513, 2025, 1049, 1561, 1305, 1817, 1177, 1689, 1433, 1945, 1113, 1625, 1369, 1881, 1241, 1753, 1497, 2009], [1081, 1593, 1337, 1849, 1209, 1721, 1465, 1977, 1145, 1657, 1401, 1913, 1273, 1785, 1529, 3065, 4089], [1029, 1541, 1285, 1797, 1157, 1669, 1413, 1925, 1093, 1605, 1349, 1861, 1221, 1733, 1477, 1989, 1061, 1573, 1317, 1829, 1189, 1701, 1445, 1957]]
def sPa (i j : Nat) : Nat := (sP.getD i []).getD j 1
def tP : List (List Nat) := [[1344, 1856, 1216, 1728, 1472, 1984, 1056, 1568, 1312, 1824, 1184, 1696, 1440, 1952, 1120, 1632, 1376, 1888, 1248, 1760, 1504, 2016, 1040, 1552, 1296, 1808, 1168, 1680, 1424, 1936, 1104, 1616], [1264, 1776, 1520, 3056, 4080, 1032, 1544, 1288], [1160, 1672, 1416, 1928, 1096, 1608, 1352], [1872, 1232, 1744, 1488, 2000, 1072, 1584, 1328], [1200, 1712, 1456, 1968, 1136, 1648, 1392]]
def tPa (i j : Nat) : Nat := (tP.getD i []).getD j 1
def sTm (i : Nat) : Term := .string (SREF.getD i ("", 0, "", 0)).1 (SREF.getD i ("", 0, "", 0)).2.1
def sFd (i : Nat) : Term := .field (sTm i) "java/lang/String" "value" "[B"
def tTm (t : Nat) : Term := .static RX11 (sNam t) "[Ljava/lang/String;"
set_option maxRecDepth 100000 in
theorem gEx : ∀ i, i < 71 → gPick narrow_1 (sPa i 0) = .exactly (sTm i) "java/lang/String" := by decide +kernel
set_option maxRecDepth 100000 in
theorem gCo : ∀ i, i < 53 → gPick narrow_1 (sPa i 1) = .eq (.field (sTm i) "java/lang/String" "coder" "B") (.int 0) := by decide +kernel
set_option maxRecDepth 100000 in
theorem gAr : ∀ i, i < 53 → gPick narrow_1 (sPa i 2) = .arrayOf (sFd i) .byte := by decide +kernel
set_option maxRecDepth 100000 in
theorem gLe : ∀ i, i < 53 → gPick narrow_1 (sPa i 3) = .eq (.length (sFd i)) (.int (Int32.ofNat (SLEN.getD i 0))) := by decide +kernel
set_option maxRecDepth 100000 in
theorem gEl : ∀ i, i < 53 → ∀ j, j < SLEN.getD i 0 → gPick narrow_1 (sPa i (4 + j)) = .eq (.elem (sFd i) (.int (Int32.ofNat j))) (.int ((SBYT.getD i []).getD j 0)) := by decide +kernel
theorem gLn : ∀ i, i < 53 → SLEN.getD i 0 < 2 ^ 31 := by decide +kernel
theorem gDi : ∀ i, i < 53 → ∀ j, j < 53 → i ≠ j → SLEN.getD i 0 ≠ SLEN.getD j 0 ∨ ∃ k, k < SLEN.getD i 0 ∧ (SBYT.getD i []).getD k 0 ≠ (SBYT.getD j []).getD k 0 := by decide +kernel
set_option maxRecDepth 100000 in
theorem hAr : ∀ t, t < 5 → gPick narrow_1 (tPa t 0) = .arrayOf (tTm t) (.object "java/lang/String") := by decide +kernel
set_option maxRecDepth 100000 in
theorem hLe : ∀ t, t < 5 → gPick narrow_1 (tPa t 1) = .eq (.length (tTm t)) (.int (Int32.ofNat (sTab t).length)) := by decide +kernel
set_option maxRecDepth 100000 in
theorem hEl : ∀ t, t < 5 → ∀ j, j < (sTab t).length → gPick narrow_1 (tPa t (2 + j)) = .eq (.elem (tTm t) (.int (Int32.ofNat j))) (sTm ((sTab t).getD j 0)) ∧ (sTab t).getD j 0 < 53 := by decide +kernel
theorem hLn : ∀ t, t < 5 → (sTab t).length < 2 ^ 31 := by decide +kernel
theorem va_eqR2 {args : Array Value} {s : State} {t u : Term} {a : Nat} (h : (Cond.eq t u).before args s = true) (hu : u.eval args s none [] s = some (.ref a)) : t.eval args s none [] s = some (.ref a) := by
  cases ht : t.eval args s none [] s with
  | none => simp [Cond.before, Cond.holds, Cond.value, ht, hu] at h
  | some w =>
    simp only [Cond.before, Cond.holds, Cond.value, ht, hu] at h
    simp_all
theorem va_T_inj {ty : FieldType} {t N N2 : Nat} {f f2 : Nat → Value} {A : Nat → Prop} {U : State} {H : Heap} (hN : N < 2 ^ 31) (hN2 : N2 < 2 ^ 31) (h1 : va_T ty t N f A U H) (h2 : va_T ty t N2 f2 A U H) : N = N2 ∧ ∀ j, j < N → f j = f2 j := by
  obtain ⟨c1, a1, -, -, -, s1, e1, -⟩ := h1
  obtain ⟨c2, a2, -, -, -, s2, e2, -⟩ := h2
  cases Option.some.inj (a1.symm.trans a2)
  have hn : N = N2 := by
    have h3 := s1.symm.trans s2
    have h4 : (Int32.ofNat N).toInt = (Int32.ofNat N2).toInt := by rw [h3]
    rw [Int32.toInt_ofNat_of_lt hN, Int32.toInt_ofNat_of_lt hN2] at h4
    omega
  subst hn
  exact ⟨rfl, fun j hj => Option.some.inj ((e1 j hj).symm.trans (e2 j hj))⟩
theorem va_OF_inj {o n d : String} {v v2 : Value} {t : Nat} {A : Nat → Prop} {U : State} {H : Heap} (h1 : va_OF o n d v t A U H) (h2 : va_OF o n d v2 t A U H) : v = v2 := by
  obtain ⟨cf, k, i, f, c1, a1, -, b1, -, e1, -⟩ := h1
  obtain ⟨cf2, k2, i2, f2, c2, a2, -, b2, -, e2, -⟩ := h2
  cases Option.some.inj (a1.symm.trans a2)
  cases Option.some.inj (b1.symm.trans b2)
  exact Option.some.inj (e1.symm.trans e2)
/-- texts: their addresses, and what lies there -/
theorem gTexts {args : Array Value} {s : State} {A : Nat → Prop} (hn : narrow_1.before args s = true) (hA : ∀ a : Nat, a < s.heap.size → ¬ A a) : ∃ adK adV : Nat → Nat, vk_S 53 SLEN SBYT adK adV A s s.heap ∧ ∀ i : Nat, i < 71 → (sTm i).eval args s none [] s = some (.ref (adK i)) := by
  have hp := gPick_ok narrow_1 hn
  have h0 : ∀ i : Nat, ∃ q : Nat × Nat, (i < 71 → (sTm i).eval args s none [] s = some (.ref q.1)) ∧ (i < 53 → va_O "java/lang/String" q.1 A s s.heap ∧ va_OF "java/lang/String" "coder" "B" (.int 0) q.1 A s s.heap ∧ va_OF "java/lang/String" "value" "[B" (.ref q.2) q.1 A s s.heap ∧ va_T .byte q.2 (SLEN.getD i 0) (fun j => .int ((SBYT.getD i []).getD j 0)) A s s.heap) := by
    intro i
    by_cases hi : i < 71
    · obtain ⟨a, c, cA, kA, q1, q2, q3, q4, q5, q6, -⟩ := Cond.exactly_spec (args := args) (first := s) (o := none) (s := s) (idx := []) (t := sTm i) (cls := "java/lang/String") (by have := hp (sPa i 0); rw [gEx i hi] at this; exact this)
      by_cases h53 : i < 53
      · obtain ⟨t, ht, hT⟩ := va_Tof (f := fun j => .int ((SBYT.getD i []).getD j 0)) (A := A) (gLn i h53) (by have := hp (sPa i 2); rw [gAr i h53] at this; exact this) (va_eqt (by have := hp (sPa i 3); rw [gLe i h53] at this; exact this)) (fun j hj => va_eqt (by have := hp (sPa i (4 + j)); rw [gEl i h53 j hj] at this; exact this)) hA
        exact ⟨(a, t), fun _ => q1, fun _ => ⟨⟨cA, q3, q5, by rw [q6]; exact q2, hA a (Array.getElem?_eq_some_iff.mp q3).1⟩, vk_OFof q1 (va_eqt (by have := hp (sPa i 1); rw [gCo i h53] at this; exact this)) hA, vk_OFof q1 ht hA, hT⟩⟩
      · exact ⟨(a, 0), fun _ => q1, fun h => absurd h h53⟩
    · exact ⟨(0, 0), fun h => absurd h hi, fun h => absurd (Nat.lt_of_lt_of_le h (by decide)) hi⟩
  obtain ⟨ad, had⟩ := Classical.axiomOfChoice h0
  refine ⟨fun i => (ad i).1, fun i => (ad i).2, ⟨fun i hi => (had i).2 hi, fun i j hi hj e => ?_⟩, fun i hi => (had i).1 hi⟩
  by_cases hij : i = j
  · exact hij
  · exfalso
    obtain ⟨-, -, v1, t1⟩ := (had i).2 hi
    obtain ⟨-, -, v2, t2⟩ := (had j).2 hj
    have e : (ad i).1 = (ad j).1 := e
    rw [← e] at v2
    have ev : (ad i).2 = (ad j).2 := by
      have := va_OF_inj v1 v2
      cases this
      first | rfl | assumption
    rw [← ev] at t2
    obtain ⟨hn, hf⟩ := va_T_inj (gLn i hi) (gLn j hj) t1 t2
    rcases gDi i hi j hj hij with h | ⟨k, hk, h⟩
    · exact h hn
    · exact h (by have := hf k hk; injection this)

theorem gRefs : ∀ q ∈ SREF, Cond.stringRef q.1 q.2.1 q.2.2.1 ∈ lw_tbl := by decide +kernel
theorem gRix : ∀ i, i < 71 → ∀ q, SREF[i]? = some q → q.2.2.2 = i := by decide +kernel
theorem gNF : ∀ q ∈ NESTF, Cond.fieldLinkNest q.1 q.2.1 q.2.2.1 q.2.2.2.1 q.2.2.2.2.1 q.2.2.2.2.2 ∈ lw_tbl := by decide +kernel
theorem gNM : ∀ q ∈ NESTM, Cond.methodLinkNest q.1 q.2.1 q.2.2.1 q.2.2.2 ∈ lw_tbl := by decide +kernel
theorem gDe : ∀ y ∈ xDec, Cond.declares y ∈ lw_tbl := by decide +kernel
theorem gCa : ∀ k, k < 3 → Cond.castable (exN k) (exN k) ∈ lw_tbl := by decide +kernel
theorem gLs : ∀ q ∈ ([("java/lang/String", "COMPACT_STRINGS", "Z"), ("jdk/internal/util/Preconditions", "SIOOBE_FORMATTER", "Ljava/util/function/BiFunction;"), (Bundle.tN, "UNASSIGNED_STACK", Bundle.steD), (Bundle.tN, "SUPPRESSED_SENTINEL", Bundle.listD)] : List (String × String × String)), Cond.laysStatic q.1 q.2.1 q.2.2 ∈ lw_tbl ∧ Cond.initialized q.1 ∈ lw_tbl := by decide +kernel
theorem gLt : ∀ t, t < 5 → Cond.laysStatic RX11 (sNam t) "[Ljava/lang/String;" ∈ lw_tbl := by decide +kernel
theorem gIx : Cond.initialized RX11 ∈ lw_tbl := by decide +kernel
theorem gAO : Cond.arrayOver (.object "java/lang/String") ∈ lw_tbl ∧ Cond.arrayOver (.array .long) ∈ lw_tbl := by decide +kernel
set_option maxRecDepth 100000 in
theorem gG0 : gPick narrow_1 1280 = .eq (.static "java/lang/String" "COMPACT_STRINGS" "Z") (.int 1) := by decide +kernel
set_option maxRecDepth 100000 in
theorem gG1 : gPick narrow_1 1792 = .isRef (.static "jdk/internal/util/Preconditions" "SIOOBE_FORMATTER" "Ljava/util/function/BiFunction;") := by decide +kernel
set_option maxRecDepth 100000 in
theorem gG2 : gPick narrow_1 1920 = .isRef (.static Bundle.tN "UNASSIGNED_STACK" Bundle.steD) := by decide +kernel
set_option maxRecDepth 100000 in
theorem gG3 : gPick narrow_1 1088 = .isRef (.static Bundle.tN "SUPPRESSED_SENTINEL" Bundle.listD) := by decide +kernel
set_option maxRecDepth 100000 in
theorem gG4 : gPick narrow_1 1688 = .not (.castable (exN 0) (exN 1)) := by decide +kernel
set_option maxRecDepth 100000 in
theorem gG5 : gPick narrow_1 1848 = .not (.castable (exN 0) (exN 2)) := by decide +kernel
/-- all that is carried along holds at the start -/
theorem gStart {b : Nat} {s : State} {A : Nat → Prop} (hts : ∀ w ∈ lw_tbl, w.before #[Value.ref b] s = true) (hn : narrow_1.before #[Value.ref b] s = true) (hA : ∀ a : Nat, a < s.heap.size → ¬ A a) : ∃ adK adV tK : Nat → Nat, wKS adK adV tK A s := by
  obtain ⟨adK, adV, hS, hE⟩ := gTexts hn hA
  have hp := gPick_ok narrow_1 hn
  have g0 := hp 1280
  rw [gG0] at g0
  have g1 := hp 1792
  rw [gG1] at g1
  have g2 := hp 1920
  rw [gG2] at g2
  have g3 := hp 1088
  rw [gG3] at g3
  have g4 := hp 1688
  rw [gG4] at g4
  have g5 := hp 1848
  rw [gG5] at g5
  have hl := fun q hq => gLs q hq
  have hT : ∀ t : Nat, ∃ a : Nat, t < 5 → (va_Z RX11 (sNam t) "[Ljava/lang/String;" (.ref a) A s s.heap ∧ va_T (.object "java/lang/String") a (sTab t).length (fun j => .ref (adK ((sTab t).getD j 0))) A s s.heap) := by
    intro t
    by_cases h5 : t < 5
    · obtain ⟨a, e1, e2⟩ := va_Tof (tm := tTm t) (f := fun j => .ref (adK ((sTab t).getD j 0))) (A := A) (hLn t h5) (by have := hp (tPa t 0); rw [hAr t h5] at this; exact this) (va_eqt (by have := hp (tPa t 1); rw [hLe t h5] at this; exact this)) (fun j hj => by
        have h9 := hp (tPa t (2 + j))
        rw [(hEl t h5 j hj).1] at h9
        exact va_eqR2 h9 (hE _ (Nat.lt_of_lt_of_le (hEl t h5 j hj).2 (by decide)))) hA
      exact ⟨a, fun _ => ⟨va_Zof (hts _ (gLt t h5)) (hts _ gIx) e1 hA, e2⟩⟩
    · exact ⟨0, fun h => absurd h h5⟩
  obtain ⟨tK, htK⟩ := Classical.axiomOfChoice hT
  have hR : ∀ q ∈ SREF, vk_R q.1 q.2.1 q.2.2.1 (adK q.2.2.2) s := by
    intro q hq
    obtain ⟨i, hi⟩ := List.getElem?_of_mem hq
    have hlt : i < 71 := (List.getElem?_eq_some_iff.mp hi).1
    have he := hE i hlt
    have hx : sTm i = .string q.1 q.2.1 := by
      unfold sTm
      rw [List.getD_eq_getElem?_getD, hi]
      rfl
    rw [hx] at he
    rw [gRix i hlt q hi]
    exact ⟨va_tabs rfl rfl (hts _ (gRefs q hq)), he⟩
  refine ⟨adK, adV, tK, ⟨⟨⟨⟨⟨hS, hR, va_Zof (hts _ (hl _ (List.mem_of_getElem? (i := 0) rfl)).1) (hts _ (hl _ (List.mem_of_getElem? (i := 0) rfl)).2) (va_eqt g0) hA, va_Zqof (hts _ (hl _ (List.mem_of_getElem? (i := 1) rfl)).1) (hts _ (hl _ (List.mem_of_getElem? (i := 1) rfl)).2) g1 hA, fun t ht => htK t ht⟩, va_AO.of (hts _ gAO.1)⟩, fun q hq => va_Nw.of rfl (hts _ (gNF q hq)), fun q hq => va_Nw.of rfl (hts _ (gNM q hq))⟩, fun y hy => va_Nw.of rfl (hts _ (gDe y hy)), fun k hk => va_Nw.of rfl (hts _ (gCa k hk)), vx_Zqof (hts _ (hl _ (List.mem_of_getElem? (i := 2) rfl)).1) (hts _ (hl _ (List.mem_of_getElem? (i := 2) rfl)).2) g2 hA, vx_Zqof (hts _ (hl _ (List.mem_of_getElem? (i := 3) rfl)).1) (hts _ (hl _ (List.mem_of_getElem? (i := 3) rfl)).2) g3 hA⟩, over_moved (Vm.Alike.refl s.vm) (hts _ gAO.2)⟩, va_Nc.of g4, va_Nc.of g5⟩
