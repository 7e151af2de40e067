/-! the words stand in the tables -/
theorem ax_pk {ws : List Cond} {ps : List Nat} (hp : ws = ps.filterMap (fun i => lw_tbl[i]?)) (h : ws.all bx_gw = true) : ∀ w ∈ ws, w ∈ bx_TB := by
  intro w hw
  refine List.mem_filter.mpr ⟨?_, List.all_eq_true.mp h w hw⟩
  rw [hp] at hw
  obtain ⟨i, -, hi⟩ := List.mem_filterMap.mp hw
  exact List.mem_of_getElem? hi
theorem ax_wi_0 : ∀ w ∈ ax_wd_0, w ∈ bx_TB := ax_pk (ps := [304, 305, 151, 152, 245, 309, 313, 317, 320, 569, 306, 275, 285, 729, 730, 565, 564, 139, 684, 272, 688, 281, 266, 708, 704, 130, 705, 706, 707, 712]) (by decide +kernel) (by decide +kernel)
theorem ax_wi_1 : ∀ w ∈ ax_wd_1, w ∈ bx_TB := ax_pk (ps := [716, 696, 1026, 781, 777, 778, 779, 780, 659, 142, 782, 658, 803, 786, 258, 259, 274, 278, 284, 562, 260, 263, 269, 563, 193, 194, 475, 195, 196, 261]) (by decide +kernel) (by decide +kernel)
theorem ax_wi_2 : ∀ w ∈ ax_wd_2, w ∈ bx_TB := ax_pk (ps := [270, 479, 125, 476, 477, 478, 483, 126, 480, 482, 0, 170, 558, 555, 557, 5, 487, 484, 485, 486, 163, 550, 547, 548, 549, 554, 551, 553, 4, 265]) (by decide +kernel) (by decide +kernel)
theorem ax_wi_3 : ∀ w ∈ ax_wd_3, w ∈ bx_TB := ax_pk (ps := [276, 279, 286, 167, 338, 339, 342, 343, 1112, 340, 1113, 1038, 1050, 1053, 1051, 1052, 1057, 377, 378, 379, 380, 381, 724, 382, 301, 725, 303, 726, 727, 728]) (by decide +kernel) (by decide +kernel)
theorem ax_wi_4 : ∀ w ∈ ax_wd_4, w ∈ bx_TB := ax_pk (ps := [383, 731, 816, 834, 835, 836, 838, 840, 841, 842, 843, 845, 846, 847, 874, 878, 144, 875, 877, 26, 268, 264, 837, 839, 884, 141, 882, 883, 311, 881]) (by decide +kernel) (by decide +kernel)
theorem ax_wi_5 : ∀ w ∈ ax_wd_5, w ∈ bx_TB := ax_pk (ps := [879, 880, 888, 885, 887, 27, 899, 896, 898, 29, 903, 900, 902, 30, 314, 280, 893, 894, 760, 143, 889, 759, 890, 892, 28, 907, 904, 906, 31, 911]) (by decide +kernel) (by decide +kernel)
theorem ax_wi_6 : ∀ w ∈ ax_wd_6, w ∈ bx_TB := ax_pk (ps := [919, 927, 935, 939, 940, 941, 933, 934, 945, 942, 944, 32, 946, 954, 962, 966, 963, 965, 33, 663, 664, 665, 767, 770, 140, 768, 769, 773, 771, 772]) (by decide +kernel) (by decide +kernel)
theorem ax_wi_7 : ∀ w ∈ ax_wd_7, w ∈ bx_TB := ax_pk (ps := [206, 207, 214, 216, 577, 208, 211, 212, 215, 217, 218, 219, 209, 578, 171, 579, 583, 127, 580, 582, 6, 592, 589, 591, 8, 600, 597, 599, 10, 608]) (by decide +kernel) (by decide +kernel)
theorem ax_wi_8 : ∀ w ∈ ax_wd_8, w ∈ bx_TB := ax_pk (ps := [605, 607, 12, 632, 629, 631, 16, 644, 645, 646, 649, 647, 648, 661, 662, 587, 164, 584, 586, 7, 588, 213, 210, 168, 596, 593, 595, 9, 604, 601]) (by decide +kernel) (by decide +kernel)
theorem ax_wi_9 : ∀ w ∈ ax_wd_9, w ∈ bx_TB := ax_pk (ps := [603, 11, 611, 609, 610, 615, 612, 614, 13, 625, 622, 624, 15, 640, 637, 639, 18, 636, 633, 635, 17, 628, 626, 627, 621, 618, 620, 14, 616, 252]) (by decide +kernel) (by decide +kernel)
theorem ax_wi_10 : ∀ w ∈ ax_wd_10, w ∈ bx_TB := ax_pk (ps := [253, 254, 255, 129, 256, 257, 351, 300, 302, 353, 334, 335, 131, 336, 337, 355, 357, 1106, 1107, 560, 561, 1108, 1109, 1110, 1111, 359, 157, 158, 188, 159]) (by decide +kernel) (by decide +kernel)
theorem ax_wi_11 : ∀ w ∈ ax_wd_11, w ∈ bx_TB := ax_pk (ps := [463, 161, 162, 172, 166, 165, 490, 488, 489, 494, 491, 493, 1, 538, 536, 537, 542, 539, 541, 2, 546, 543, 545, 3, 496, 169, 396, 397, 405, 398]) (by decide +kernel) (by decide +kernel)
theorem ax_wi_12 : ∀ w ∈ ax_wd_12, w ∈ bx_TB := ax_pk (ps := [399, 743, 746, 133, 744, 745, 751, 748, 750, 22, 310, 757, 686, 687, 774, 775, 776, 783, 784, 785, 307, 271, 747, 752, 702, 703, 756, 753, 755, 23]) (by decide +kernel) (by decide +kernel)
theorem ax_wi_13 : ∀ w ∈ ax_wd_13, w ∈ bx_TB := ax_pk (ps := [758, 764, 765, 766, 315, 282, 318, 321, 149, 150, 153, 154, 155, 156, 410, 189, 190, 191, 192, 411, 202, 203, 204, 205, 412, 246, 247, 413, 248, 249]) (by decide +kernel) (by decide +kernel)
theorem ax_wi_14 : ∀ w ∈ ax_wd_14, w ∈ bx_TB := ax_pk (ps := [128, 250, 251, 415, 372, 416, 373, 374, 132, 375, 376, 417, 392, 393, 394, 395, 418, 406, 407, 419, 408, 409, 420, 421, 422, 423, 414, 424, 459, 160]) (by decide +kernel) (by decide +kernel)
theorem ax_wi_15 : ∀ w ∈ ax_wd_15, w ∈ bx_TB := ax_pk (ps := [460, 461, 462, 467, 471, 472, 473, 474, 352, 559, 354, 566, 567, 568, 356, 341, 384, 273, 573, 574, 575, 576, 641, 642, 643, 672, 358, 676, 680, 124]) (by decide +kernel) (by decide +kernel)
theorem ax_wi_16 : ∀ w ∈ ax_wd_16, w ∈ bx_TB := ax_pk (ps := [677, 679, 19, 681, 682, 683, 316, 283, 319, 685, 322, 692, 262, 693, 694, 695, 700, 267, 308, 701, 709, 710, 711, 713, 714, 715, 360, 720, 721, 722]) (by decide +kernel) (by decide +kernel)
theorem ax_wi_17 : ∀ w ∈ ax_wd_17, w ∈ bx_TB := ax_pk (ps := [723, 735, 732, 734, 20, 740, 741, 742, 790, 791, 795, 799, 800, 801, 802, 807, 808, 812, 813, 814, 815, 820, 824, 821, 823, 24, 829, 826, 828, 25]) (by decide +kernel) (by decide +kernel)
theorem ax_wi_18 : ∀ w ∈ ax_wd_18, w ∈ bx_TB := ax_pk (ps := [908, 909, 910, 844, 915, 916, 917, 918, 923, 924, 925, 926, 931, 932, 936, 937, 938, 950, 951, 952, 953, 958, 959, 960, 961, 970, 974, 971, 973, 34]) (by decide +kernel) (by decide +kernel)
theorem ax_wi_19 : ∀ w ∈ ax_wd_19, w ∈ bx_TB := ax_pk (ps := [978, 979, 983, 980, 982, 35, 987, 991, 995, 999, 996, 998, 36, 1003, 1007, 1004, 1006, 37, 1018, 1015, 1017, 39, 1010, 1008, 1009, 1022, 1023, 1024, 1025, 1030]) (by decide +kernel) (by decide +kernel)
theorem ax_wi_20 : ∀ w ∈ ax_wd_20, w ∈ bx_TB := ax_pk (ps := [1034, 1035, 1036, 1037, 1042, 1046, 1043, 1045, 40, 1061, 277, 1065, 739, 736, 738, 21, 1069, 1070, 1074, 1071, 1073, 41, 1078, 1075, 1077, 42, 1083, 1087, 1091, 1088]) (by decide +kernel) (by decide +kernel)
theorem ax_wi_21 : ∀ w ∈ ax_wd_21, w ∈ bx_TB := ax_pk (ps := [1090, 43, 1102, 1103, 1104, 1105, 1117, 825, 830, 831, 832, 833, 871, 872, 873, 312, 1014, 1011, 1013, 38, 1047, 1048, 1049, 1054, 1055, 1056, 1079, 1094, 1095, 1096]) (by decide +kernel) (by decide +kernel)
theorem ax_wi_22 : ∀ w ∈ ax_wd_22, w ∈ bx_TB := ax_pk (ps := [1097, 1092, 1093, 1098, 1122, 1123, 1124, 1127, 1128, 1129, 1130, 1131, 1139, 1141, 1143, 1144, 1145, 1147, 1149, 1150, 1151, 1152, 1156, 1157, 1158, 1251, 1159, 1160, 1162, 1163]) (by decide +kernel) (by decide +kernel)
theorem ax_wi_23 : ∀ w ∈ ax_wd_23, w ∈ bx_TB := ax_pk (ps := [1164, 1165, 1321, 1556, 1496, 1259, 1125, 1255, 134, 1256, 1258, 44, 1263, 1294, 1133, 1279, 1132, 1318, 1288, 1284, 1276, 1278, 47, 1285, 1287, 49, 1306, 1367, 1281, 1283]) (by decide +kernel) (by decide +kernel)
theorem ax_wi_24 : ∀ w ∈ ax_wd_24, w ∈ bx_TB := ax_pk (ps := [48, 1303, 1305, 53, 1314, 1315, 1317, 56, 1291, 1293, 50, 1134, 1319, 1320, 1354, 1289, 1355, 1356, 1290, 1357, 1358, 1359, 1360, 1361, 1362, 1350, 1135, 1346, 1136, 1380]) (by decide +kernel) (by decide +kernel)
theorem ax_wi_25 : ∀ w ∈ ax_wd_25, w ∈ bx_TB := ax_pk (ps := [1137, 1140, 1395, 1392, 1393, 1394, 1347, 1349, 63, 1341, 1342, 1311, 1313, 55, 1343, 1345, 62, 1351, 1353, 64, 1337, 1338, 1340, 61, 1333, 1334, 1336, 60, 1384, 1330]) (by decide +kernel) (by decide +kernel)
theorem ax_wi_26 : ∀ w ∈ ax_wd_26, w ∈ bx_TB := ax_pk (ps := [1332, 59, 1375, 1376, 1377, 1379, 68, 1381, 1383, 69, 1399, 1388, 1389, 1391, 71, 1396, 1398, 72, 1371, 1372, 1374, 67, 1385, 1387, 70, 1400, 1401, 1329, 1363, 1364]) (by decide +kernel) (by decide +kernel)
theorem ax_wi_27 : ∀ w ∈ ax_wd_27, w ∈ bx_TB := ax_pk (ps := [1366, 65, 1368, 1370, 66, 1310, 1302, 1307, 1309, 54, 1325, 1298, 1280, 1299, 1301, 52, 1322, 1324, 57, 1275, 1138, 1295, 1297, 51, 1326, 1328, 58, 1271, 1272, 1274]) (by decide +kernel) (by decide +kernel)
theorem ax_wi_28 : ∀ w ∈ ax_wd_28, w ∈ bx_TB := ax_pk (ps := [46, 1267, 1126, 1268, 1270, 45, 1405, 1409, 1406, 1408, 73, 1148, 1417, 1508, 1142, 1512, 1515, 1504, 1505, 1507, 92, 1509, 1511, 93, 1513, 1514, 1457, 1425, 1429, 1433]) (by decide +kernel) (by decide +kernel)
theorem ax_wi_29 : ∀ w ∈ ax_wd_29, w ∈ bx_TB := ax_pk (ps := [1437, 1449, 1445, 1434, 1436, 78, 1441, 1442, 1444, 80, 1426, 1428, 76, 1485, 1422, 1424, 75, 1430, 1432, 77, 1438, 1440, 79, 1493, 1482, 1484, 87, 1646, 1446, 1448]) (by decide +kernel) (by decide +kernel)
theorem ax_wi_30 : ∀ w ∈ ax_wd_30, w ∈ bx_TB := ax_pk (ps := [81, 1461, 1413, 1414, 1416, 74, 1421, 1453, 1454, 1456, 82, 1458, 1460, 83, 1500, 1501, 1503, 91, 1489, 1490, 1492, 89, 1494, 1495, 1497, 1499, 90, 1481, 1486, 1488]) (by decide +kernel) (by decide +kernel)
theorem ax_wi_31 : ∀ w ∈ ax_wd_31, w ∈ bx_TB := ax_pk (ps := [88, 1523, 1519, 1520, 1522, 95, 1477, 1478, 1480, 86, 1516, 1518, 94, 1642, 1474, 1476, 85, 1473, 1465, 1469, 1470, 1472, 84, 1527, 1531, 1532, 1541, 1536, 1537, 1538]) (by decide +kernel) (by decide +kernel)
theorem ax_wi_32 : ∀ w ∈ ax_wd_32, w ∈ bx_TB := ax_pk (ps := [1540, 96, 1545, 1563, 1560, 1561, 1562, 1575, 1554, 1555, 1591, 1587, 1588, 1590, 105, 1557, 1559, 98, 1612, 1572, 1574, 101, 1583, 1571, 1153, 1579, 1567, 1568, 1570, 100]) (by decide +kernel) (by decide +kernel)
theorem ax_wi_33 : ∀ w ∈ ax_wd_33, w ∈ bx_TB := ax_pk (ps := [1576, 1578, 102, 1580, 1582, 103, 1553, 1549, 1550, 1552, 97, 1564, 1566, 99, 1584, 1586, 104, 1599, 1154, 1155, 1595, 1596, 1598, 106, 1603, 1604, 1608, 1609, 1611, 107]) (by decide +kernel) (by decide +kernel)
theorem ax_wi_34 : ∀ w ∈ ax_wd_34, w ∈ bx_TB := ax_pk (ps := [1616, 1624, 1620, 1621, 1623, 108, 1628, 1638, 1650, 1632, 1633, 1634, 1635, 1637, 109, 1639, 1641, 110, 1643, 1645, 111, 1647, 1649, 112, 1654, 1658, 1667, 1662, 1663, 1664]) (by decide +kernel) (by decide +kernel)
theorem ax_wi_35 : ∀ w ∈ ax_wd_35, w ∈ bx_TB := ax_pk (ps := [1666, 113, 1679, 1675, 1671, 1672, 1674, 114, 1676, 1678, 115, 1687, 1683, 1684, 1686, 116, 1691, 1692, 1696, 1697, 1713, 1709, 1710, 1712, 119, 1705, 1706, 1708, 118, 1701]) (by decide +kernel) (by decide +kernel)
theorem ax_wi_36 : ∀ w ∈ ax_wd_36, w ∈ bx_TB := ax_pk (ps := [1702, 1704, 117, 1721, 1717, 1718, 1720, 120, 1729, 1725, 1726, 1728, 121, 1733, 1737, 1146, 1746, 1161, 1747, 1748, 1749, 1750, 1741, 1742, 1743, 1745, 122, 1754, 1758, 1759]) (by decide +kernel) (by decide +kernel)
theorem ax_wi_37 : ∀ w ∈ ax_wd_37, w ∈ bx_TB := ax_pk (ps := [1763, 761, 762, 763, 657, 660, 145, 146, 147, 148, 1118, 1119, 1120, 1121, 456, 457, 458, 1252, 1253, 1254, 464, 465, 466, 1260, 1261, 1262, 468, 469, 470, 1402]) (by decide +kernel) (by decide +kernel)
theorem ax_wi_38 : ∀ w ∈ ax_wd_38, w ∈ bx_TB := ax_pk (ps := [1403, 1404, 570, 571, 572, 1264, 1265, 1266, 669, 670, 671, 1410, 1411, 1412, 673, 674, 675, 1418, 1419, 1420, 689, 690, 691, 1450, 1451, 1452, 717, 718, 719, 1466]) (by decide +kernel) (by decide +kernel)
theorem ax_wi_39 : ∀ w ∈ ax_wd_39, w ∈ bx_TB := ax_pk (ps := [1467, 1468, 787, 788, 789, 1524, 1525, 1526, 792, 793, 794, 1528, 1529, 1530, 796, 797, 798, 1533, 1534, 1535, 804, 805, 806, 1542, 1543, 1544, 809, 810, 811, 1462]) (by decide +kernel) (by decide +kernel)
theorem ax_wi_40 : ∀ w ∈ ax_wd_40, w ∈ bx_TB := ax_pk (ps := [1463, 1464, 817, 818, 819, 1546, 1547, 1548, 912, 913, 914, 1592, 1593, 1594, 920, 921, 922, 1600, 1601, 1602, 928, 929, 930, 1605, 1606, 1607, 947, 948, 949, 1613]) (by decide +kernel) (by decide +kernel)
theorem ax_wi_41 : ∀ w ∈ ax_wd_41, w ∈ bx_TB := ax_pk (ps := [1614, 1615, 955, 956, 957, 1617, 1618, 1619, 967, 968, 969, 1625, 1626, 1627, 975, 976, 977, 1629, 1630, 1631, 984, 985, 986, 1651, 1652, 1653, 988, 989, 990, 1655]) (by decide +kernel) (by decide +kernel)
theorem ax_wi_42 : ∀ w ∈ ax_wd_42, w ∈ bx_TB := ax_pk (ps := [1656, 1657, 992, 993, 994, 1659, 1660, 1661, 1039, 1040, 1041, 1722, 1723, 1724, 1058, 1059, 1060, 1730, 1731, 1732, 1000, 1001, 1002, 1668, 1669, 1670, 1019, 1020, 1021, 1680]) (by decide +kernel) (by decide +kernel)
theorem ax_wi_43 : ∀ w ∈ ax_wd_43, w ∈ bx_TB := ax_pk (ps := [1681, 1682, 1027, 1028, 1029, 1688, 1689, 1690, 1031, 1032, 1033, 1693, 1694, 1695, 1062, 1063, 1064, 1698, 1699, 1700, 1066, 1067, 1068, 1714, 1715, 1716, 1080, 1081, 1082, 1734]) (by decide +kernel) (by decide +kernel)
theorem ax_wi_44 : ∀ w ∈ ax_wd_44, w ∈ bx_TB := ax_pk (ps := [1735, 1736, 1084, 1085, 1086, 1738, 1739, 1740, 697, 698, 699, 1751, 1752, 1753, 1099, 1100, 1101, 1755, 1756, 1757, 1114, 1115, 1116, 1760, 1761, 1762]) (by decide +kernel) (by decide +kernel)
theorem ax_word_in (k : Nat) : ax_word k ∈ bx_TB := by
  have h0 : Cond.initialized "LeapLane" ∈ bx_TB := ax_pk (ws := [Cond.initialized "LeapLane"]) (ps := [124]) (by decide +kernel) (by decide +kernel) _ List.mem_cons_self
  have h1 : ∀ l ∈ ax_wds, ∀ w ∈ l, w ∈ bx_TB := by
    intro l hl w hw
    simp only [ax_wds, List.mem_cons, List.not_mem_nil, or_false] at hl
    rcases hl with rfl | rfl | rfl | rfl | rfl | rfl | rfl | rfl | rfl | rfl | rfl | rfl | rfl | rfl | rfl | rfl | rfl | rfl | rfl | rfl | rfl | rfl | rfl | rfl | rfl | rfl | rfl | rfl | rfl | rfl | rfl | rfl | rfl | rfl | rfl | rfl | rfl | rfl | rfl | rfl | rfl | rfl | rfl | rfl | rfl
    · exact ax_wi_0 w hw
    · exact ax_wi_1 w hw
    · exact ax_wi_2 w hw
    · exact ax_wi_3 w hw
    · exact ax_wi_4 w hw
    · exact ax_wi_5 w hw
    · exact ax_wi_6 w hw
    · exact ax_wi_7 w hw
    · exact ax_wi_8 w hw
    · exact ax_wi_9 w hw
    · exact ax_wi_10 w hw
    · exact ax_wi_11 w hw
    · exact ax_wi_12 w hw
    · exact ax_wi_13 w hw
    · exact ax_wi_14 w hw
    · exact ax_wi_15 w hw
    · exact ax_wi_16 w hw
    · exact ax_wi_17 w hw
    · exact ax_wi_18 w hw
    · exact ax_wi_19 w hw
    · exact ax_wi_20 w hw
    · exact ax_wi_21 w hw
    · exact ax_wi_22 w hw
    · exact ax_wi_23 w hw
    · exact ax_wi_24 w hw
    · exact ax_wi_25 w hw
    · exact ax_wi_26 w hw
    · exact ax_wi_27 w hw
    · exact ax_wi_28 w hw
    · exact ax_wi_29 w hw
    · exact ax_wi_30 w hw
    · exact ax_wi_31 w hw
    · exact ax_wi_32 w hw
    · exact ax_wi_33 w hw
    · exact ax_wi_34 w hw
    · exact ax_wi_35 w hw
    · exact ax_wi_36 w hw
    · exact ax_wi_37 w hw
    · exact ax_wi_38 w hw
    · exact ax_wi_39 w hw
    · exact ax_wi_40 w hw
    · exact ax_wi_41 w hw
    · exact ax_wi_42 w hw
    · exact ax_wi_43 w hw
    · exact ax_wi_44 w hw
  unfold ax_word
  have key : ∀ (l : List Cond), (∀ w ∈ l, w ∈ bx_TB) → ∀ i, l.getD i (Cond.initialized "LeapLane") ∈ bx_TB := by
    intro l hl i
    rw [List.getD_eq_getElem?_getD]
    cases e : l[i]? with
    | none => exact h0
    | some w => exact hl w (List.mem_of_getElem? e)
  refine key _ (fun w hw => ?_) _
  rw [List.getD_eq_getElem?_getD] at hw
  cases e : ax_wds[k / 30]? with
  | none => rw [e] at hw; cases hw
  | some l => rw [e] at hw; exact h1 l (List.mem_of_getElem? e) w hw
