theorem mem_r {big ws : List Cond} (ps : List Nat) (hp : ws = ps.filterMap (fun i => big[i]?)) : ∀ w ∈ ws, w ∈ big := by
  intro w hw
  rw [hp] at hw
  obtain ⟨i, -, hi⟩ := List.mem_filterMap.mp hw
  first | exact List.mem_of_getElem? hi | exact List.getElem?_mem hi
set_option maxRecDepth 100000 in
theorem wlr_1 : ∀ w ∈ wsL_law_r1, w ∈ lw_tbl := mem_r [127, 128, 108, 1162, 1163, 124, 129, 130, 131, 132, 133, 134, 242, 561, 135, 136, 109, 563, 350, 245, 115, 564, 565, 352] (by decide +kernel)
set_option maxRecDepth 100000 in
theorem wlr_2 : ∀ w ∈ wsL_law_r2, w ∈ lw_tbl := mem_r [353, 116, 566, 397, 399, 118, 567, 418, 419, 119, 568, 431, 432, 120, 569, 447, 448, 121, 570, 483, 484, 122, 571, 572] (by decide +kernel)
set_option maxRecDepth 100000 in
theorem wlr_3 : ∀ w ∈ wsL_law_r3, w ∈ lw_tbl := mem_r [573, 531, 532, 123, 575, 334, 576, 578, 138, 139, 140, 141, 142, 110, 336, 244, 338, 243, 339, 340, 144, 145, 146, 204] (by decide +kernel)
set_option maxRecDepth 100000 in
theorem wlr_4 : ∀ w ∈ wsL_law_r4, w ∈ lw_tbl := mem_r [205, 219, 148, 149, 150, 151, 152, 153, 111, 154, 1815, 155, 156, 157, 158, 159, 1816, 161, 162, 163, 164, 165, 166, 167] (by decide +kernel)
set_option maxRecDepth 100000 in
theorem wlr_5 : ∀ w ∈ wsL_law_r5, w ∈ lw_tbl := mem_r [168, 169, 170, 112, 171, 172, 173, 174, 175, 177, 178, 113, 179, 180, 181, 114, 182, 183, 184, 185, 186, 187, 188, 189] (by decide +kernel)
set_option maxRecDepth 100000 in
theorem wlr_6 : ∀ w ∈ wsL_law_r6, w ∈ lw_tbl := mem_r [190, 191, 192, 193, 195, 197, 246, 247, 248, 249, 255, 257, 335, 263, 265, 273, 275, 282, 286, 299, 290, 351, 354, 355] (by decide +kernel)
set_option maxRecDepth 100000 in
theorem wlr_7 : ∀ w ∈ wsL_law_r7, w ∈ lw_tbl := mem_r [356, 357, 361, 367, 370, 371, 372, 373, 358, 359, 117, 360, 401, 402, 403, 406, 408, 421, 422, 423, 424, 425, 434, 435] (by decide +kernel)
set_option maxRecDepth 100000 in
theorem wlr_8 : ∀ w ∈ wsL_law_r8, w ∈ lw_tbl := mem_r [436, 437, 439, 450, 451, 452, 453, 455, 456, 459, 486, 487, 488, 494, 496, 498, 501, 534, 535, 536, 541, 542, 543, 544] (by decide +kernel)
set_option maxRecDepth 100000 in
theorem wlr_9 : ∀ w ∈ wsL_law_r9, w ∈ lw_tbl := mem_r [545, 1164, 1165, 1166, 1167, 1180, 1181, 1185, 1191, 1192, 1193, 1194, 1195, 1196, 1197, 1198, 1199, 1200, 1201, 1202, 1203, 1204, 1205, 1206] (by decide +kernel)
set_option maxRecDepth 100000 in
theorem wlr_10 : ∀ w ∈ wsL_law_r10, w ∈ lw_tbl := mem_r [1207, 1208, 1211, 1212, 1213, 1214, 1215, 1216, 1217, 1218, 1220, 1221, 1224, 1225, 1226, 1227, 1232, 1233, 1234, 1238, 1240, 1241, 1242, 1243] (by decide +kernel)
set_option maxRecDepth 100000 in
theorem wlr_11 : ∀ w ∈ wsL_law_r11, w ∈ lw_tbl := mem_r [1244, 1245, 1248, 1249, 1250, 1168, 1170, 45, 1171, 1210, 1172, 1174, 46, 1175, 1219, 1222, 1223, 1176, 1178, 47, 1179, 1209, 616, 617] (by decide +kernel)
set_option maxRecDepth 100000 in
theorem wlr_12 : ∀ w ∈ wsL_law_r12, w ∈ lw_tbl := mem_r [618, 619, 562, 620, 622, 0, 623, 1807, 1808, 1809, 1810, 1182, 624, 625, 626, 627, 1811, 1812, 1813, 1814, 628, 629, 630, 631] (by decide +kernel)
set_option maxRecDepth 100000 in
theorem wlr_13 : ∀ w ∈ wsL_law_r13, w ∈ lw_tbl := mem_r [254, 632, 633, 634, 635, 216, 210, 636, 637, 638, 639, 250, 260, 268, 279, 295, 297, 640, 641, 642, 643, 644, 645, 646] (by decide +kernel)
set_option maxRecDepth 100000 in
theorem wlr_14 : ∀ w ∈ wsL_law_r14, w ∈ lw_tbl := mem_r [125, 647, 206, 207, 217, 648, 649, 650, 651, 208, 211, 652, 654, 1, 655, 213, 656, 658, 2, 659, 214, 660, 661, 662] (by decide +kernel)
set_option maxRecDepth 100000 in
theorem wlr_15 : ∀ w ∈ wsL_law_r15, w ∈ lw_tbl := mem_r [663, 664, 666, 3, 667, 252, 212, 258, 256, 668, 670, 4, 671, 672, 674, 5, 675, 676, 677, 678, 680, 6, 681, 682] (by decide +kernel)
set_option maxRecDepth 100000 in
theorem wlr_16 : ∀ w ∈ wsL_law_r16, w ∈ lw_tbl := mem_r [683, 684, 685, 686, 688, 7, 689, 215, 690, 692, 8, 693, 694, 696, 9, 697, 261, 264, 267, 698, 700, 10, 701, 702] (by decide +kernel)
set_option maxRecDepth 100000 in
theorem wlr_17 : ∀ w ∈ wsL_law_r17, w ∈ lw_tbl := mem_r [704, 11, 705, 706, 707, 708, 709, 710, 712, 12, 713, 271, 274, 278, 280, 714, 716, 13, 717, 209, 285, 718, 720, 14] (by decide +kernel)
set_option maxRecDepth 100000 in
theorem wlr_18 : ∀ w ∈ wsL_law_r18, w ∈ lw_tbl := mem_r [721, 296, 293, 722, 724, 15, 725, 298, 300, 726, 728, 16, 729, 730, 732, 17, 733, 289, 734, 736, 18, 737, 405, 574] (by decide +kernel)
set_option maxRecDepth 100000 in
theorem wlr_19 : ∀ w ∈ wsL_law_r19, w ∈ lw_tbl := mem_r [538, 577, 738, 739, 740, 741, 364, 742, 743, 744, 745, 374, 376, 746, 747, 748, 749, 438, 750, 751, 752, 753, 504, 754] (by decide +kernel)
set_option maxRecDepth 100000 in
theorem wlr_20 : ∀ w ∈ wsL_law_r20, w ∈ lw_tbl := mem_r [755, 756, 757, 458, 1394, 1395, 1396, 1397, 1184, 1183, 1187, 1188, 1231, 1246, 1239, 1398, 1400, 48, 1401, 1186, 1190, 1189, 1402, 1404] (by decide +kernel)
set_option maxRecDepth 100000 in
theorem wlr_21 : ∀ w ∈ wsL_law_r21, w ∈ lw_tbl := mem_r [49, 1405, 1406, 1407, 1408, 1409, 1410, 1411, 1412, 1413, 1414, 1415, 1416, 1417, 1418, 1419, 1420, 1421, 1423, 50, 1424, 1425, 1427, 51] (by decide +kernel)
set_option maxRecDepth 100000 in
theorem wlr_22 : ∀ w ∈ wsL_law_r22, w ∈ lw_tbl := mem_r [1428, 1429, 1431, 52, 1432, 1433, 1435, 53, 1436, 1437, 1439, 54, 1440, 1441, 1443, 55, 1444, 1445, 1447, 56, 1448, 1449, 1451, 57] (by decide +kernel)
set_option maxRecDepth 100000 in
theorem wlr_23 : ∀ w ∈ wsL_law_r23, w ∈ lw_tbl := mem_r [1452, 1453, 1455, 58, 1456, 1457, 1459, 59, 1460, 1461, 1463, 60, 1464, 1465, 1467, 61, 1468, 1469, 1471, 62, 1472, 1473, 1475, 63] (by decide +kernel)
set_option maxRecDepth 100000 in
theorem wlr_24 : ∀ w ∈ wsL_law_r24, w ∈ lw_tbl := mem_r [1476, 1477, 1479, 64, 1480, 1481, 1483, 65, 1484, 1485, 1487, 66, 1488, 1489, 1491, 67, 1492, 1493, 1495, 68, 1496, 758, 759, 760] (by decide +kernel)
set_option maxRecDepth 100000 in
theorem wlr_25 : ∀ w ∈ wsL_law_r25, w ∈ lw_tbl := mem_r [761, 337, 218, 220, 1497, 1498, 1499, 1500, 762, 763, 764, 765, 259, 770, 766, 767, 768, 769, 1501, 1502, 1503, 1504, 1515, 1505] (by decide +kernel)
set_option maxRecDepth 100000 in
theorem wlr_26 : ∀ w ∈ wsL_law_r26, w ∈ lw_tbl := mem_r [1507, 69, 1508, 1509, 1510, 1511, 1512, 1513, 1514, 771, 772, 773, 774, 266, 1516, 1517, 1518, 1519, 1520, 1522, 70, 1523, 775, 776] (by decide +kernel)
set_option maxRecDepth 100000 in
theorem wlr_27 : ∀ w ∈ wsL_law_r27, w ∈ lw_tbl := mem_r [777, 778, 779, 780, 781, 782, 783, 785, 19, 786, 369, 787, 788, 789, 790, 1524, 1525, 1526, 1527, 1528, 1530, 71, 1531, 1532] (by decide +kernel)
set_option maxRecDepth 100000 in
theorem wlr_28 : ∀ w ∈ wsL_law_r28, w ∈ lw_tbl := mem_r [1534, 72, 1535, 791, 792, 793, 794, 366, 795, 797, 20, 798, 363, 799, 800, 801, 802, 803, 805, 21, 806, 269, 277, 807] (by decide +kernel)
set_option maxRecDepth 100000 in
theorem wlr_29 : ∀ w ∈ wsL_law_r29, w ∈ lw_tbl := mem_r [809, 22, 810, 811, 812, 814, 23, 815, 284, 288, 816, 817, 818, 819, 820, 291, 251, 821, 823, 822, 126, 824, 825, 826] (by decide +kernel)
set_option maxRecDepth 100000 in
theorem wlr_30 : ∀ w ∈ wsL_law_r30, w ∈ lw_tbl := mem_r [827, 828, 830, 24, 831, 832, 834, 25, 835, 836, 837, 838, 839, 1596, 1597, 1598, 1599, 1544, 1546, 73, 1547, 1548, 1550, 74] (by decide +kernel)
set_option maxRecDepth 100000 in
theorem wlr_31 : ∀ w ∈ wsL_law_r31, w ∈ lw_tbl := mem_r [1551, 1552, 1554, 75, 1555, 1556, 1558, 76, 1559, 1560, 1562, 77, 1563, 1564, 1566, 78, 1567, 1568, 1570, 79, 1571, 1600, 1602, 83] (by decide +kernel)
set_option maxRecDepth 100000 in
theorem wlr_32 : ∀ w ∈ wsL_law_r32, w ∈ lw_tbl := mem_r [1603, 840, 841, 842, 843, 844, 846, 26, 847, 848, 849, 850, 851, 1604, 1605, 1606, 1607, 852, 853, 854, 855, 856, 857, 858] (by decide +kernel)
set_option maxRecDepth 100000 in
theorem wlr_33 : ∀ w ∈ wsL_law_r33, w ∈ lw_tbl := mem_r [859, 1608, 1609, 1610, 1611, 1612, 1614, 84, 1615, 860, 861, 862, 863, 864, 1616, 1617, 1618, 1619, 865, 866, 867, 868, 1620, 1621] (by decide +kernel)
set_option maxRecDepth 100000 in
theorem wlr_34 : ∀ w ∈ wsL_law_r34, w ∈ lw_tbl := mem_r [1622, 1623, 869, 870, 871, 872, 1536, 1537, 1538, 1539, 873, 874, 875, 876, 1540, 1541, 1542, 1543, 877, 878, 879, 880, 881, 882] (by decide +kernel)
set_option maxRecDepth 100000 in
theorem wlr_35 : ∀ w ∈ wsL_law_r35, w ∈ lw_tbl := mem_r [883, 884, 270, 885, 887, 27, 888, 276, 893, 894, 895, 896, 889, 891, 28, 892, 287, 283, 1572, 1573, 1574, 1575, 1576, 1578] (by decide +kernel)
set_option maxRecDepth 100000 in
theorem wlr_36 : ∀ w ∈ wsL_law_r36, w ∈ lw_tbl := mem_r [80, 1579, 1580, 1582, 81, 1583, 1584, 1585, 1586, 1587, 897, 898, 899, 900, 901, 902, 903, 904, 905, 906, 907, 908, 1588, 1589] (by decide +kernel)
set_option maxRecDepth 100000 in
theorem wlr_37 : ∀ w ∈ wsL_law_r37, w ∈ lw_tbl := mem_r [1590, 1591, 1592, 1594, 82, 1595, 909, 910, 911, 912, 500, 913, 915, 29, 916, 917, 918, 919, 920, 505, 506, 507, 292, 503] (by decide +kernel)
set_option maxRecDepth 100000 in
theorem wlr_38 : ∀ w ∈ wsL_law_r38, w ∈ lw_tbl := mem_r [492, 489, 921, 923, 30, 924, 925, 926, 927, 929, 31, 930, 253, 931, 932, 934, 32, 935, 936, 937, 939, 33, 940, 941] (by decide +kernel)
set_option maxRecDepth 100000 in
theorem wlr_39 : ∀ w ∈ wsL_law_r39, w ∈ lw_tbl := mem_r [942, 943, 944, 945, 946, 947, 948, 949, 951, 34, 952, 294, 454, 953, 954, 955, 956, 490, 495, 957, 959, 35, 960, 961] (by decide +kernel)
set_option maxRecDepth 100000 in
theorem wlr_40 : ∀ w ∈ wsL_law_r40, w ∈ lw_tbl := mem_r [962, 963, 964, 965, 967, 36, 968, 497, 499, 463, 981, 969, 971, 37, 972, 462, 973, 975, 38, 976, 460, 461, 977, 978] (by decide +kernel)
set_option maxRecDepth 100000 in
theorem wlr_41 : ∀ w ∈ wsL_law_r41, w ∈ lw_tbl := mem_r [979, 980, 982, 984, 39, 985, 986, 1628, 1629, 1630, 1631, 1632, 1634, 85, 1635, 1636, 1638, 86, 1639, 1230, 1228, 1229, 1640, 1642] (by decide +kernel)
set_option maxRecDepth 100000 in
theorem wlr_42 : ∀ w ∈ wsL_law_r42, w ∈ lw_tbl := mem_r [87, 1643, 1644, 1645, 1646, 1648, 88, 1649, 1650, 1652, 89, 1653, 1654, 1656, 90, 1657, 1658, 1660, 91, 1661, 1662, 1664, 92, 1665] (by decide +kernel)
set_option maxRecDepth 100000 in
theorem wlr_43 : ∀ w ∈ wsL_law_r43, w ∈ lw_tbl := mem_r [1666, 1668, 93, 1669, 1670, 1672, 94, 1673, 1674, 1676, 95, 1677, 1235, 1236, 1237, 1678, 1680, 96, 1681, 1682, 1684, 97, 1685, 1686] (by decide +kernel)
set_option maxRecDepth 100000 in
theorem wlr_44 : ∀ w ∈ wsL_law_r44, w ∈ lw_tbl := mem_r [1688, 98, 1689, 987, 988, 989, 990, 991, 992, 993, 994, 995, 996, 997, 998, 999, 1000, 1001, 1002, 1003, 1004, 1690, 1691, 1692] (by decide +kernel)
set_option maxRecDepth 100000 in
theorem wlr_45 : ∀ w ∈ wsL_law_r45, w ∈ lw_tbl := mem_r [1693, 1694, 1696, 99, 1697, 1005, 1006, 1007, 1008, 1009, 1011, 40, 1012, 1013, 1698, 1699, 1700, 1701, 1702, 1703, 1704, 1705, 1706, 1707] (by decide +kernel)
set_option maxRecDepth 100000 in
theorem wlr_46 : ∀ w ∈ wsL_law_r46, w ∈ lw_tbl := mem_r [1015, 1016, 1017, 1018, 1019, 1020, 1021, 1022, 1023, 1024, 1025, 1026, 1708, 1709, 1710, 1711, 1027, 1028, 1029, 1030, 1031, 1032, 1033, 1034] (by decide +kernel)
set_option maxRecDepth 100000 in
theorem wlr_47 : ∀ w ∈ wsL_law_r47, w ∈ lw_tbl := mem_r [1712, 1713, 1714, 1715, 1035, 1036, 1037, 1038, 1039, 1040, 1041, 1042, 1043, 1045, 41, 1046, 1047, 1048, 1049, 1050, 1051, 1053, 42, 1054] (by decide +kernel)
set_option maxRecDepth 100000 in
theorem wlr_48 : ∀ w ∈ wsL_law_r48, w ∈ lw_tbl := mem_r [1728, 1729, 1730, 1731, 1732, 1734, 102, 1735, 1736, 1738, 103, 1739, 1740, 1055, 1056, 1057, 1058, 272, 1741, 1742, 1743, 1744, 1059, 1060] (by decide +kernel)
set_option maxRecDepth 100000 in
theorem wlr_49 : ∀ w ∈ wsL_law_r49, w ∈ lw_tbl := mem_r [1061, 1062, 493, 491, 1063, 1065, 43, 1066, 1067, 1068, 1069, 1070, 1071, 1072, 1745, 1746, 1747, 1748, 1753, 1720, 1722, 100, 1723, 1749] (by decide +kernel)
set_option maxRecDepth 100000 in
theorem wlr_50 : ∀ w ∈ wsL_law_r50, w ∈ lw_tbl := mem_r [1751, 104, 1752, 1073, 1074, 1075, 1076, 457, 1077, 1078, 1079, 1080, 1716, 1717, 1718, 1719, 1724, 1726, 101, 1727, 1082, 1083, 1084, 1085] (by decide +kernel)
set_option maxRecDepth 100000 in
theorem wlr_51 : ∀ w ∈ wsL_law_r51, w ∈ lw_tbl := mem_r [1754, 1755, 1756, 1757, 1086, 1087, 1088, 1089, 1090, 1092, 44, 1093, 1758, 1759, 1760, 1761, 1094, 1095, 1096, 1097, 1762, 1763, 1764, 1765] (by decide +kernel)
set_option maxRecDepth 100000 in
theorem wlr_52 : ∀ w ∈ wsL_law_r52, w ∈ lw_tbl := mem_r [1098, 1099, 1100, 1101, 1102, 1103, 1104, 1105, 1766, 1767, 1768, 1769, 1770, 1772, 105, 1773, 1106, 1107, 1108, 1109, 1624, 1625, 1626, 1627] (by decide +kernel)
set_option maxRecDepth 100000 in
theorem wlr_53 : ∀ w ∈ wsL_law_r53, w ∈ lw_tbl := mem_r [1110, 1111, 1112, 1113, 1114, 1115, 1116, 1117, 537, 539, 1774, 1775, 1776, 1777, 1247, 1118, 1119, 1120, 1121, 1122, 1123, 1124, 1125, 1778] (by decide +kernel)
set_option maxRecDepth 100000 in
theorem wlr_54 : ∀ w ∈ wsL_law_r54, w ∈ lw_tbl := mem_r [1779, 1780, 1781, 1126, 1127, 1128, 1129, 540, 1130, 1782, 1783, 1784, 1785, 1786, 1131, 1132, 1133, 1134, 1135, 1136, 1137, 1138, 1139, 1787] (by decide +kernel)
set_option maxRecDepth 100000 in
theorem wlr_55 : ∀ w ∈ wsL_law_r55, w ∈ lw_tbl := mem_r [1788, 1789, 1790, 1791, 1793, 106, 1794, 1140, 1141, 1142, 1143, 1144, 1145, 1146, 1147, 404, 365, 407, 362, 1148, 368, 1795, 1796, 1797] (by decide +kernel)
set_option maxRecDepth 100000 in
theorem wlr_56 : ∀ w ∈ wsL_law_r56, w ∈ lw_tbl := mem_r [1798, 1149, 1150, 1151, 1152, 1153, 1154, 1155, 1156, 1157, 1799, 1800, 1801, 1802, 1158, 1159, 1160, 1161, 262, 281, 375, 377, 1803, 1804] (by decide +kernel)
set_option maxRecDepth 100000 in
theorem wlr_57 : ∀ w ∈ wsL_law_r57, w ∈ lw_tbl := mem_r [1805, 1806] (by decide +kernel)
set_option maxRecDepth 100000 in
theorem wlx_10 : ∀ w ∈ wsX100, w ∈ lw_tbl := mem_r [579, 581, 583, 585, 587, 589, 591, 593, 595, 597, 599, 601, 603, 605, 607, 609, 611, 613] (by decide +kernel)
set_option maxRecDepth 100000 in
theorem wlx_11 : ∀ w ∈ wsX110, w ∈ lw_tbl := mem_r [1251, 1253, 1255, 1257, 1259, 1261, 1263, 1265, 1267, 1269, 1271, 1273, 1275, 1277, 1279, 1281, 1283, 1285, 1287, 1289, 1291, 1293, 1295, 1297, 1299, 1301, 1303, 1305, 1307, 1309, 1311, 1313, 1315, 1317, 1319, 1321, 1323, 1325, 1327, 1329, 1331, 1333, 1335, 1337, 1339, 1341, 1343, 1345, 1347, 1349, 1351, 1353, 1355, 1357, 1359, 1361, 1363, 1365, 1367, 1369, 1371, 1373, 1375, 1377, 1379, 1381, 1383, 1385, 1387, 1389, 1391] (by decide +kernel)
set_option maxRecDepth 100000 in
theorem wlx_2 : ∀ w ∈ wsX20, w ∈ lw_tbl := mem_r [341, 343, 345, 347] (by decide +kernel)
set_option maxRecDepth 100000 in
theorem wlx_4 : ∀ w ∈ wsX40, w ∈ lw_tbl := mem_r [301, 303, 305, 307, 309, 311, 313, 315, 317, 319, 321, 323, 325, 327, 329, 331] (by decide +kernel)
set_option maxRecDepth 100000 in
theorem wlx_0 : ∀ w ∈ wsX00, w ∈ lw_tbl := mem_r [378, 380, 382, 384, 386, 388, 390, 392, 394] (by decide +kernel)
set_option maxRecDepth 100000 in
theorem wlx_1 : ∀ w ∈ wsX10, w ∈ lw_tbl := mem_r [409, 411, 413, 415] (by decide +kernel)
set_option maxRecDepth 100000 in
theorem wlx_5 : ∀ w ∈ wsX50, w ∈ lw_tbl := mem_r [426, 428] (by decide +kernel)
set_option maxRecDepth 100000 in
theorem wlx_7 : ∀ w ∈ wsX70, w ∈ lw_tbl := mem_r [440, 442, 444] (by decide +kernel)
set_option maxRecDepth 100000 in
theorem wlx_3 : ∀ w ∈ wsX30, w ∈ lw_tbl := mem_r [464, 466, 468, 470, 472, 474, 476, 478, 480] (by decide +kernel)
set_option maxRecDepth 100000 in
theorem wlx_9 : ∀ w ∈ wsX90, w ∈ lw_tbl := mem_r [508, 510, 512, 514, 516, 518, 520, 522, 524, 526, 528] (by decide +kernel)
set_option maxRecDepth 100000 in
theorem wlx_6 : ∀ w ∈ wsX60, w ∈ lw_tbl := mem_r [546, 548, 550, 552, 554, 556, 558] (by decide +kernel)
set_option maxRecDepth 100000 in
theorem wlx_8 : ∀ w ∈ wsX80, w ∈ lw_tbl := mem_r [221, 223, 225, 227, 229, 231, 233, 235, 237, 239] (by decide +kernel)
set_option maxRecDepth 100000 in
theorem wsL_law_in : ∀ w ∈ wsL_law, w ∈ lw_tbl := (List.forall_mem_append.mpr ⟨(List.forall_mem_append.mpr ⟨(List.forall_mem_append.mpr ⟨(List.forall_mem_append.mpr ⟨(List.forall_mem_append.mpr ⟨(List.forall_mem_append.mpr ⟨(List.forall_mem_append.mpr ⟨(List.forall_mem_append.mpr ⟨(List.forall_mem_append.mpr ⟨(List.forall_mem_append.mpr ⟨(List.forall_mem_append.mpr ⟨(List.forall_mem_append.mpr ⟨(List.forall_mem_append.mpr ⟨(List.forall_mem_append.mpr ⟨wlr_1, (List.forall_mem_append.mpr ⟨wlr_2, (List.forall_mem_append.mpr ⟨wlr_3, (List.forall_mem_append.mpr ⟨wlr_4, (List.forall_mem_append.mpr ⟨wlr_5, (List.forall_mem_append.mpr ⟨wlr_6, (List.forall_mem_append.mpr ⟨wlr_7, (List.forall_mem_append.mpr ⟨wlr_8, (List.forall_mem_append.mpr ⟨wlr_9, (List.forall_mem_append.mpr ⟨wlr_10, (List.forall_mem_append.mpr ⟨wlr_11, (List.forall_mem_append.mpr ⟨wlr_12, (List.forall_mem_append.mpr ⟨wlr_13, (List.forall_mem_append.mpr ⟨wlr_14, (List.forall_mem_append.mpr ⟨wlr_15, (List.forall_mem_append.mpr ⟨wlr_16, (List.forall_mem_append.mpr ⟨wlr_17, (List.forall_mem_append.mpr ⟨wlr_18, (List.forall_mem_append.mpr ⟨wlr_19, (List.forall_mem_append.mpr ⟨wlr_20, (List.forall_mem_append.mpr ⟨wlr_21, (List.forall_mem_append.mpr ⟨wlr_22, (List.forall_mem_append.mpr ⟨wlr_23, (List.forall_mem_append.mpr ⟨wlr_24, (List.forall_mem_append.mpr ⟨wlr_25, (List.forall_mem_append.mpr ⟨wlr_26, (List.forall_mem_append.mpr ⟨wlr_27, (List.forall_mem_append.mpr ⟨wlr_28, (List.forall_mem_append.mpr ⟨wlr_29, (List.forall_mem_append.mpr ⟨wlr_30, (List.forall_mem_append.mpr ⟨wlr_31, (List.forall_mem_append.mpr ⟨wlr_32, (List.forall_mem_append.mpr ⟨wlr_33, (List.forall_mem_append.mpr ⟨wlr_34, (List.forall_mem_append.mpr ⟨wlr_35, (List.forall_mem_append.mpr ⟨wlr_36, (List.forall_mem_append.mpr ⟨wlr_37, (List.forall_mem_append.mpr ⟨wlr_38, (List.forall_mem_append.mpr ⟨wlr_39, (List.forall_mem_append.mpr ⟨wlr_40, (List.forall_mem_append.mpr ⟨wlr_41, (List.forall_mem_append.mpr ⟨wlr_42, (List.forall_mem_append.mpr ⟨wlr_43, (List.forall_mem_append.mpr ⟨wlr_44, (List.forall_mem_append.mpr ⟨wlr_45, (List.forall_mem_append.mpr ⟨wlr_46, (List.forall_mem_append.mpr ⟨wlr_47, (List.forall_mem_append.mpr ⟨wlr_48, (List.forall_mem_append.mpr ⟨wlr_49, (List.forall_mem_append.mpr ⟨wlr_50, (List.forall_mem_append.mpr ⟨wlr_51, (List.forall_mem_append.mpr ⟨wlr_52, (List.forall_mem_append.mpr ⟨wlr_53, (List.forall_mem_append.mpr ⟨wlr_54, (List.forall_mem_append.mpr ⟨wlr_55, (List.forall_mem_append.mpr ⟨wlr_56, wlr_57⟩)⟩)⟩)⟩)⟩)⟩)⟩)⟩)⟩)⟩)⟩)⟩)⟩)⟩)⟩)⟩)⟩)⟩)⟩)⟩)⟩)⟩)⟩)⟩)⟩)⟩)⟩)⟩)⟩)⟩)⟩)⟩)⟩)⟩)⟩)⟩)⟩)⟩)⟩)⟩)⟩)⟩)⟩)⟩)⟩)⟩)⟩)⟩)⟩)⟩)⟩)⟩)⟩)⟩)⟩)⟩), wlx_10⟩), wlx_11⟩), wlx_2⟩), wlx_4⟩), wlx_0⟩), wlx_1⟩), wlx_5⟩), wlx_7⟩), wlx_3⟩), wlx_9⟩), wlx_6⟩), wlx_8⟩), fun _ h => absurd h List.not_mem_nil⟩)
theorem inlX0 : ∀ w ∈ wsX00, w ∈ wsL_law := fun _ h => List.mem_append_left _ (List.mem_append_left _ (List.mem_append_left _ (List.mem_append_left _ (List.mem_append_left _ (List.mem_append_left _ (List.mem_append_left _ (List.mem_append_left _ (List.mem_append_right _ h))))))))
theorem inX0 : ∀ w ∈ wsX00, w ∈ lw_tbl := fun w h => wsL_law_in w (inlX0 w h)
theorem inlX1 : ∀ w ∈ wsX10, w ∈ wsL_law := fun _ h => List.mem_append_left _ (List.mem_append_left _ (List.mem_append_left _ (List.mem_append_left _ (List.mem_append_left _ (List.mem_append_left _ (List.mem_append_left _ (List.mem_append_right _ h)))))))
theorem inX1 : ∀ w ∈ wsX10, w ∈ lw_tbl := fun w h => wsL_law_in w (inlX1 w h)
theorem inlX2 : ∀ w ∈ wsX20, w ∈ wsL_law := fun _ h => List.mem_append_left _ (List.mem_append_left _ (List.mem_append_left _ (List.mem_append_left _ (List.mem_append_left _ (List.mem_append_left _ (List.mem_append_left _ (List.mem_append_left _ (List.mem_append_left _ (List.mem_append_left _ (List.mem_append_right _ h))))))))))
theorem inX2 : ∀ w ∈ wsX20, w ∈ lw_tbl := fun w h => wsL_law_in w (inlX2 w h)
theorem inlX3 : ∀ w ∈ wsX30, w ∈ wsL_law := fun _ h => List.mem_append_left _ (List.mem_append_left _ (List.mem_append_left _ (List.mem_append_left _ (List.mem_append_right _ h))))
theorem inX3 : ∀ w ∈ wsX30, w ∈ lw_tbl := fun w h => wsL_law_in w (inlX3 w h)
theorem inlX4 : ∀ w ∈ wsX40, w ∈ wsL_law := fun _ h => List.mem_append_left _ (List.mem_append_left _ (List.mem_append_left _ (List.mem_append_left _ (List.mem_append_left _ (List.mem_append_left _ (List.mem_append_left _ (List.mem_append_left _ (List.mem_append_left _ (List.mem_append_right _ h)))))))))
theorem inX4 : ∀ w ∈ wsX40, w ∈ lw_tbl := fun w h => wsL_law_in w (inlX4 w h)
theorem inlX5 : ∀ w ∈ wsX50, w ∈ wsL_law := fun _ h => List.mem_append_left _ (List.mem_append_left _ (List.mem_append_left _ (List.mem_append_left _ (List.mem_append_left _ (List.mem_append_left _ (List.mem_append_right _ h))))))
theorem inX5 : ∀ w ∈ wsX50, w ∈ lw_tbl := fun w h => wsL_law_in w (inlX5 w h)
theorem inlX6 : ∀ w ∈ wsX60, w ∈ wsL_law := fun _ h => List.mem_append_left _ (List.mem_append_left _ (List.mem_append_right _ h))
theorem inX6 : ∀ w ∈ wsX60, w ∈ lw_tbl := fun w h => wsL_law_in w (inlX6 w h)
theorem inlX7 : ∀ w ∈ wsX70, w ∈ wsL_law := fun _ h => List.mem_append_left _ (List.mem_append_left _ (List.mem_append_left _ (List.mem_append_left _ (List.mem_append_left _ (List.mem_append_right _ h)))))
theorem inX7 : ∀ w ∈ wsX70, w ∈ lw_tbl := fun w h => wsL_law_in w (inlX7 w h)
theorem inlX8 : ∀ w ∈ wsX80, w ∈ wsL_law := fun _ h => List.mem_append_left _ (List.mem_append_right _ h)
theorem inX8 : ∀ w ∈ wsX80, w ∈ lw_tbl := fun w h => wsL_law_in w (inlX8 w h)
theorem inlX9 : ∀ w ∈ wsX90, w ∈ wsL_law := fun _ h => List.mem_append_left _ (List.mem_append_left _ (List.mem_append_left _ (List.mem_append_right _ h)))
theorem inX9 : ∀ w ∈ wsX90, w ∈ lw_tbl := fun w h => wsL_law_in w (inlX9 w h)
theorem inlX10 : ∀ w ∈ wsX100, w ∈ wsL_law := fun _ h => List.mem_append_left _ (List.mem_append_left _ (List.mem_append_left _ (List.mem_append_left _ (List.mem_append_left _ (List.mem_append_left _ (List.mem_append_left _ (List.mem_append_left _ (List.mem_append_left _ (List.mem_append_left _ (List.mem_append_left _ (List.mem_append_left _ (List.mem_append_right _ h))))))))))))
theorem inX10 : ∀ w ∈ wsX100, w ∈ lw_tbl := fun w h => wsL_law_in w (inlX10 w h)
theorem inlX11 : ∀ w ∈ wsX110, w ∈ wsL_law := fun _ h => List.mem_append_left _ (List.mem_append_left _ (List.mem_append_left _ (List.mem_append_left _ (List.mem_append_left _ (List.mem_append_left _ (List.mem_append_left _ (List.mem_append_left _ (List.mem_append_left _ (List.mem_append_left _ (List.mem_append_left _ (List.mem_append_right _ h)))))))))))
theorem inX11 : ∀ w ∈ wsX110, w ∈ lw_tbl := fun w h => wsL_law_in w (inlX11 w h)
abbrev vwCl : List vw_C := [(RX0, TX0, 9), (RX1, TX1, 4), (RX2, TX2, 4), (RX3, TX3, 9), (RX4, TX4, 16), (RX5, TX5, 2), (RX6, TX6, 7), (RX7, TX7, 3), (RX8, TX8, 10), (RX9, TX9, 11), (RX10, TX10, 18), (RX11, TX11, 71)]

