/-! the words of the law lie in the tables: by places -/
theorem mem_r {big : List Cond} (ws : List Cond) (ps : List Nat) (hp : ws = ps.filterMap (fun i => big[i]?)) : ∀ w ∈ ws, w ∈ big := by
  intro w h
  rw [hp] at h
  obtain ⟨i, -, hi⟩ := List.mem_filterMap.mp h
  exact List.mem_of_getElem? hi
set_option maxRecDepth 20000 in
theorem wsL_law_r1_in : ∀ w ∈ wsL_law_r1, w ∈ lw_tbl := mem_r _ [126, 127, 108, 1240, 1241, 115, 128, 129, 130, 131, 132, 133, 134, 135, 109, 404, 173, 174, 110, 407, 408, 385, 386, 114] (by decide +kernel)
set_option maxRecDepth 20000 in
theorem wsL_law_r2_in : ∀ w ∈ wsL_law_r2, w ∈ lw_tbl := mem_r _ [409, 171, 411, 137, 138, 139, 140, 172, 147, 175, 176, 177, 178, 205, 306, 179, 310, 181, 317, 183, 328, 332, 336, 185] (by decide +kernel)
set_option maxRecDepth 20000 in
theorem wsL_law_r3_in : ∀ w ∈ wsL_law_r3, w ∈ lw_tbl := mem_r _ [111, 206, 112, 254, 113, 187, 188, 189, 208, 209, 210, 230, 232, 234, 256, 257, 258, 295, 296, 297, 298, 303, 313, 316] (by decide +kernel)
set_option maxRecDepth 20000 in
theorem wsL_law_r4_in : ∀ w ∈ wsL_law_r4, w ∈ lw_tbl := mem_r _ [321, 325, 330, 333, 338, 340, 342, 344, 346, 299, 300, 301, 302, 388, 389, 390, 391, 393, 1242, 1243, 1244, 1245, 1251, 1252] (by decide +kernel)
set_option maxRecDepth 20000 in
theorem wsL_law_r5_in : ∀ w ∈ wsL_law_r5, w ∈ lw_tbl := mem_r _ [1253, 1254, 1257, 1258, 1259, 1261, 1263, 1264, 1246, 1267, 1247, 1248, 1249, 432, 433, 434, 435, 141, 436, 437, 438, 439, 440, 142] (by decide +kernel)
set_option maxRecDepth 20000 in
theorem wsL_law_r6_in : ∀ w ∈ wsL_law_r6, w ∈ lw_tbl := mem_r _ [1807, 1808, 1809, 1810, 1250, 1265, 1647, 1811, 1813, 89, 1814, 441, 442, 443, 444, 445, 149, 405, 151, 406, 668, 334, 446, 447] (by decide +kernel)
set_option maxRecDepth 20000 in
theorem wsL_law_r7_in : ∀ w ∈ wsL_law_r7, w ∈ lw_tbl := mem_r _ [448, 449, 450, 451, 116, 452, 143, 145, 148, 150, 146, 453, 454, 456, 0, 457, 144, 458, 460, 1, 461, 462, 464, 2] (by decide +kernel)
set_option maxRecDepth 20000 in
theorem wsL_law_r8_in : ∀ w ∈ wsL_law_r8, w ∈ lw_tbl := mem_r _ [465, 466, 468, 3, 469, 471, 473, 4, 474, 475, 476, 477, 117, 478, 1905, 479, 480, 481, 482, 483, 1906, 485, 486, 487] (by decide +kernel)
set_option maxRecDepth 20000 in
theorem wsL_law_r9_in : ∀ w ∈ wsL_law_r9, w ∈ lw_tbl := mem_r _ [488, 489, 490, 491, 492, 493, 494, 118, 495, 496, 497, 498, 499, 501, 502, 119, 503, 504, 505, 120, 506, 507, 508, 509] (by decide +kernel)
set_option maxRecDepth 20000 in
theorem wsL_law_r10_in : ∀ w ∈ wsL_law_r10, w ∈ lw_tbl := mem_r _ [510, 511, 512, 513, 514, 515, 516, 517, 519, 521, 523, 525, 5, 526, 304, 527, 529, 6, 530, 531, 533, 7, 534, 535] (by decide +kernel)
set_option maxRecDepth 20000 in
theorem wsL_law_r11_in : ∀ w ∈ wsL_law_r11, w ∈ lw_tbl := mem_r _ [537, 8, 538, 539, 541, 9, 542, 544, 546, 10, 547, 314, 548, 549, 550, 551, 192, 195, 197, 553, 555, 11, 556, 307] (by decide +kernel)
set_option maxRecDepth 20000 in
theorem wsL_law_r12_in : ∀ w ∈ wsL_law_r12, w ∈ lw_tbl := mem_r _ [558, 560, 12, 561, 322, 562, 563, 564, 565, 214, 566, 567, 568, 569, 570, 571, 572, 573, 211, 215, 219, 221, 224, 227] (by decide +kernel)
set_option maxRecDepth 20000 in
theorem wsL_law_r13_in : ∀ w ∈ wsL_law_r13, w ∈ lw_tbl := mem_r _ [574, 575, 121, 576, 578, 580, 13, 581, 326, 320, 217, 582, 583, 584, 585, 586, 587, 588, 589, 278, 590, 591, 592, 593] (by decide +kernel)
set_option maxRecDepth 20000 in
theorem wsL_law_r14_in : ∀ w ∈ wsL_law_r14, w ∈ lw_tbl := mem_r _ [594, 595, 596, 597, 598, 599, 600, 601, 262, 265, 268, 603, 605, 14, 606, 335, 607, 609, 15, 610, 612, 614, 16, 615] (by decide +kernel)
set_option maxRecDepth 20000 in
theorem wsL_law_r15_in : ∀ w ∈ wsL_law_r15, w ∈ lw_tbl := mem_r _ [616, 618, 17, 619, 620, 621, 622, 623, 624, 625, 626, 627, 628, 629, 630, 631, 632, 633, 634, 635, 636, 637, 260, 263] (by decide +kernel)
set_option maxRecDepth 20000 in
theorem wsL_law_r16_in : ∀ w ∈ wsL_law_r16, w ∈ lw_tbl := mem_r _ [222, 266, 269, 275, 225, 272, 638, 639, 640, 641, 642, 643, 644, 645, 646, 647, 648, 649, 650, 651, 653, 18, 654, 655] (by decide +kernel)
set_option maxRecDepth 20000 in
theorem wsL_law_r17_in : ∀ w ∈ wsL_law_r17, w ∈ lw_tbl := mem_r _ [657, 19, 658, 228, 659, 660, 661, 662, 663, 664, 666, 20, 667, 669, 670, 671, 672, 395, 673, 675, 21, 676, 410, 677] (by decide +kernel)
set_option maxRecDepth 20000 in
theorem wsL_law_r18_in : ∀ w ∈ wsL_law_r18, w ∈ lw_tbl := mem_r _ [678, 679, 125, 680, 1107, 1815, 1816, 1817, 1818, 1527, 1274, 1271, 1268, 1275, 1272, 1266, 1269, 1896, 1255, 1340, 1341, 1342, 1819, 1821] (by decide +kernel)
set_option maxRecDepth 20000 in
theorem wsL_law_r19_in : ∀ w ∈ wsL_law_r19, w ∈ lw_tbl := mem_r _ [90, 1822, 1270, 1276, 1827, 1828, 1273, 1823, 1825, 91, 1826, 1829, 1831, 92, 1832, 1833, 1835, 93, 1836, 1837, 1862, 1867, 1872, 1877] (by decide +kernel)
set_option maxRecDepth 20000 in
theorem wsL_law_r20_in : ∀ w ∈ wsL_law_r20, w ∈ lw_tbl := mem_r _ [1882, 1891, 1838, 1840, 94, 1841, 1842, 1844, 95, 1845, 1846, 1848, 96, 1849, 1850, 1852, 97, 1853, 1854, 1856, 98, 1857, 1858, 1860] (by decide +kernel)
set_option maxRecDepth 20000 in
theorem wsL_law_r21_in : ∀ w ∈ wsL_law_r21, w ∈ lw_tbl := mem_r _ [99, 1861, 1863, 1865, 100, 1866, 1868, 1870, 101, 1871, 1873, 1875, 102, 1876, 1682, 1683, 1684, 1878, 1880, 103, 1881, 1501, 1502, 1503] (by decide +kernel)
set_option maxRecDepth 20000 in
theorem wsL_law_r22_in : ∀ w ∈ wsL_law_r22, w ∈ lw_tbl := mem_r _ [1675, 1676, 1677, 1498, 1499, 1500, 1883, 1885, 104, 1886, 1887, 1889, 105, 1890, 1528, 1529, 1530, 1531, 1532, 1533, 1652, 1653, 1654, 1892] (by decide +kernel)
set_option maxRecDepth 20000 in
theorem wsL_law_r23_in : ∀ w ∈ wsL_law_r23, w ∈ lw_tbl := mem_r _ [1894, 106, 1895, 1667, 1668, 1669, 1663, 1664, 1665, 1666, 1416, 1417, 1418, 681, 682, 683, 684, 1897, 1898, 1899, 1900, 685, 686, 687] (by decide +kernel)
set_option maxRecDepth 20000 in
theorem wsL_law_r24_in : ∀ w ∈ wsL_law_r24, w ∈ lw_tbl := mem_r _ [688, 689, 1901, 1902, 1903, 1904, 690, 691, 692, 693, 318, 212, 695, 694, 1332, 1333, 1334, 1335, 1343, 1336, 1338, 40, 1339, 696] (by decide +kernel)
set_option maxRecDepth 20000 in
theorem wsL_law_r25_in : ∀ w ∈ wsL_law_r25, w ∈ lw_tbl := mem_r _ [697, 698, 699, 700, 701, 702, 703, 704, 705, 706, 707, 708, 1344, 1345, 1346, 1347, 1348, 1350, 41, 1351, 1352, 1354, 42, 1355] (by decide +kernel)
set_option maxRecDepth 20000 in
theorem wsL_law_r26_in : ∀ w ∈ wsL_law_r26, w ∈ lw_tbl := mem_r _ [709, 710, 711, 712, 713, 714, 715, 1356, 1357, 1358, 1359, 1360, 1361, 1362, 716, 717, 718, 719, 312, 194, 720, 721, 722, 723] (by decide +kernel)
set_option maxRecDepth 20000 in
theorem wsL_law_r27_in : ∀ w ∈ wsL_law_r27, w ∈ lw_tbl := mem_r _ [1363, 1364, 1365, 1366, 1367, 1369, 43, 1370, 724, 725, 726, 727, 341, 1371, 1372, 1373, 1374, 728, 729, 730, 731, 343, 1375, 1376] (by decide +kernel)
set_option maxRecDepth 20000 in
theorem wsL_law_r28_in : ∀ w ∈ wsL_law_r28, w ∈ lw_tbl := mem_r _ [1377, 1378, 732, 733, 734, 735, 345, 1379, 1380, 1381, 1382, 736, 737, 738, 739, 347, 1383, 1384, 1385, 1386, 740, 741, 742, 743] (by decide +kernel)
set_option maxRecDepth 20000 in
theorem wsL_law_r29_in : ∀ w ∈ wsL_law_r29, w ∈ lw_tbl := mem_r _ [744, 746, 22, 747, 315, 748, 749, 750, 751, 752, 753, 754, 756, 23, 757, 1387, 1388, 1389, 1390, 1391, 1392, 1394, 44, 1395] (by decide +kernel)
set_option maxRecDepth 20000 in
theorem wsL_law_r30_in : ∀ w ∈ wsL_law_r30, w ∈ lw_tbl := mem_r _ [1396, 1398, 45, 1399, 758, 759, 760, 761, 762, 763, 764, 765, 766, 767, 768, 769, 770, 771, 773, 24, 774, 775, 776, 777] (by decide +kernel)
set_option maxRecDepth 20000 in
theorem wsL_law_r31_in : ∀ w ∈ wsL_law_r31, w ∈ lw_tbl := mem_r _ [1400, 1401, 1402, 1403, 1404, 1406, 46, 1407, 1408, 1410, 47, 1411, 1412, 1414, 48, 1415, 1256, 1419, 1421, 49, 1422, 1423, 1425, 50] (by decide +kernel)
set_option maxRecDepth 20000 in
theorem wsL_law_r32_in : ∀ w ∈ wsL_law_r32, w ∈ lw_tbl := mem_r _ [1426, 1427, 1429, 51, 1430, 1431, 1432, 1433, 1434, 1436, 52, 1437, 1438, 1440, 53, 1441, 1442, 1444, 54, 1445, 778, 779, 780, 781] (by decide +kernel)
set_option maxRecDepth 20000 in
theorem wsL_law_r33_in : ∀ w ∈ wsL_law_r33, w ∈ lw_tbl := mem_r _ [782, 1446, 1447, 1448, 1449, 783, 784, 785, 786, 787, 1450, 1451, 1452, 1453, 1454, 1456, 55, 1457, 788, 789, 790, 791, 226, 1458] (by decide +kernel)
set_option maxRecDepth 20000 in
theorem wsL_law_r34_in : ∀ w ∈ wsL_law_r34, w ∈ lw_tbl := mem_r _ [1459, 1460, 1461, 792, 793, 794, 795, 229, 1462, 1463, 1464, 1465, 796, 797, 798, 799, 231, 800, 801, 802, 803, 1466, 1467, 1468] (by decide +kernel)
set_option maxRecDepth 20000 in
theorem wsL_law_r35_in : ∀ w ∈ wsL_law_r35, w ∈ lw_tbl := mem_r _ [1469, 1470, 1472, 56, 1473, 804, 805, 806, 807, 233, 1474, 1475, 1476, 1477, 808, 809, 810, 811, 220, 1478, 1479, 1480, 1481, 812] (by decide +kernel)
set_option maxRecDepth 20000 in
theorem wsL_law_r36_in : ∀ w ∈ wsL_law_r36, w ∈ lw_tbl := mem_r _ [813, 814, 815, 816, 817, 818, 819, 820, 821, 822, 823, 1482, 1483, 1484, 1485, 1486, 1488, 57, 1489, 824, 825, 826, 827, 828] (by decide +kernel)
set_option maxRecDepth 20000 in
theorem wsL_law_r37_in : ∀ w ∈ wsL_law_r37, w ∈ lw_tbl := mem_r _ [829, 830, 831, 216, 832, 833, 834, 835, 836, 1490, 1491, 1492, 1493, 1494, 1496, 58, 1497, 837, 838, 839, 840, 223, 218, 841] (by decide +kernel)
set_option maxRecDepth 20000 in
theorem wsL_law_r38_in : ∀ w ∈ wsL_law_r38, w ∈ lw_tbl := mem_r _ [842, 843, 844, 845, 1504, 1505, 1506, 1507, 1508, 1509, 123, 1510, 1514, 1516, 1515, 123, 1517, 1511, 1512, 1513, 846, 847, 848, 849] (by decide +kernel)
set_option maxRecDepth 20000 in
theorem wsL_law_r39_in : ∀ w ∈ wsL_law_r39, w ∈ lw_tbl := mem_r _ [850, 851, 852, 853, 854, 855, 856, 1518, 1519, 1520, 1521, 857, 858, 859, 860, 324, 861, 862, 863, 864, 1522, 1523, 1524, 1525] (by decide +kernel)
set_option maxRecDepth 20000 in
theorem wsL_law_r40_in : ∀ w ∈ wsL_law_r40, w ∈ lw_tbl := mem_r _ [1526, 865, 866, 867, 868, 869, 870, 871, 872, 873, 1534, 1535, 1536, 1537, 1538, 1540, 59, 1541, 874, 875, 876, 877, 264, 878] (by decide +kernel)
set_option maxRecDepth 20000 in
theorem wsL_law_r41_in : ∀ w ∈ wsL_law_r41, w ∈ lw_tbl := mem_r _ [879, 880, 881, 1542, 1543, 1544, 1545, 1546, 1548, 60, 1549, 1550, 1552, 61, 1553, 882, 883, 884, 885, 267, 1554, 1555, 1556, 1557] (by decide +kernel)
set_option maxRecDepth 20000 in
theorem wsL_law_r42_in : ∀ w ∈ wsL_law_r42, w ∈ lw_tbl := mem_r _ [886, 887, 888, 889, 270, 1558, 1559, 1560, 1561, 890, 891, 892, 893, 273, 1562, 1563, 1564, 1565, 894, 895, 896, 897, 276, 1566] (by decide +kernel)
set_option maxRecDepth 20000 in
theorem wsL_law_r43_in : ∀ w ∈ wsL_law_r43, w ∈ lw_tbl := mem_r _ [1567, 1568, 1569, 898, 899, 900, 901, 279, 902, 903, 904, 905, 906, 907, 908, 909, 910, 911, 912, 913, 914, 1570, 1571, 1572] (by decide +kernel)
set_option maxRecDepth 20000 in
theorem wsL_law_r44_in : ∀ w ∈ wsL_law_r44, w ∈ lw_tbl := mem_r _ [1573, 1574, 1576, 62, 1577, 915, 916, 917, 918, 919, 921, 25, 922, 923, 924, 925, 926, 927, 1578, 1579, 1580, 1581, 1582, 1584] (by decide +kernel)
set_option maxRecDepth 20000 in
theorem wsL_law_r45_in : ∀ w ∈ wsL_law_r45, w ∈ lw_tbl := mem_r _ [63, 1585, 1594, 1586, 1588, 64, 1589, 1590, 1592, 65, 1593, 1595, 1597, 66, 1598, 1599, 1601, 67, 1602, 1603, 1605, 68, 1606, 928] (by decide +kernel)
set_option maxRecDepth 20000 in
theorem wsL_law_r46_in : ∀ w ∈ wsL_law_r46, w ∈ lw_tbl := mem_r _ [929, 930, 931, 932, 933, 934, 935, 1607, 1608, 1609, 1610, 936, 937, 938, 939, 329, 261, 940, 1611, 1612, 1613, 1614, 941, 942] (by decide +kernel)
set_option maxRecDepth 20000 in
theorem wsL_law_r47_in : ∀ w ∈ wsL_law_r47, w ∈ lw_tbl := mem_r _ [943, 944, 945, 946, 947, 948, 1615, 1616, 1617, 1618, 949, 950, 951, 952, 953, 955, 26, 956, 957, 958, 959, 960, 394, 961] (by decide +kernel)
set_option maxRecDepth 20000 in
theorem wsL_law_r48_in : ∀ w ∈ wsL_law_r48, w ∈ lw_tbl := mem_r _ [962, 963, 964, 965, 966, 968, 967, 124, 969, 970, 971, 972, 190, 193, 196, 973, 974, 975, 976, 977, 978, 979, 980, 981] (by decide +kernel)
set_option maxRecDepth 20000 in
theorem wsL_law_r49_in : ∀ w ∈ wsL_law_r49, w ∈ lw_tbl := mem_r _ [259, 271, 274, 277, 982, 983, 984, 985, 986, 987, 988, 989, 990, 992, 27, 993, 1619, 1620, 1621, 1622, 1623, 1625, 69, 1626] (by decide +kernel)
set_option maxRecDepth 20000 in
theorem wsL_law_r50_in : ∀ w ∈ wsL_law_r50, w ∈ lw_tbl := mem_r _ [1627, 1629, 70, 1630, 994, 995, 996, 997, 998, 999, 1000, 1001, 1631, 1632, 1633, 1634, 1002, 1003, 1004, 1005, 1006, 1007, 1008, 1009] (by decide +kernel)
set_option maxRecDepth 20000 in
theorem wsL_law_r51_in : ∀ w ∈ wsL_law_r51, w ∈ lw_tbl := mem_r _ [1010, 1011, 1635, 1636, 1637, 1638, 1012, 1013, 1014, 1015, 1016, 1018, 28, 1019, 331, 1020, 1021, 1022, 1023, 1024, 1639, 1640, 1641, 1642] (by decide +kernel)
set_option maxRecDepth 20000 in
theorem wsL_law_r52_in : ∀ w ∈ wsL_law_r52, w ∈ lw_tbl := mem_r _ [1643, 1645, 71, 1646, 1648, 1650, 72, 1651, 1025, 1026, 1027, 1028, 1655, 1656, 1657, 1658, 1029, 1030, 1031, 1032, 1033, 1034, 1035, 1036] (by decide +kernel)
set_option maxRecDepth 20000 in
theorem wsL_law_r53_in : ∀ w ∈ wsL_law_r53, w ∈ lw_tbl := mem_r _ [1037, 1659, 1660, 1661, 1662, 1038, 1039, 1040, 1041, 1043, 327, 1042, 1044, 1045, 1046, 1047, 1048, 1670, 1671, 1672, 1673, 1674, 1049, 1050] (by decide +kernel)
set_option maxRecDepth 20000 in
theorem wsL_law_r54_in : ∀ w ∈ wsL_law_r54, w ∈ lw_tbl := mem_r _ [1051, 1052, 1678, 1679, 1680, 1681, 1053, 1054, 1055, 1056, 309, 1057, 1058, 1059, 1060, 1685, 1686, 1687, 1688, 1689, 1061, 1062, 1063, 1064] (by decide +kernel)
set_option maxRecDepth 20000 in
theorem wsL_law_r55_in : ∀ w ∈ wsL_law_r55, w ∈ lw_tbl := mem_r _ [339, 337, 1690, 1691, 1692, 1693, 1065, 1066, 1067, 1068, 1069, 1070, 1071, 1072, 1073, 1074, 1075, 1076, 1694, 1695, 1696, 1697, 1698, 1700] (by decide +kernel)
set_option maxRecDepth 20000 in
theorem wsL_law_r56_in : ∀ w ∈ wsL_law_r56, w ∈ lw_tbl := mem_r _ [73, 1701, 1702, 1704, 74, 1705, 1077, 1078, 1079, 1080, 1104, 1102, 1106, 1081, 1083, 29, 1084, 1085, 1087, 30, 1088, 1089, 1091, 31] (by decide +kernel)
set_option maxRecDepth 20000 in
theorem wsL_law_r57_in : ∀ w ∈ wsL_law_r57, w ∈ lw_tbl := mem_r _ [1092, 1093, 1094, 1096, 1097, 1098, 1099, 1100, 1101, 1105, 1121, 1122, 1123, 1124, 1103, 1125, 1126, 1127, 1128, 1129, 1130, 1131, 1132, 1133] (by decide +kernel)
set_option maxRecDepth 20000 in
theorem wsL_law_r58_in : ∀ w ∈ wsL_law_r58, w ∈ lw_tbl := mem_r _ [1134, 1136, 32, 1137, 1151, 1152, 1138, 1140, 33, 1141, 311, 191, 308, 323, 319, 213, 1142, 1143, 1145, 34, 1146, 1147, 1149, 35] (by decide +kernel)
set_option maxRecDepth 20000 in
theorem wsL_law_r59_in : ∀ w ∈ wsL_law_r59, w ∈ lw_tbl := mem_r _ [1150, 1153, 1154, 1156, 36, 1157, 1158, 1160, 37, 1161, 1162, 1163, 1164, 1165, 1166, 1167, 1168, 1169, 1170, 1171, 1706, 1707, 1708, 1709] (by decide +kernel)
set_option maxRecDepth 20000 in
theorem wsL_law_r60_in : ∀ w ∈ wsL_law_r60, w ∈ lw_tbl := mem_r _ [1710, 1712, 75, 1713, 1714, 1716, 76, 1717, 1718, 1720, 77, 1721, 1260, 1722, 1724, 78, 1725, 1726, 1728, 79, 1729, 1730, 1732, 80] (by decide +kernel)
set_option maxRecDepth 20000 in
theorem wsL_law_r61_in : ∀ w ∈ wsL_law_r61, w ∈ lw_tbl := mem_r _ [1733, 1738, 1734, 1736, 81, 1737, 1739, 1741, 82, 1742, 1743, 1745, 83, 1746, 1747, 1749, 84, 1750, 1172, 1173, 1174, 1175, 396, 1176] (by decide +kernel)
set_option maxRecDepth 20000 in
theorem wsL_law_r62_in : ∀ w ∈ wsL_law_r62, w ∈ lw_tbl := mem_r _ [1177, 1178, 1179, 1751, 1752, 1753, 1754, 1180, 1181, 1182, 1183, 1755, 1756, 1757, 1758, 1184, 1185, 1186, 1187, 1188, 1189, 1190, 1191, 1192] (by decide +kernel)
set_option maxRecDepth 20000 in
theorem wsL_law_r63_in : ∀ w ∈ wsL_law_r63, w ∈ lw_tbl := mem_r _ [1193, 1194, 1195, 1759, 1760, 1761, 1762, 1763, 1765, 85, 1766, 1196, 1197, 1198, 1199, 1767, 1768, 1769, 1770, 1200, 1201, 1202, 1203, 1771] (by decide +kernel)
set_option maxRecDepth 20000 in
theorem wsL_law_r64_in : ∀ w ∈ wsL_law_r64, w ∈ lw_tbl := mem_r _ [1772, 1773, 1774, 1204, 1205, 1206, 1207, 1208, 1775, 1776, 1777, 1778, 1209, 1210, 1211, 1212, 1213, 1214, 1779, 1780, 1781, 1782, 1215, 1216] (by decide +kernel)
set_option maxRecDepth 20000 in
theorem wsL_law_r65_in : ∀ w ∈ wsL_law_r65, w ∈ lw_tbl := mem_r _ [1217, 1218, 305, 1219, 1220, 1221, 1222, 1223, 1783, 1784, 1785, 1786, 1787, 1789, 86, 1790, 1224, 1225, 1226, 1227, 412, 1228, 1230, 38] (by decide +kernel)
set_option maxRecDepth 20000 in
theorem wsL_law_r66_in : ∀ w ∈ wsL_law_r66, w ∈ lw_tbl := mem_r _ [1231, 1232, 1234, 39, 1235, 1791, 1792, 1793, 1794, 1262, 1795, 1797, 87, 1798, 1799, 1801, 88, 1802, 1236, 1237, 1238, 1239, 1803, 1804] (by decide +kernel)
set_option maxRecDepth 20000 in
theorem wsL_law_r67_in : ∀ w ∈ wsL_law_r67, w ∈ lw_tbl := mem_r _ [1805, 1806] (by decide +kernel)
set_option maxRecDepth 20000 in
theorem wl_X7_in : ∀ w ∈ wsX70, w ∈ lw_tbl := mem_r _ [413, 415, 417, 419, 421, 423, 425, 427, 429] (by decide +kernel)
set_option maxRecDepth 20000 in
theorem wl_X8_in : ∀ w ∈ wsX80, w ∈ lw_tbl := mem_r _ [1277, 1279, 1281, 1283, 1285, 1287, 1289, 1291, 1293, 1295, 1297, 1299, 1301, 1303, 1305, 1307, 1309, 1311, 1313, 1315, 1317, 1319, 1321, 1323, 1325, 1327, 1329] (by decide +kernel)
set_option maxRecDepth 20000 in
theorem wl_X5_in : ∀ w ∈ wsX50, w ∈ lw_tbl := mem_r _ [152, 154, 156, 158, 160, 162, 164, 166, 168] (by decide +kernel)
set_option maxRecDepth 20000 in
theorem wl_X4_in : ∀ w ∈ wsX40, w ∈ lw_tbl := mem_r _ [348, 350, 352, 354, 356, 358, 360, 362, 364, 366, 368, 370, 372, 374, 376, 378, 380, 382] (by decide +kernel)
set_option maxRecDepth 20000 in
theorem wl_X1_in : ∀ w ∈ wsX10, w ∈ lw_tbl := mem_r _ [397, 399, 401] (by decide +kernel)
set_option maxRecDepth 20000 in
theorem wl_X0_in : ∀ w ∈ wsX00, w ∈ lw_tbl := mem_r _ [198, 200, 202] (by decide +kernel)
set_option maxRecDepth 20000 in
theorem wl_X3_in : ∀ w ∈ wsX30, w ∈ lw_tbl := mem_r _ [235, 237, 239, 241, 243, 245, 247, 249, 251] (by decide +kernel)
set_option maxRecDepth 20000 in
theorem wl_X6_in : ∀ w ∈ wsX60, w ∈ lw_tbl := mem_r _ [280, 282, 284, 286, 288, 290, 292] (by decide +kernel)
set_option maxRecDepth 20000 in
theorem wl_X2_in : ∀ w ∈ wsX20, w ∈ lw_tbl := mem_r _ [1108, 1110, 1112, 1114, 1116, 1118] (by decide +kernel)
set_option maxRecDepth 20000 in
theorem wsL_law_in : ∀ w ∈ wsL_law, w ∈ lw_tbl := by
  unfold wsL_law
  rw [List.append_nil]
  exact List.forall_mem_append.mpr ⟨List.forall_mem_append.mpr ⟨List.forall_mem_append.mpr ⟨List.forall_mem_append.mpr ⟨List.forall_mem_append.mpr ⟨List.forall_mem_append.mpr ⟨List.forall_mem_append.mpr ⟨List.forall_mem_append.mpr ⟨List.forall_mem_append.mpr ⟨List.forall_mem_append.mpr ⟨wsL_law_r1_in, List.forall_mem_append.mpr ⟨wsL_law_r2_in, List.forall_mem_append.mpr ⟨wsL_law_r3_in, List.forall_mem_append.mpr ⟨wsL_law_r4_in, List.forall_mem_append.mpr ⟨wsL_law_r5_in, List.forall_mem_append.mpr ⟨wsL_law_r6_in, List.forall_mem_append.mpr ⟨wsL_law_r7_in, List.forall_mem_append.mpr ⟨wsL_law_r8_in, List.forall_mem_append.mpr ⟨wsL_law_r9_in, List.forall_mem_append.mpr ⟨wsL_law_r10_in, List.forall_mem_append.mpr ⟨wsL_law_r11_in, List.forall_mem_append.mpr ⟨wsL_law_r12_in, List.forall_mem_append.mpr ⟨wsL_law_r13_in, List.forall_mem_append.mpr ⟨wsL_law_r14_in, List.forall_mem_append.mpr ⟨wsL_law_r15_in, List.forall_mem_append.mpr ⟨wsL_law_r16_in, List.forall_mem_append.mpr ⟨wsL_law_r17_in, List.forall_mem_append.mpr ⟨wsL_law_r18_in, List.forall_mem_append.mpr ⟨wsL_law_r19_in, List.forall_mem_append.mpr ⟨wsL_law_r20_in, List.forall_mem_append.mpr ⟨wsL_law_r21_in, List.forall_mem_append.mpr ⟨wsL_law_r22_in, List.forall_mem_append.mpr ⟨wsL_law_r23_in, List.forall_mem_append.mpr ⟨wsL_law_r24_in, List.forall_mem_append.mpr ⟨wsL_law_r25_in, List.forall_mem_append.mpr ⟨wsL_law_r26_in, List.forall_mem_append.mpr ⟨wsL_law_r27_in, List.forall_mem_append.mpr ⟨wsL_law_r28_in, List.forall_mem_append.mpr ⟨wsL_law_r29_in, List.forall_mem_append.mpr ⟨wsL_law_r30_in, List.forall_mem_append.mpr ⟨wsL_law_r31_in, List.forall_mem_append.mpr ⟨wsL_law_r32_in, List.forall_mem_append.mpr ⟨wsL_law_r33_in, List.forall_mem_append.mpr ⟨wsL_law_r34_in, List.forall_mem_append.mpr ⟨wsL_law_r35_in, List.forall_mem_append.mpr ⟨wsL_law_r36_in, List.forall_mem_append.mpr ⟨wsL_law_r37_in, List.forall_mem_append.mpr ⟨wsL_law_r38_in, List.forall_mem_append.mpr ⟨wsL_law_r39_in, List.forall_mem_append.mpr ⟨wsL_law_r40_in, List.forall_mem_append.mpr ⟨wsL_law_r41_in, List.forall_mem_append.mpr ⟨wsL_law_r42_in, List.forall_mem_append.mpr ⟨wsL_law_r43_in, List.forall_mem_append.mpr ⟨wsL_law_r44_in, List.forall_mem_append.mpr ⟨wsL_law_r45_in, List.forall_mem_append.mpr ⟨wsL_law_r46_in, List.forall_mem_append.mpr ⟨wsL_law_r47_in, List.forall_mem_append.mpr ⟨wsL_law_r48_in, List.forall_mem_append.mpr ⟨wsL_law_r49_in, List.forall_mem_append.mpr ⟨wsL_law_r50_in, List.forall_mem_append.mpr ⟨wsL_law_r51_in, List.forall_mem_append.mpr ⟨wsL_law_r52_in, List.forall_mem_append.mpr ⟨wsL_law_r53_in, List.forall_mem_append.mpr ⟨wsL_law_r54_in, List.forall_mem_append.mpr ⟨wsL_law_r55_in, List.forall_mem_append.mpr ⟨wsL_law_r56_in, List.forall_mem_append.mpr ⟨wsL_law_r57_in, List.forall_mem_append.mpr ⟨wsL_law_r58_in, List.forall_mem_append.mpr ⟨wsL_law_r59_in, List.forall_mem_append.mpr ⟨wsL_law_r60_in, List.forall_mem_append.mpr ⟨wsL_law_r61_in, List.forall_mem_append.mpr ⟨wsL_law_r62_in, List.forall_mem_append.mpr ⟨wsL_law_r63_in, List.forall_mem_append.mpr ⟨wsL_law_r64_in, List.forall_mem_append.mpr ⟨wsL_law_r65_in, List.forall_mem_append.mpr ⟨wsL_law_r66_in, wsL_law_r67_in⟩⟩⟩⟩⟩⟩⟩⟩⟩⟩⟩⟩⟩⟩⟩⟩⟩⟩⟩⟩⟩⟩⟩⟩⟩⟩⟩⟩⟩⟩⟩⟩⟩⟩⟩⟩⟩⟩⟩⟩⟩⟩⟩⟩⟩⟩⟩⟩⟩⟩⟩⟩⟩⟩⟩⟩⟩⟩⟩⟩⟩⟩⟩⟩⟩⟩, wl_X7_in⟩, wl_X8_in⟩, wl_X5_in⟩, wl_X4_in⟩, wl_X1_in⟩, wl_X0_in⟩, wl_X3_in⟩, wl_X6_in⟩, wl_X2_in⟩
theorem inlX0 : ∀ w ∈ wsX00, w ∈ wsL_law := fun _ h => List.mem_append_left _ (List.mem_append_left _ (List.mem_append_left _ (List.mem_append_left _ (List.mem_append_right _ h))))
theorem inX0 : ∀ w ∈ wsX00, w ∈ lw_tbl := wl_X0_in
theorem inlX1 : ∀ w ∈ wsX10, w ∈ wsL_law := fun _ h => List.mem_append_left _ (List.mem_append_left _ (List.mem_append_left _ (List.mem_append_left _ (List.mem_append_left _ (List.mem_append_right _ h)))))
theorem inX1 : ∀ w ∈ wsX10, w ∈ lw_tbl := wl_X1_in
theorem inlX2 : ∀ w ∈ wsX20, w ∈ wsL_law := fun _ h => List.mem_append_left _ (List.mem_append_right _ h)
theorem inX2 : ∀ w ∈ wsX20, w ∈ lw_tbl := wl_X2_in
theorem inlX3 : ∀ w ∈ wsX30, w ∈ wsL_law := fun _ h => List.mem_append_left _ (List.mem_append_left _ (List.mem_append_left _ (List.mem_append_right _ h)))
theorem inX3 : ∀ w ∈ wsX30, w ∈ lw_tbl := wl_X3_in
theorem inlX4 : ∀ w ∈ wsX40, w ∈ wsL_law := fun _ h => List.mem_append_left _ (List.mem_append_left _ (List.mem_append_left _ (List.mem_append_left _ (List.mem_append_left _ (List.mem_append_left _ (List.mem_append_right _ h))))))
theorem inX4 : ∀ w ∈ wsX40, w ∈ lw_tbl := wl_X4_in
theorem inlX5 : ∀ w ∈ wsX50, w ∈ wsL_law := fun _ h => List.mem_append_left _ (List.mem_append_left _ (List.mem_append_left _ (List.mem_append_left _ (List.mem_append_left _ (List.mem_append_left _ (List.mem_append_left _ (List.mem_append_right _ h)))))))
theorem inX5 : ∀ w ∈ wsX50, w ∈ lw_tbl := wl_X5_in
theorem inlX6 : ∀ w ∈ wsX60, w ∈ wsL_law := fun _ h => List.mem_append_left _ (List.mem_append_left _ (List.mem_append_right _ h))
theorem inX6 : ∀ w ∈ wsX60, w ∈ lw_tbl := wl_X6_in
theorem inlX7 : ∀ w ∈ wsX70, w ∈ wsL_law := fun _ h => List.mem_append_left _ (List.mem_append_left _ (List.mem_append_left _ (List.mem_append_left _ (List.mem_append_left _ (List.mem_append_left _ (List.mem_append_left _ (List.mem_append_left _ (List.mem_append_left _ (List.mem_append_right _ h)))))))))
theorem inX7 : ∀ w ∈ wsX70, w ∈ lw_tbl := wl_X7_in
theorem inlX8 : ∀ w ∈ wsX80, w ∈ wsL_law := fun _ h => List.mem_append_left _ (List.mem_append_left _ (List.mem_append_left _ (List.mem_append_left _ (List.mem_append_left _ (List.mem_append_left _ (List.mem_append_left _ (List.mem_append_left _ (List.mem_append_right _ h))))))))
theorem inX8 : ∀ w ∈ wsX80, w ∈ lw_tbl := wl_X8_in
