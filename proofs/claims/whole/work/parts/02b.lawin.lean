set_option maxRecDepth 20000 in
theorem wsL_law_r1_in : ∀ w ∈ wsL_law_r1, w ∈ lw_tbl := fun w h => (goodIn_p wsL_law_r1 [130, 133] (by decide +kernel) (by decide +kernel) w h).1
set_option maxRecDepth 20000 in
theorem wsL_law_r2_in : ∀ w ∈ wsL_law_r2, w ∈ lw_tbl := fun w h => (goodIn_p wsL_law_r2 [138, 177] (by decide +kernel) (by decide +kernel) w h).1
set_option maxRecDepth 20000 in
theorem wsL_law_r3_in : ∀ w ∈ wsL_law_r3, w ∈ lw_tbl := fun w h => (goodIn_p wsL_law_r3 [188, 209, 257, 298] (by decide +kernel) (by decide +kernel) w h).1
set_option maxRecDepth 20000 in
theorem wsL_law_r4_in : ∀ w ∈ wsL_law_r4, w ∈ lw_tbl := fun w h => (goodIn_p wsL_law_r4 [302, 389, 1247] (by decide +kernel) (by decide +kernel) w h).1
set_option maxRecDepth 20000 in
theorem wsL_law_r5_in : ∀ w ∈ wsL_law_r5, w ∈ lw_tbl := fun w h => (goodIn_p wsL_law_r5 [1252, 435, 440] (by decide +kernel) (by decide +kernel) w h).1
set_option maxRecDepth 20000 in
theorem wsL_law_r6_in : ∀ w ∈ wsL_law_r6, w ∈ lw_tbl := fun w h => (goodIn_p wsL_law_r6 [1813, 1817, 444] (by decide +kernel) (by decide +kernel) w h).1
set_option maxRecDepth 20000 in
theorem wsL_law_r7_in : ∀ w ∈ wsL_law_r7, w ∈ lw_tbl := fun w h => (goodIn_p wsL_law_r7 [449, 452, 457, 461] (by decide +kernel) (by decide +kernel) w h).1
set_option maxRecDepth 20000 in
theorem wsL_law_r8_in : ∀ w ∈ wsL_law_r8, w ∈ lw_tbl := fun w h => (goodIn_p wsL_law_r8 [465, 469, 474, 478, 482] (by decide +kernel) (by decide +kernel) w h).1
set_option maxRecDepth 20000 in
theorem wsL_law_r9_in : ∀ w ∈ wsL_law_r9, w ∈ lw_tbl := fun w h => (goodIn_p wsL_law_r9 [488, 492, 495, 498, 503, 506, 509] (by decide +kernel) (by decide +kernel) w h).1
set_option maxRecDepth 20000 in
theorem wsL_law_r10_in : ∀ w ∈ wsL_law_r10, w ∈ lw_tbl := fun w h => (goodIn_p wsL_law_r10 [512, 516, 526, 530, 534] (by decide +kernel) (by decide +kernel) w h).1
set_option maxRecDepth 20000 in
theorem wsL_law_r11_in : ∀ w ∈ wsL_law_r11, w ∈ lw_tbl := fun w h => (goodIn_p wsL_law_r11 [538, 542, 547, 551, 556] (by decide +kernel) (by decide +kernel) w h).1
set_option maxRecDepth 20000 in
theorem wsL_law_r12_in : ∀ w ∈ wsL_law_r12, w ∈ lw_tbl := fun w h => (goodIn_p wsL_law_r12 [561, 565, 569, 573] (by decide +kernel) (by decide +kernel) w h).1
set_option maxRecDepth 20000 in
theorem wsL_law_r13_in : ∀ w ∈ wsL_law_r13, w ∈ lw_tbl := fun w h => (goodIn_p wsL_law_r13 [576, 581, 585, 589, 593] (by decide +kernel) (by decide +kernel) w h).1
set_option maxRecDepth 20000 in
theorem wsL_law_r14_in : ∀ w ∈ wsL_law_r14, w ∈ lw_tbl := fun w h => (goodIn_p wsL_law_r14 [597, 601, 606, 610, 615] (by decide +kernel) (by decide +kernel) w h).1
set_option maxRecDepth 20000 in
theorem wsL_law_r15_in : ∀ w ∈ wsL_law_r15, w ∈ lw_tbl := fun w h => (goodIn_p wsL_law_r15 [619, 624, 628, 632, 637] (by decide +kernel) (by decide +kernel) w h).1
set_option maxRecDepth 20000 in
theorem wsL_law_r16_in : ∀ w ∈ wsL_law_r16, w ∈ lw_tbl := fun w h => (goodIn_p wsL_law_r16 [641, 645, 650, 654] (by decide +kernel) (by decide +kernel) w h).1
set_option maxRecDepth 20000 in
theorem wsL_law_r17_in : ∀ w ∈ wsL_law_r17, w ∈ lw_tbl := fun w h => (goodIn_p wsL_law_r17 [658, 662, 667, 672, 676] (by decide +kernel) (by decide +kernel) w h).1
set_option maxRecDepth 20000 in
theorem wsL_law_r18_in : ∀ w ∈ wsL_law_r18, w ∈ lw_tbl := fun w h => (goodIn_p wsL_law_r18 [680, 1821, 1345] (by decide +kernel) (by decide +kernel) w h).1
set_option maxRecDepth 20000 in
theorem wsL_law_r19_in : ∀ w ∈ wsL_law_r19, w ∈ lw_tbl := fun w h => (goodIn_p wsL_law_r19 [1825, 1829, 1835, 1839] (by decide +kernel) (by decide +kernel) w h).1
set_option maxRecDepth 20000 in
theorem wsL_law_r20_in : ∀ w ∈ wsL_law_r20, w ∈ lw_tbl := fun w h => (goodIn_p wsL_law_r20 [1844, 1848, 1852, 1856, 1860] (by decide +kernel) (by decide +kernel) w h).1
set_option maxRecDepth 20000 in
theorem wsL_law_r21_in : ∀ w ∈ wsL_law_r21, w ∈ lw_tbl := fun w h => (goodIn_p wsL_law_r21 [1864, 1869, 1874, 1879, 1687, 1884, 1506] (by decide +kernel) (by decide +kernel) w h).1
set_option maxRecDepth 20000 in
theorem wsL_law_r22_in : ∀ w ∈ wsL_law_r22, w ∈ lw_tbl := fun w h => (goodIn_p wsL_law_r22 [1680, 1503, 1889, 1893, 1533, 1536, 1657] (by decide +kernel) (by decide +kernel) w h).1
set_option maxRecDepth 20000 in
theorem wsL_law_r23_in : ∀ w ∈ wsL_law_r23, w ∈ lw_tbl := fun w h => (goodIn_p wsL_law_r23 [1898, 1672, 1668, 1421, 684, 1903] (by decide +kernel) (by decide +kernel) w h).1
set_option maxRecDepth 20000 in
theorem wsL_law_r24_in : ∀ w ∈ wsL_law_r24, w ∈ lw_tbl := fun w h => (goodIn_p wsL_law_r24 [688, 1907, 693, 1338, 1342] (by decide +kernel) (by decide +kernel) w h).1
set_option maxRecDepth 20000 in
theorem wsL_law_r25_in : ∀ w ∈ wsL_law_r25, w ∈ lw_tbl := fun w h => (goodIn_p wsL_law_r25 [699, 703, 708, 1350, 1354, 1358] (by decide +kernel) (by decide +kernel) w h).1
set_option maxRecDepth 20000 in
theorem wsL_law_r26_in : ∀ w ∈ wsL_law_r26, w ∈ lw_tbl := fun w h => (goodIn_p wsL_law_r26 [712, 715, 1362, 1365, 719, 723] (by decide +kernel) (by decide +kernel) w h).1
set_option maxRecDepth 20000 in
theorem wsL_law_r27_in : ∀ w ∈ wsL_law_r27, w ∈ lw_tbl := fun w h => (goodIn_p wsL_law_r27 [1369, 1373, 727, 1377, 731] (by decide +kernel) (by decide +kernel) w h).1
set_option maxRecDepth 20000 in
theorem wsL_law_r28_in : ∀ w ∈ wsL_law_r28, w ∈ lw_tbl := fun w h => (goodIn_p wsL_law_r28 [1381, 735, 1385, 739, 1389, 743] (by decide +kernel) (by decide +kernel) w h).1
set_option maxRecDepth 20000 in
theorem wsL_law_r29_in : ∀ w ∈ wsL_law_r29, w ∈ lw_tbl := fun w h => (goodIn_p wsL_law_r29 [747, 752, 757, 1393, 1398] (by decide +kernel) (by decide +kernel) w h).1
set_option maxRecDepth 20000 in
theorem wsL_law_r30_in : ∀ w ∈ wsL_law_r30, w ∈ lw_tbl := fun w h => (goodIn_p wsL_law_r30 [1402, 761, 765, 770, 774, 777] (by decide +kernel) (by decide +kernel) w h).1
set_option maxRecDepth 20000 in
theorem wsL_law_r31_in : ∀ w ∈ wsL_law_r31, w ∈ lw_tbl := fun w h => (goodIn_p wsL_law_r31 [1406, 1410, 1414, 1418, 1425] (by decide +kernel) (by decide +kernel) w h).1
set_option maxRecDepth 20000 in
theorem wsL_law_r32_in : ∀ w ∈ wsL_law_r32, w ∈ lw_tbl := fun w h => (goodIn_p wsL_law_r32 [1429, 1433, 1436, 1440, 1444, 1448, 781] (by decide +kernel) (by decide +kernel) w h).1
set_option maxRecDepth 20000 in
theorem wsL_law_r33_in : ∀ w ∈ wsL_law_r33, w ∈ lw_tbl := fun w h => (goodIn_p wsL_law_r33 [1452, 786, 1456, 1460, 791] (by decide +kernel) (by decide +kernel) w h).1
set_option maxRecDepth 20000 in
theorem wsL_law_r34_in : ∀ w ∈ wsL_law_r34, w ∈ lw_tbl := fun w h => (goodIn_p wsL_law_r34 [1464, 795, 1468, 799, 803] (by decide +kernel) (by decide +kernel) w h).1
set_option maxRecDepth 20000 in
theorem wsL_law_r35_in : ∀ w ∈ wsL_law_r35, w ∈ lw_tbl := fun w h => (goodIn_p wsL_law_r35 [1472, 1476, 807, 1480, 811, 1484] (by decide +kernel) (by decide +kernel) w h).1
set_option maxRecDepth 20000 in
theorem wsL_law_r36_in : ∀ w ∈ wsL_law_r36, w ∈ lw_tbl := fun w h => (goodIn_p wsL_law_r36 [815, 819, 823, 1488, 1492, 827] (by decide +kernel) (by decide +kernel) w h).1
set_option maxRecDepth 20000 in
theorem wsL_law_r37_in : ∀ w ∈ wsL_law_r37, w ∈ lw_tbl := fun w h => (goodIn_p wsL_law_r37 [831, 835, 1496, 1500, 840] (by decide +kernel) (by decide +kernel) w h).1
set_option maxRecDepth 20000 in
theorem wsL_law_r38_in : ∀ w ∈ wsL_law_r38, w ∈ lw_tbl := fun w h => (goodIn_p wsL_law_r38 [843, 1510, 1513, 1516, 849] (by decide +kernel) (by decide +kernel) w h).1
set_option maxRecDepth 20000 in
theorem wsL_law_r39_in : ∀ w ∈ wsL_law_r39, w ∈ lw_tbl := fun w h => (goodIn_p wsL_law_r39 [853, 856, 1524, 860, 863, 1528] (by decide +kernel) (by decide +kernel) w h).1
set_option maxRecDepth 20000 in
theorem wsL_law_r40_in : ∀ w ∈ wsL_law_r40, w ∈ lw_tbl := fun w h => (goodIn_p wsL_law_r40 [868, 873, 1540, 1544, 877] (by decide +kernel) (by decide +kernel) w h).1
set_option maxRecDepth 20000 in
theorem wsL_law_r41_in : ∀ w ∈ wsL_law_r41, w ∈ lw_tbl := fun w h => (goodIn_p wsL_law_r41 [881, 1548, 1552, 1556, 885, 1560] (by decide +kernel) (by decide +kernel) w h).1
set_option maxRecDepth 20000 in
theorem wsL_law_r42_in : ∀ w ∈ wsL_law_r42, w ∈ lw_tbl := fun w h => (goodIn_p wsL_law_r42 [889, 1564, 893, 1568, 897] (by decide +kernel) (by decide +kernel) w h).1
set_option maxRecDepth 20000 in
theorem wsL_law_r43_in : ∀ w ∈ wsL_law_r43, w ∈ lw_tbl := fun w h => (goodIn_p wsL_law_r43 [1572, 901, 905, 910, 914] (by decide +kernel) (by decide +kernel) w h).1
set_option maxRecDepth 20000 in
theorem wsL_law_r44_in : ∀ w ∈ wsL_law_r44, w ∈ lw_tbl := fun w h => (goodIn_p wsL_law_r44 [1576, 1580, 918, 922, 927, 1584] (by decide +kernel) (by decide +kernel) w h).1
set_option maxRecDepth 20000 in
theorem wsL_law_r45_in : ∀ w ∈ wsL_law_r45, w ∈ lw_tbl := fun w h => (goodIn_p wsL_law_r45 [1588, 1592, 1596, 1601, 1605, 1609] (by decide +kernel) (by decide +kernel) w h).1
set_option maxRecDepth 20000 in
theorem wsL_law_r46_in : ∀ w ∈ wsL_law_r46, w ∈ lw_tbl := fun w h => (goodIn_p wsL_law_r46 [931, 935, 1613, 939, 1617] (by decide +kernel) (by decide +kernel) w h).1
set_option maxRecDepth 20000 in
theorem wsL_law_r47_in : ∀ w ∈ wsL_law_r47, w ∈ lw_tbl := fun w h => (goodIn_p wsL_law_r47 [944, 948, 1621, 952, 956, 960] (by decide +kernel) (by decide +kernel) w h).1
set_option maxRecDepth 20000 in
theorem wsL_law_r48_in : ∀ w ∈ wsL_law_r48, w ∈ lw_tbl := fun w h => (goodIn_p wsL_law_r48 [965, 972, 976, 981] (by decide +kernel) (by decide +kernel) w h).1
set_option maxRecDepth 20000 in
theorem wsL_law_r49_in : ∀ w ∈ wsL_law_r49, w ∈ lw_tbl := fun w h => (goodIn_p wsL_law_r49 [985, 989, 993, 1625, 1629] (by decide +kernel) (by decide +kernel) w h).1
set_option maxRecDepth 20000 in
theorem wsL_law_r50_in : ∀ w ∈ wsL_law_r50, w ∈ lw_tbl := fun w h => (goodIn_p wsL_law_r50 [1633, 997, 1001, 1637, 1005, 1009] (by decide +kernel) (by decide +kernel) w h).1
set_option maxRecDepth 20000 in
theorem wsL_law_r51_in : ∀ w ∈ wsL_law_r51, w ∈ lw_tbl := fun w h => (goodIn_p wsL_law_r51 [1641, 1015, 1019, 1023, 1645] (by decide +kernel) (by decide +kernel) w h).1
set_option maxRecDepth 20000 in
theorem wsL_law_r52_in : ∀ w ∈ wsL_law_r52, w ∈ lw_tbl := fun w h => (goodIn_p wsL_law_r52 [1649, 1654, 1028, 1661, 1032, 1036] (by decide +kernel) (by decide +kernel) w h).1
set_option maxRecDepth 20000 in
theorem wsL_law_r53_in : ∀ w ∈ wsL_law_r53, w ∈ lw_tbl := fun w h => (goodIn_p wsL_law_r53 [1665, 1041, 1048, 1676] (by decide +kernel) (by decide +kernel) w h).1
set_option maxRecDepth 20000 in
theorem wsL_law_r54_in : ∀ w ∈ wsL_law_r54, w ∈ lw_tbl := fun w h => (goodIn_p wsL_law_r54 [1052, 1684, 1056, 1059, 1691, 1064] (by decide +kernel) (by decide +kernel) w h).1
set_option maxRecDepth 20000 in
theorem wsL_law_r55_in : ∀ w ∈ wsL_law_r55, w ∈ lw_tbl := fun w h => (goodIn_p wsL_law_r55 [1696, 1068, 1072, 1076, 1700] (by decide +kernel) (by decide +kernel) w h).1
set_option maxRecDepth 20000 in
theorem wsL_law_r56_in : ∀ w ∈ wsL_law_r56, w ∈ lw_tbl := fun w h => (goodIn_p wsL_law_r56 [1704, 1708, 1080, 1084, 1088] (by decide +kernel) (by decide +kernel) w h).1
set_option maxRecDepth 20000 in
theorem wsL_law_r57_in : ∀ w ∈ wsL_law_r57, w ∈ lw_tbl := fun w h => (goodIn_p wsL_law_r57 [1092, 1097, 1127, 1131, 1135] (by decide +kernel) (by decide +kernel) w h).1
set_option maxRecDepth 20000 in
theorem wsL_law_r58_in : ∀ w ∈ wsL_law_r58, w ∈ lw_tbl := fun w h => (goodIn_p wsL_law_r58 [1140, 1144, 1149] (by decide +kernel) (by decide +kernel) w h).1
set_option maxRecDepth 20000 in
theorem wsL_law_r59_in : ∀ w ∈ wsL_law_r59, w ∈ lw_tbl := fun w h => (goodIn_p wsL_law_r59 [1153, 1160, 1164, 1168, 1172] (by decide +kernel) (by decide +kernel) w h).1
set_option maxRecDepth 20000 in
theorem wsL_law_r60_in : ∀ w ∈ wsL_law_r60, w ∈ lw_tbl := fun w h => (goodIn_p wsL_law_r60 [1712, 1716, 1720, 1724, 1728, 1732] (by decide +kernel) (by decide +kernel) w h).1
set_option maxRecDepth 20000 in
theorem wsL_law_r61_in : ∀ w ∈ wsL_law_r61, w ∈ lw_tbl := fun w h => (goodIn_p wsL_law_r61 [1736, 1740, 1745, 1749, 1753, 1178] (by decide +kernel) (by decide +kernel) w h).1
set_option maxRecDepth 20000 in
theorem wsL_law_r62_in : ∀ w ∈ wsL_law_r62, w ∈ lw_tbl := fun w h => (goodIn_p wsL_law_r62 [1182, 1757, 1186, 1761, 1190, 1194] (by decide +kernel) (by decide +kernel) w h).1
set_option maxRecDepth 20000 in
theorem wsL_law_r63_in : ∀ w ∈ wsL_law_r63, w ∈ lw_tbl := fun w h => (goodIn_p wsL_law_r63 [1198, 1765, 1769, 1202, 1773, 1206] (by decide +kernel) (by decide +kernel) w h).1
set_option maxRecDepth 20000 in
theorem wsL_law_r64_in : ∀ w ∈ wsL_law_r64, w ∈ lw_tbl := fun w h => (goodIn_p wsL_law_r64 [1777, 1210, 1781, 1215, 1785] (by decide +kernel) (by decide +kernel) w h).1
set_option maxRecDepth 20000 in
theorem wsL_law_r65_in : ∀ w ∈ wsL_law_r65, w ∈ lw_tbl := fun w h => (goodIn_p wsL_law_r65 [1221, 1225, 1789, 1793, 1230] (by decide +kernel) (by decide +kernel) w h).1
set_option maxRecDepth 20000 in
theorem wsL_law_r66_in : ∀ w ∈ wsL_law_r66, w ∈ lw_tbl := fun w h => (goodIn_p wsL_law_r66 [1234, 1238, 1797, 1801, 1805, 1242] (by decide +kernel) (by decide +kernel) w h).1
set_option maxRecDepth 20000 in
theorem wsL_law_r67_in : ∀ w ∈ wsL_law_r67, w ∈ lw_tbl := fun w h => (goodIn_p wsL_law_r67 [1809] (by decide +kernel) (by decide +kernel) w h).1
set_option maxRecDepth 20000 in
theorem wl_X7_in : ∀ w ∈ wsX70, w ∈ lw_tbl := fun w h => (goodIn_p wsX70 [] (by decide +kernel) (by decide +kernel) w h).1
set_option maxRecDepth 20000 in
theorem wl_X8_in : ∀ w ∈ wsX80, w ∈ lw_tbl := fun w h => (goodIn_p wsX80 [] (by decide +kernel) (by decide +kernel) w h).1
set_option maxRecDepth 20000 in
theorem wl_X5_in : ∀ w ∈ wsX50, w ∈ lw_tbl := fun w h => (goodIn_p wsX50 [] (by decide +kernel) (by decide +kernel) w h).1
set_option maxRecDepth 20000 in
theorem wl_X4_in : ∀ w ∈ wsX40, w ∈ lw_tbl := fun w h => (goodIn_p wsX40 [] (by decide +kernel) (by decide +kernel) w h).1
set_option maxRecDepth 20000 in
theorem wl_X1_in : ∀ w ∈ wsX10, w ∈ lw_tbl := fun w h => (goodIn_p wsX10 [] (by decide +kernel) (by decide +kernel) w h).1
set_option maxRecDepth 20000 in
theorem wl_X0_in : ∀ w ∈ wsX00, w ∈ lw_tbl := fun w h => (goodIn_p wsX00 [] (by decide +kernel) (by decide +kernel) w h).1
set_option maxRecDepth 20000 in
theorem wl_X3_in : ∀ w ∈ wsX30, w ∈ lw_tbl := fun w h => (goodIn_p wsX30 [] (by decide +kernel) (by decide +kernel) w h).1
set_option maxRecDepth 20000 in
theorem wl_X6_in : ∀ w ∈ wsX60, w ∈ lw_tbl := fun w h => (goodIn_p wsX60 [] (by decide +kernel) (by decide +kernel) w h).1
set_option maxRecDepth 20000 in
theorem wl_X2_in : ∀ w ∈ wsX20, w ∈ lw_tbl := fun w h => (goodIn_p wsX20 [] (by decide +kernel) (by decide +kernel) w h).1
set_option maxRecDepth 20000 in
theorem wsL_law_in : ∀ w ∈ wsL_law, w ∈ lw_tbl := by
  unfold wsL_law
  rw [List.append_nil]
  exact List.forall_mem_append.mpr ⟨List.forall_mem_append.mpr ⟨List.forall_mem_append.mpr ⟨List.forall_mem_append.mpr ⟨List.forall_mem_append.mpr ⟨List.forall_mem_append.mpr ⟨List.forall_mem_append.mpr ⟨List.forall_mem_append.mpr ⟨List.forall_mem_append.mpr ⟨List.forall_mem_append.mpr ⟨wsL_law_r1_in, List.forall_mem_append.mpr ⟨wsL_law_r2_in, List.forall_mem_append.mpr ⟨wsL_law_r3_in, List.forall_mem_append.mpr ⟨wsL_law_r4_in, List.forall_mem_append.mpr ⟨wsL_law_r5_in, List.forall_mem_append.mpr ⟨wsL_law_r6_in, List.forall_mem_append.mpr ⟨wsL_law_r7_in, List.forall_mem_append.mpr ⟨wsL_law_r8_in, List.forall_mem_append.mpr ⟨wsL_law_r9_in, List.forall_mem_append.mpr ⟨wsL_law_r10_in, List.forall_mem_append.mpr ⟨wsL_law_r11_in, List.forall_mem_append.mpr ⟨wsL_law_r12_in, List.forall_mem_append.mpr ⟨wsL_law_r13_in, List.forall_mem_append.mpr ⟨wsL_law_r14_in, List.forall_mem_append.mpr ⟨wsL_law_r15_in, List.forall_mem_append.mpr ⟨wsL_law_r16_in, List.forall_mem_append.mpr ⟨wsL_law_r17_in, List.forall_mem_append.mpr ⟨wsL_law_r18_in, List.forall_mem_append.mpr ⟨wsL_law_r19_in, List.forall_mem_append.mpr ⟨wsL_law_r20_in, List.forall_mem_append.mpr ⟨wsL_law_r21_in, List.forall_mem_append.mpr ⟨wsL_law_r22_in, List.forall_mem_append.mpr ⟨wsL_law_r23_in, List.forall_mem_append.mpr ⟨wsL_law_r24_in, List.forall_mem_append.mpr ⟨wsL_law_r25_in, List.forall_mem_append.mpr ⟨wsL_law_r26_in, List.forall_mem_append.mpr ⟨wsL_law_r27_in, List.forall_mem_append.mpr ⟨wsL_law_r28_in, List.forall_mem_append.mpr ⟨wsL_law_r29_in, List.forall_mem_append.mpr ⟨wsL_law_r30_in, List.forall_mem_append.mpr ⟨wsL_law_r31_in, List.forall_mem_append.mpr ⟨wsL_law_r32_in, List.forall_mem_append.mpr ⟨wsL_law_r33_in, List.forall_mem_append.mpr ⟨wsL_law_r34_in, List.forall_mem_append.mpr ⟨wsL_law_r35_in, List.forall_mem_append.mpr ⟨wsL_law_r36_in, List.forall_mem_append.mpr ⟨wsL_law_r37_in, List.forall_mem_append.mpr ⟨wsL_law_r38_in, List.forall_mem_append.mpr ⟨wsL_law_r39_in, List.forall_mem_append.mpr ⟨wsL_law_r40_in, List.forall_mem_append.mpr ⟨wsL_law_r41_in, List.forall_mem_append.mpr ⟨wsL_law_r42_in, List.forall_mem_append.mpr ⟨wsL_law_r43_in, List.forall_mem_append.mpr ⟨wsL_law_r44_in, List.forall_mem_append.mpr ⟨wsL_law_r45_in, List.forall_mem_append.mpr ⟨wsL_law_r46_in, List.forall_mem_append.mpr ⟨wsL_law_r47_in, List.forall_mem_append.mpr ⟨wsL_law_r48_in, List.forall_mem_append.mpr ⟨wsL_law_r49_in, List.forall_mem_append.mpr ⟨wsL_law_r50_in, List.forall_mem_append.mpr ⟨wsL_law_r51_in, List.forall_mem_append.mpr ⟨wsL_law_r52_in, List.forall_mem_append.mpr ⟨wsL_law_r53_in, List.forall_mem_append.mpr ⟨wsL_law_r54_in, List.forall_mem_append.mpr ⟨wsL_law_r55_in, List.forall_mem_append.mpr ⟨wsL_law_r56_in, List.forall_mem_append.mpr ⟨wsL_law_r57_in, List.forall_mem_append.mpr ⟨wsL_law_r58_in, List.forall_mem_append.mpr ⟨wsL_law_r59_in, List.forall_mem_append.mpr ⟨wsL_law_r60_in, List.forall_mem_append.mpr ⟨wsL_law_r61_in, List.forall_mem_append.mpr ⟨wsL_law_r62_in, List.forall_mem_append.mpr ⟨wsL_law_r63_in, List.forall_mem_append.mpr ⟨wsL_law_r64_in, List.forall_mem_append.mpr ⟨wsL_law_r65_in, List.forall_mem_append.mpr ⟨wsL_law_r66_in, wsL_law_r67_in⟩⟩⟩⟩⟩⟩⟩⟩⟩⟩⟩⟩⟩⟩⟩⟩⟩⟩⟩⟩⟩⟩⟩⟩⟩⟩⟩⟩⟩⟩⟩⟩⟩⟩⟩⟩⟩⟩⟩⟩⟩⟩⟩⟩⟩⟩⟩⟩⟩⟩⟩⟩⟩⟩⟩⟩⟩⟩⟩⟩⟩⟩⟩⟩⟩⟩, wl_X7_in⟩, wl_X8_in⟩, wl_X5_in⟩, wl_X4_in⟩, wl_X1_in⟩, wl_X0_in⟩, wl_X3_in⟩, wl_X6_in⟩, wl_X2_in⟩
theorem inlX0 : ∀ w ∈ wsX00, w ∈ wsL_law := fun _ h => List.mem_append_left _ (List.mem_append_left _ (List.mem_append_left _ (List.mem_append_left _ (List.mem_append_right _ h))))
theorem inX0 : ∀ w ∈ wsX00, w ∈ lw_tbl := wl_X0_in
theorem inlX1 : ∀ w ∈ wsX10, w ∈ wsL_law := fun _ h => List.mem_append_left _ (List.mem_append_left _ (List.mem_append_left _ (List.mem_append_left _ (List.mem_append_left _ (List.mem_append_right _ h)))))
theorem inX1 : ∀ w ∈ wsX10, w ∈ lw_tbl := wl_X1_in
theorem inlX2 : ∀ w ∈ wsX20, w ∈ wsL_law := fun _ h => List.mem_append_left _ (List.mem_append_right _ h)
theorem inX2 : ∀ w ∈ wsX20, w ∈ lw_tbl := wl_X2_in
theorem inlX3 : ∀ w ∈ wsX30, w ∈ wsL_law := fun _ h => List.mem_append_left _ (List.mem_append_left _ (List.mem_append_left _ (List.mem_append_right _ h)))
theorem inX3 : ∀ w ∈ wsX30, w ∈ lw_tbl := wl_X3_in
theorem inlX4 : ∀ w ∈ wsX40, w ∈ wsL_law := fun _ h => List.mem_append_left _ (List.mem_append_left _ (List.mem_append_left _ (List.mem_append_left _ (List.mem_append_left _ (List.mem_append_left _ (List.mem_append_right _ h))))))
theorem inX4 : ∀ w ∈ wsX40, w ∈ lw_tbl := wl_X4_in
theorem inlX5 : ∀ w ∈ wsX50, w ∈ wsL_law := fun _ h => List.mem_append_left _ (List.mem_append_left _ (List.mem_append_left _ (List.mem_append_left _ (List.mem_append_left _ (List.mem_append_left _ (List.mem_append_left _ (List.mem_append_right _ h)))))))
theorem inX5 : ∀ w ∈ wsX50, w ∈ lw_tbl := wl_X5_in
theorem inlX6 : ∀ w ∈ wsX60, w ∈ wsL_law := fun _ h => List.mem_append_left _ (List.mem_append_left _ (List.mem_append_right _ h))
theorem inX6 : ∀ w ∈ wsX60, w ∈ lw_tbl := wl_X6_in
theorem inlX7 : ∀ w ∈ wsX70, w ∈ wsL_law := fun _ h => List.mem_append_left _ (List.mem_append_left _ (List.mem_append_left _ (List.mem_append_left _ (List.mem_append_left _ (List.mem_append_left _ (List.mem_append_left _ (List.mem_append_left _ (List.mem_append_left _ (List.mem_append_right _ h)))))))))
theorem inX7 : ∀ w ∈ wsX70, w ∈ lw_tbl := wl_X7_in
theorem inlX8 : ∀ w ∈ wsX80, w ∈ wsL_law := fun _ h => List.mem_append_left _ (List.mem_append_left _ (List.mem_append_left _ (List.mem_append_left _ (List.mem_append_left _ (List.mem_append_left _ (List.mem_append_left _ (List.mem_append_left _ (List.mem_append_right _ h))))))))
theorem inX8 : ∀ w ∈ wsX80, w ∈ lw_tbl := wl_X8_in
theorem inJx145de : ∀ w ∈ wsJx145de0, w ∈ lw_tbl := by decide +kernel
theorem inJx9f9b0 : ∀ w ∈ wsJx9f9b00, w ∈ lw_tbl := by decide +kernel
theorem inJxb160c : ∀ w ∈ wsJxb160c0, w ∈ lw_tbl := by decide +kernel
theorem inJxf58ca : ∀ w ∈ wsJxf58ca0, w ∈ lw_tbl := by decide +kernel
theorem inJ9 : ∀ w ∈ wsJ90, w ∈ lw_tbl := by decide +kernel
theorem inJxd2413 : ∀ w ∈ wsJxd24130, w ∈ lw_tbl := by decide +kernel
theorem inJ0 : ∀ w ∈ wsJ00, w ∈ lw_tbl := by decide +kernel
theorem inJ1 : ∀ w ∈ wsJ10, w ∈ lw_tbl := by decide +kernel
theorem inJ2 : ∀ w ∈ wsJ20, w ∈ lw_tbl := by decide +kernel
theorem inJ10 : ∀ w ∈ wsJ100, w ∈ lw_tbl := by decide +kernel
theorem inJxfd54e : ∀ w ∈ wsJxfd54e0, w ∈ lw_tbl := by decide +kernel
theorem inJx3cf43 : ∀ w ∈ wsJx3cf430, w ∈ lw_tbl := by decide +kernel
theorem inJ7 : ∀ w ∈ wsJ70, w ∈ lw_tbl := by decide +kernel
theorem inJ3 : ∀ w ∈ wsJ30, w ∈ lw_tbl := by decide +kernel

