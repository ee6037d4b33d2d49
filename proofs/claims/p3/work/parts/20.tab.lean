
/-! THE CLAIM OUT OF ONE WALK OF THE LAW'S BODY. Your part is whole_start (and what it stands on); all else here is the same for every law, but numbers. -/
def R_law : String := "HubTreeLaw"
def lw_P (b : Addr) (xs : List Int32) (args : Array Value) (s : State) : Prop := args = #[.ref b] ∧ s.IntsAt b xs ∧ xs.length ≤ 3072 ∧ (Jvm.Cond.and given_1 narrow_1).before args s = true
def lw_Q (_ : Array Value) (s : State) (o : Outcome) (t : State) : Prop := o = .returned (some (.int 1)) ∧ Framed s o t [] 1070 26367
def lw_Z (below : List Frame) (a : Array Value) (s : State) : State → Prop := fun t => ∃ o, t.status = .running ∧ Ended t below o ∧ lw_Q a s o t
/-- the law's own end, with 1 on the stack, nothing written that was there before, its room as the claim has it -/
theorem lw_ret {p : Program} {l : Launch} {e : Env} {s : State} {m : MethodId} {below : List Frame} {meth : Method} {c : Code} {b : Nat} (hx : p.tables.exec = Jvm.exec) (hb : c.code = code) (hr : meth.sig.returnType = ret) (hlocks : meth.locks = false) {pc : Nat} {H : Heap} {ls : Array Slot} (hdg : decode code pc = .ok (.ireturn, 1)) : W p l e room_1 s m #[Value.ref b] below meth c H [] 1070 26367 (lw_Z below #[Value.ref b] s) (F0 m pc ls [.int 1]) := by
  intro T hT X
  obtain ⟨fs, hret, hrun, hended, hW, hframe⟩ := X.leave (v := some (.int 1)) (hlocks := hlocks) (fun h => by rw [hr] at h; cases h)
  have hmeth' : T.vm.method? m = some meth := X.method'
  refine ⟨T.setFrames fs, ?_, .returned (some (.int 1)), hrun, hended, rfl, ⟨_, rfl⟩, hW, hframe⟩
  jvm_step X.here [X.here.top, hx, hb, hdg, hmeth', hr, ret, narrow_b1]
  (try refine ⟨rfl, ?_⟩); (try refine ⟨rfl, ?_⟩)
  first | (intro acts; rw [hret _ acts rfl rfl rfl]) | rw [hret _ _ rfl rfl rfl]
  exact Steps.refl _
/-- what holds at the law's entry: the machine, the code, the tables' words (any of lw_tbl by 'hts w (by decide +kernel)'), the script of L ints xs at the cell b, what the Statement gives of the start (any of its parts by flat_of_before) -/
def lw_At (p : Program) (s : State) (m : MethodId) (meth : Method) (c : Code) (b L : Nat) (xs : Nat → Int32) : Prop :=
  p.tables.exec = Jvm.exec ∧ c.code = code ∧ meth.sig.returnType = ret ∧ c.maxLocals = 7 ∧ s.vm.findClass R_law = some m.cls ∧ (∀ w ∈ lw_tbl, w.before #[Value.ref b] s = true) ∧ va_X b L xs s s.heap ∧ b < s.heap.size ∧ meth.locks = false ∧ (Jvm.Cond.and given_1 narrow_1).before #[Value.ref b] s = true

set_option maxRecDepth 20000 in
theorem wAt_0 : ∀ w ∈ wA_0, w ∈ lw_tbl := fun w h => (goodIn_r (big := lw_tbl) wA_0 [153, 154, 129, 1178, 1179, 139, 1781, 1780, 155, 156, 157, 158, 159, 160, 161, 162, 130, 316, 178, 179, 131, 317, 194, 195, 132, 318, 319, 220, 221, 133, 320, 246, 247, 134, 321, 322, 261, 262, 135, 323] (by decide +kernel) (by decide +kernel) w h).1
set_option maxRecDepth 20000 in
theorem wAt_1 : ∀ w ∈ wA_1, w ∈ lw_tbl := fun w h => (goodIn_r (big := lw_tbl) wA_1 [274, 275, 136, 324, 291, 292, 137, 325, 326, 327, 305, 306, 138, 328, 219, 329, 330, 164, 165, 166, 177, 167, 169, 180, 181, 182, 183, 185, 186, 184, 197, 198, 199, 200, 204, 208, 223, 224, 225, 226] (by decide +kernel) (by decide +kernel) w h).1
set_option maxRecDepth 20000 in
theorem wAt_2 : ∀ w ∈ wA_2, w ∈ lw_tbl := fun w h => (goodIn_r (big := lw_tbl) wA_2 [227, 229, 231, 233, 248, 249, 250, 251, 252, 255, 263, 264, 265, 266, 267, 268, 277, 278, 279, 280, 281, 282, 294, 295, 296, 297, 298, 308, 309, 310, 311, 1180, 1181, 1182, 1183, 1185, 1189, 1190, 1192, 1193] (by decide +kernel) (by decide +kernel) w h).1
set_option maxRecDepth 20000 in
theorem wAt_3 : ∀ w ∈ wA_3, w ∈ lw_tbl := fun w h => (goodIn_r (big := lw_tbl) wA_3 [1195, 1196, 1198, 1199, 1200, 1203, 1204, 1205, 1206, 362, 363, 364, 365, 170, 366, 367, 368, 369, 370, 371, 372, 1257, 1258, 1259, 1260, 1186, 1261, 1262, 1263, 373, 374, 375, 376, 1264, 1265, 1266, 1267, 1268, 1269, 1270] (by decide +kernel) (by decide +kernel) w h).1
set_option maxRecDepth 20000 in
theorem wAt_4 : ∀ w ∈ wA_4, w ∈ lw_tbl := fun w h => (goodIn_r (big := lw_tbl) wA_4 [377, 378, 379, 380, 381, 382, 383, 384, 201, 210, 206, 171, 385, 386, 387, 388, 391, 393, 392, 140, 394, 396, 0, 397, 168, 398, 400, 1, 401, 407, 409, 2, 410, 411, 412, 413, 141, 414, 1797, 415] (by decide +kernel) (by decide +kernel) w h).1
set_option maxRecDepth 20000 in
theorem wAt_5 : ∀ w ∈ wA_5, w ∈ lw_tbl := fun w h => (goodIn_r (big := lw_tbl) wA_5 [416, 417, 418, 419, 1798, 421, 422, 423, 424, 425, 426, 427, 428, 429, 430, 431, 432, 433, 434, 435, 142, 436, 440, 441, 143, 442, 443, 444, 445, 437, 438, 439, 446, 447, 448, 449, 450, 144, 451, 452] (by decide +kernel) (by decide +kernel) w h).1
set_option maxRecDepth 20000 in
theorem wAt_6 : ∀ w ∈ wA_6, w ∈ lw_tbl := fun w h => (goodIn_r (big := lw_tbl) wA_6 [453, 454, 455, 456, 457, 458, 459, 460, 461, 462, 463, 464, 465, 466, 467, 469, 470, 145, 471, 472, 473, 474, 475, 476, 477, 478, 480, 482, 484, 485, 486, 487, 488, 146, 489, 490, 491, 492, 493, 494] (by decide +kernel) (by decide +kernel) w h).1
set_option maxRecDepth 20000 in
theorem wAt_7 : ∀ w ∈ wA_7, w ∈ lw_tbl := fun w h => (goodIn_r (big := lw_tbl) wA_7 [495, 496, 497, 498, 500, 3, 501, 502, 504, 4, 505, 506, 508, 5, 509, 510, 511, 512, 513, 521, 522, 523, 524, 525, 526, 527, 528, 230, 232, 529, 530, 147, 531, 533, 535, 6, 536, 1271, 1272, 1273] (by decide +kernel) (by decide +kernel) w h).1
set_option maxRecDepth 20000 in
theorem wAt_8 : ∀ w ∈ wA_8, w ∈ lw_tbl := fun w h => (goodIn_r (big := lw_tbl) wA_8 [1274, 1275, 1277, 44, 1278, 1187, 1188, 1191, 1279, 1280, 1281, 1282, 1284, 45, 1285, 1286, 1288, 46, 1289, 1290, 1292, 47, 1293, 1294, 1295, 1296, 1297, 1298, 1299, 1300, 1301, 1302, 1303, 1304, 1305, 1306, 1308, 48, 1309, 1310] (by decide +kernel) (by decide +kernel) w h).1
set_option maxRecDepth 20000 in
theorem wAt_9 : ∀ w ∈ wA_9, w ∈ lw_tbl := fun w h => (goodIn_r (big := lw_tbl) wA_9 [1311, 1312, 1313, 1315, 49, 1316, 1317, 1319, 50, 1320, 1321, 1323, 51, 1324, 1325, 1326, 1327, 1328, 1330, 52, 1331, 540, 541, 542, 543, 544, 546, 7, 547, 299, 211, 548, 549, 550, 551, 552, 553, 554, 555, 209] (by decide +kernel) (by decide +kernel) w h).1
set_option maxRecDepth 20000 in
theorem wAt_10 : ∀ w ∈ wA_10, w ∈ lw_tbl := fun w h => (goodIn_r (big := lw_tbl) wA_10 [205, 556, 557, 559, 8, 560, 561, 563, 9, 564, 565, 566, 567, 568, 569, 571, 10, 572, 234, 573, 574, 575, 576, 577, 1332, 1333, 1334, 1335, 1197, 1336, 1338, 53, 1339, 1194, 1201, 1207, 1340, 1342, 54, 1343] (by decide +kernel) (by decide +kernel) w h).1
set_option maxRecDepth 20000 in
theorem wAt_11 : ∀ w ∈ wA_11, w ∈ lw_tbl := fun w h => (goodIn_r (big := lw_tbl) wA_11 [1344, 1346, 55, 1347, 578, 579, 580, 581, 202, 582, 1644, 1645, 1646, 1647, 1372, 1374, 61, 1375, 583, 584, 585, 586, 254, 207, 587, 588, 589, 590, 1648, 1649, 1650, 1651, 1364, 1366, 59, 1367, 1104, 1105, 128, 1106] (by decide +kernel) (by decide +kernel) w h).1
set_option maxRecDepth 20000 in
theorem wAt_12 : ∀ w ∈ wA_12, w ∈ lw_tbl := fun w h => (goodIn_r (big := lw_tbl) wA_12 [1107, 1108, 1109, 1110, 1111, 1112, 151, 878, 829, 830, 831, 1177, 646, 647, 648, 1652, 1653, 1654, 1655, 1184, 1469, 1471, 85, 1472, 1380, 1382, 63, 1383, 1413, 1415, 71, 1416, 1392, 1394, 66, 1395, 1400, 1402, 68, 1403] (by decide +kernel) (by decide +kernel) w h).1
set_option maxRecDepth 20000 in
theorem wAt_13 : ∀ w ∈ wA_13, w ∈ lw_tbl := fun w h => (goodIn_r (big := lw_tbl) wA_13 [591, 592, 593, 594, 595, 596, 597, 598, 599, 600, 601, 602, 603, 604, 605, 606, 1656, 1657, 1658, 1659, 1368, 1370, 60, 1371, 1376, 1378, 62, 1379, 1384, 1386, 64, 1387, 607, 608, 609, 610, 615, 611, 612, 613] (by decide +kernel) (by decide +kernel) w h).1
set_option maxRecDepth 20000 in
theorem wAt_14 : ∀ w ∈ wA_14, w ∈ lw_tbl := fun w h => (goodIn_r (big := lw_tbl) wA_14 [614, 616, 617, 618, 619, 620, 622, 11, 623, 624, 625, 626, 627, 628, 629, 630, 631, 203, 632, 633, 634, 635, 636, 637, 638, 639, 640, 641, 642, 643, 644, 645, 649, 650, 651, 652, 653, 655, 12, 656] (by decide +kernel) (by decide +kernel) w h).1
set_option maxRecDepth 20000 in
theorem wAt_15 : ∀ w ∈ wA_15, w ∈ lw_tbl := fun w h => (goodIn_r (big := lw_tbl) wA_15 [657, 658, 659, 660, 661, 663, 13, 664, 665, 666, 667, 152, 668, 669, 670, 671, 1660, 1661, 1662, 1663, 1643, 1412, 1477, 1479, 87, 1480, 1481, 1483, 88, 1484, 1445, 1447, 79, 1448, 1404, 1406, 69, 1407, 1408, 1410] (by decide +kernel) (by decide +kernel) w h).1
set_option maxRecDepth 20000 in
theorem wAt_16 : ∀ w ∈ wA_16, w ∈ lw_tbl := fun w h => (goodIn_r (big := lw_tbl) wA_16 [70, 1411, 1437, 1439, 77, 1440, 1433, 1435, 76, 1436, 1421, 1423, 73, 1424, 1425, 1427, 74, 1428, 1485, 1486, 1487, 672, 673, 674, 675, 676, 677, 678, 679, 680, 681, 682, 683, 684, 686, 14, 687, 1664, 1665, 1666] (by decide +kernel) (by decide +kernel) w h).1
set_option maxRecDepth 20000 in
theorem wAt_17 : ∀ w ∈ wA_17, w ∈ lw_tbl := fun w h => (goodIn_r (big := lw_tbl) wA_17 [1667, 1516, 1518, 96, 1519, 1512, 1514, 95, 1515, 1520, 1522, 97, 1523, 688, 689, 690, 691, 692, 693, 694, 695, 1668, 1669, 1670, 1671, 1556, 1558, 106, 1559, 696, 697, 698, 699, 700, 1672, 1673, 1674, 1675, 701, 702] (by decide +kernel) (by decide +kernel) w h).1
set_option maxRecDepth 20000 in
theorem wAt_18 : ∀ w ∈ wA_18, w ∈ lw_tbl := fun w h => (goodIn_r (big := lw_tbl) wA_18 [703, 704, 705, 707, 15, 708, 709, 710, 711, 712, 713, 715, 16, 716, 717, 718, 719, 721, 17, 722, 723, 724, 725, 726, 727, 729, 18, 730, 731, 733, 19, 734, 735, 737, 20, 738, 739, 741, 21, 742] (by decide +kernel) (by decide +kernel) w h).1
set_option maxRecDepth 20000 in
theorem wAt_19 : ∀ w ∈ wA_19, w ∈ lw_tbl := fun w h => (goodIn_r (big := lw_tbl) wA_19 [743, 744, 745, 747, 22, 748, 749, 751, 23, 752, 757, 753, 755, 24, 756, 758, 759, 760, 761, 762, 764, 25, 765, 766, 767, 769, 26, 770, 771, 773, 27, 774, 775, 776, 777, 778, 253, 779, 780, 781] (by decide +kernel) (by decide +kernel) w h).1
set_option maxRecDepth 20000 in
theorem wAt_20 : ∀ w ∈ wA_20, w ∈ lw_tbl := fun w h => (goodIn_r (big := lw_tbl) wA_20 [782, 783, 784, 785, 786, 787, 788, 789, 790, 791, 792, 793, 794, 796, 28, 797, 798, 800, 29, 801, 802, 803, 804, 805, 806, 808, 30, 809, 810, 812, 31, 813, 814, 815, 816, 818, 32, 819, 820, 822] (by decide +kernel) (by decide +kernel) w h).1
set_option maxRecDepth 20000 in
theorem wAt_21 : ∀ w ∈ wA_21, w ∈ lw_tbl := fun w h => (goodIn_r (big := lw_tbl) wA_21 [33, 823, 824, 826, 34, 827, 828, 832, 834, 35, 835, 836, 837, 839, 36, 840, 841, 843, 37, 844, 845, 846, 847, 848, 849, 851, 38, 852, 853, 855, 39, 856, 857, 858, 859, 860, 861, 862, 863, 864] (by decide +kernel) (by decide +kernel) w h).1
set_option maxRecDepth 20000 in
theorem wAt_22 : ∀ w ∈ wA_22, w ∈ lw_tbl := fun w h => (goodIn_r (big := lw_tbl) wA_22 [865, 866, 867, 868, 869, 870, 871, 872, 873, 874, 876, 40, 877, 1348, 1349, 1350, 1351, 1352, 1354, 56, 1355, 1356, 1358, 57, 1359, 1360, 1362, 58, 1363, 1388, 1390, 65, 1391, 1396, 1398, 67, 1399, 1417, 1419, 72] (by decide +kernel) (by decide +kernel) w h).1
set_option maxRecDepth 20000 in
theorem wAt_23 : ∀ w ∈ wA_23, w ∈ lw_tbl := fun w h => (goodIn_r (big := lw_tbl) wA_23 [1420, 1429, 1431, 75, 1432, 1441, 1443, 78, 1444, 1449, 1451, 80, 1452, 1453, 1455, 81, 1456, 1457, 1459, 82, 1460, 1461, 1463, 83, 1464, 1465, 1467, 84, 1468, 1473, 1475, 86, 1476, 1488, 1490, 89, 1491, 1492, 1494, 90] (by decide +kernel) (by decide +kernel) w h).1
set_option maxRecDepth 20000 in
theorem wAt_24 : ∀ w ∈ wA_24, w ∈ lw_tbl := fun w h => (goodIn_r (big := lw_tbl) wA_24 [1495, 1496, 1498, 91, 1499, 1500, 1502, 92, 1503, 1504, 1506, 93, 1507, 1508, 1510, 94, 1511, 1524, 1526, 98, 1527, 1528, 1530, 99, 1531, 1532, 1534, 100, 1535, 1536, 1538, 101, 1539, 1540, 1542, 102, 1543, 1544, 1546, 103] (by decide +kernel) (by decide +kernel) w h).1
set_option maxRecDepth 20000 in
theorem wAt_25 : ∀ w ∈ wA_25, w ∈ lw_tbl := fun w h => (goodIn_r (big := lw_tbl) wA_25 [1547, 1560, 1548, 1550, 104, 1551, 1552, 1554, 105, 1555, 1561, 1563, 107, 1564, 1565, 1567, 108, 1568, 1569, 1571, 109, 1572, 1573, 1575, 110, 1576, 1577, 1579, 111, 1580, 1581, 1583, 112, 1584, 1585, 1587, 113, 1588, 879, 880] (by decide +kernel) (by decide +kernel) w h).1
set_option maxRecDepth 20000 in
theorem wAt_26 : ∀ w ∈ wA_26, w ∈ lw_tbl := fun w h => (goodIn_r (big := lw_tbl) wA_26 [881, 882, 883, 1589, 1590, 1591, 1592, 884, 885, 886, 887, 1593, 1594, 1595, 1596, 888, 889, 890, 891, 1597, 1598, 1599, 1600, 892, 893, 894, 895, 1601, 1602, 1603, 1604, 896, 897, 898, 899, 1605, 1606, 1607, 1608, 900] (by decide +kernel) (by decide +kernel) w h).1
set_option maxRecDepth 20000 in
theorem wAt_27 : ∀ w ∈ wA_27, w ∈ lw_tbl := fun w h => (goodIn_r (big := lw_tbl) wA_27 [901, 902, 903, 1609, 1610, 1611, 1612, 904, 905, 906, 907, 312, 908, 909, 910, 911, 912, 913, 1613, 1614, 1615, 1616, 1202, 1617, 1619, 114, 1620, 1621, 1623, 115, 1624, 1625, 1626, 1627, 1629, 116, 1630, 914, 915, 916] (by decide +kernel) (by decide +kernel) w h).1
set_option maxRecDepth 20000 in
theorem wAt_28 : ∀ w ∈ wA_28, w ∈ lw_tbl := fun w h => (goodIn_r (big := lw_tbl) wA_28 [917, 1631, 1632, 1633, 1634, 918, 919, 920, 921, 283, 922, 923, 924, 925, 926, 927, 928, 929, 930, 1635, 1636, 1637, 1638, 931, 932, 933, 934, 935, 936, 937, 938, 939, 940, 941, 942, 943, 1639, 1640, 1641, 1642] (by decide +kernel) (by decide +kernel) w h).1
set_option maxRecDepth 20000 in
theorem wAt_29 : ∀ w ∈ wA_29, w ∈ lw_tbl := fun w h => (goodIn_r (big := lw_tbl) wA_29 [944, 945, 946, 947, 948, 949, 950, 951, 952, 953, 954, 955, 956, 957, 959, 41, 960, 961, 962, 963, 964, 965, 966, 967, 968, 969, 970, 1676, 1677, 1678, 1679, 1680, 1682, 117, 1683, 1684, 1686, 118, 1687, 1688] (by decide +kernel) (by decide +kernel) w h).1
set_option maxRecDepth 20000 in
theorem wAt_30 : ∀ w ∈ wA_30, w ∈ lw_tbl := fun w h => (goodIn_r (big := lw_tbl) wA_30 [1690, 119, 1691, 971, 972, 973, 974, 975, 976, 977, 978, 979, 1692, 1693, 1694, 1695, 980, 981, 982, 983, 984, 985, 986, 987, 1696, 1697, 1698, 1699, 1700, 1702, 120, 1703, 988, 989, 990, 991, 992, 993, 994, 995] (by decide +kernel) (by decide +kernel) w h).1
set_option maxRecDepth 20000 in
theorem wAt_31 : ∀ w ∈ wA_31, w ∈ lw_tbl := fun w h => (goodIn_r (big := lw_tbl) wA_31 [996, 997, 998, 999, 1000, 1001, 1704, 1705, 1706, 1707, 1708, 1710, 121, 1711, 1002, 1003, 1004, 1005, 1006, 1007, 1008, 1009, 1010, 1011, 1012, 1013, 1712, 1713, 1714, 1715, 1014, 1015, 1016, 1017, 1018, 1019, 1020, 1021, 1022, 1716] (by decide +kernel) (by decide +kernel) w h).1
set_option maxRecDepth 20000 in
theorem wAt_32 : ∀ w ∈ wA_32, w ∈ lw_tbl := fun w h => (goodIn_r (big := lw_tbl) wA_32 [1717, 1718, 1719, 1023, 1024, 1025, 1026, 1720, 1721, 1722, 1723, 1027, 1028, 1029, 1030, 228, 1031, 1032, 1033, 1034, 1035, 1036, 1037, 1038, 1724, 1725, 1726, 1727, 1728, 1730, 122, 1731, 1039, 1040, 1041, 1042, 1043, 1044, 1046, 42] (by decide +kernel) (by decide +kernel) w h).1
set_option maxRecDepth 20000 in
theorem wAt_33 : ∀ w ∈ wA_33, w ∈ lw_tbl := fun w h => (goodIn_r (big := lw_tbl) wA_33 [1047, 1048, 1049, 1050, 1051, 1052, 1732, 1733, 1734, 1735, 1736, 1738, 123, 1739, 1740, 1741, 1742, 1055, 1056, 1057, 1058, 1743, 1744, 1745, 1746, 1059, 1060, 1061, 1062, 1063, 1064, 1065, 1066, 1067, 1068, 1069, 1070, 1071, 1072, 1073] (by decide +kernel) (by decide +kernel) w h).1
set_option maxRecDepth 20000 in
theorem wAt_34 : ∀ w ∈ wA_34, w ∈ lw_tbl := fun w h => (goodIn_r (big := lw_tbl) wA_34 [1074, 1075, 1076, 1077, 1078, 1079, 1080, 1081, 1082, 1083, 1084, 1085, 1086, 1747, 1748, 1749, 1750, 1751, 1753, 124, 1754, 1755, 1756, 1758, 125, 1759, 1760, 1762, 126, 1763, 1764, 1766, 127, 1767, 1087, 1088, 1089, 1090, 1091, 1092] (by decide +kernel) (by decide +kernel) w h).1
set_option maxRecDepth 20000 in
theorem wAt_35 : ∀ w ∈ wA_35, w ∈ lw_tbl := fun w h => (goodIn_r (big := lw_tbl) wA_35 [1093, 1094, 1095, 1768, 1769, 1770, 1771, 1096, 1097, 1098, 1099, 1772, 1773, 1774, 1775, 1100, 1101, 1102, 1103, 1776, 1777, 1778, 1779] (by decide +kernel) (by decide +kernel) w h).1
set_option maxRecDepth 20000 in
theorem iL_0 : ∀ w ∈ wsX00, w ∈ lw_tbl := fun w h => (goodIn_r (big := lw_tbl) wsX00 [256, 258] (by decide +kernel) (by decide +kernel) w h).1
set_option maxRecDepth 20000 in
theorem iL_1 : ∀ w ∈ wsX10, w ∈ lw_tbl := fun w h => (goodIn_r (big := lw_tbl) wsX10 [300, 302] (by decide +kernel) (by decide +kernel) w h).1
set_option maxRecDepth 20000 in
theorem iL_2 : ∀ w ∈ wsX20, w ∈ lw_tbl := fun w h => (goodIn_r (big := lw_tbl) wsX20 [313] (by decide +kernel) (by decide +kernel) w h).1
set_option maxRecDepth 20000 in
theorem iL_3 : ∀ w ∈ wsX30, w ∈ lw_tbl := fun w h => (goodIn_r (big := lw_tbl) wsX30 [269, 271] (by decide +kernel) (by decide +kernel) w h).1
set_option maxRecDepth 20000 in
theorem iL_4 : ∀ w ∈ wsX40, w ∈ lw_tbl := fun w h => (goodIn_r (big := lw_tbl) wsX40 [284, 286, 288] (by decide +kernel) (by decide +kernel) w h).1
set_option maxRecDepth 20000 in
theorem iL_5 : ∀ w ∈ wsX50, w ∈ lw_tbl := fun w h => (goodIn_r (big := lw_tbl) wsX50 [212, 214, 216] (by decide +kernel) (by decide +kernel) w h).1
set_option maxRecDepth 20000 in
theorem iL_6 : ∀ w ∈ wsX60, w ∈ lw_tbl := fun w h => (goodIn_r (big := lw_tbl) wsX60 [187, 189, 191] (by decide +kernel) (by decide +kernel) w h).1
set_option maxRecDepth 20000 in
theorem iL_7 : ∀ w ∈ wsX70, w ∈ lw_tbl := fun w h => (goodIn_r (big := lw_tbl) wsX70 [235, 237, 239, 241, 243] (by decide +kernel) (by decide +kernel) w h).1
set_option maxRecDepth 20000 in
theorem iL_8 : ∀ w ∈ wsX80, w ∈ lw_tbl := fun w h => (goodIn_r (big := lw_tbl) wsX80 [172, 174] (by decide +kernel) (by decide +kernel) w h).1
set_option maxRecDepth 20000 in
theorem iL_9 : ∀ w ∈ wsX90, w ∈ lw_tbl := fun w h => (goodIn_r (big := lw_tbl) wsX90 [331, 333, 335, 337, 339, 341, 343, 345, 347, 349, 351, 353, 355, 357, 359] (by decide +kernel) (by decide +kernel) w h).1
set_option maxRecDepth 20000 in
theorem iL_10 : ∀ w ∈ wsX100, w ∈ lw_tbl := fun w h => (goodIn_r (big := lw_tbl) wsX100 [1208, 1210, 1212, 1214, 1216, 1218, 1220, 1222, 1224, 1226, 1228, 1230, 1232, 1234, 1236, 1238, 1240, 1242, 1244, 1246, 1248, 1250, 1252, 1254] (by decide +kernel) (by decide +kernel) w h).1
theorem wA_in : ∀ w ∈ wA, w ∈ lw_tbl := fun w h => (List.mem_append.mp h).elim (fun h => wAt_0 w h) (fun h => (List.mem_append.mp h).elim (fun h => wAt_1 w h) (fun h => (List.mem_append.mp h).elim (fun h => wAt_2 w h) (fun h => (List.mem_append.mp h).elim (fun h => wAt_3 w h) (fun h => (List.mem_append.mp h).elim (fun h => wAt_4 w h) (fun h => (List.mem_append.mp h).elim (fun h => wAt_5 w h) (fun h => (List.mem_append.mp h).elim (fun h => wAt_6 w h) (fun h => (List.mem_append.mp h).elim (fun h => wAt_7 w h) (fun h => (List.mem_append.mp h).elim (fun h => wAt_8 w h) (fun h => (List.mem_append.mp h).elim (fun h => wAt_9 w h) (fun h => (List.mem_append.mp h).elim (fun h => wAt_10 w h) (fun h => (List.mem_append.mp h).elim (fun h => wAt_11 w h) (fun h => (List.mem_append.mp h).elim (fun h => wAt_12 w h) (fun h => (List.mem_append.mp h).elim (fun h => wAt_13 w h) (fun h => (List.mem_append.mp h).elim (fun h => wAt_14 w h) (fun h => (List.mem_append.mp h).elim (fun h => wAt_15 w h) (fun h => (List.mem_append.mp h).elim (fun h => wAt_16 w h) (fun h => (List.mem_append.mp h).elim (fun h => wAt_17 w h) (fun h => (List.mem_append.mp h).elim (fun h => wAt_18 w h) (fun h => (List.mem_append.mp h).elim (fun h => wAt_19 w h) (fun h => (List.mem_append.mp h).elim (fun h => wAt_20 w h) (fun h => (List.mem_append.mp h).elim (fun h => wAt_21 w h) (fun h => (List.mem_append.mp h).elim (fun h => wAt_22 w h) (fun h => (List.mem_append.mp h).elim (fun h => wAt_23 w h) (fun h => (List.mem_append.mp h).elim (fun h => wAt_24 w h) (fun h => (List.mem_append.mp h).elim (fun h => wAt_25 w h) (fun h => (List.mem_append.mp h).elim (fun h => wAt_26 w h) (fun h => (List.mem_append.mp h).elim (fun h => wAt_27 w h) (fun h => (List.mem_append.mp h).elim (fun h => wAt_28 w h) (fun h => (List.mem_append.mp h).elim (fun h => wAt_29 w h) (fun h => (List.mem_append.mp h).elim (fun h => wAt_30 w h) (fun h => (List.mem_append.mp h).elim (fun h => wAt_31 w h) (fun h => (List.mem_append.mp h).elim (fun h => wAt_32 w h) (fun h => (List.mem_append.mp h).elim (fun h => wAt_33 w h) (fun h => (List.mem_append.mp h).elim (fun h => wAt_34 w h) (fun h => (List.mem_append.mp h).elim (fun h => wAt_35 w h) (fun h => (List.mem_append.mp h).elim (fun h => iL_0 w h) (fun h => (List.mem_append.mp h).elim (fun h => iL_1 w h) (fun h => (List.mem_append.mp h).elim (fun h => iL_2 w h) (fun h => (List.mem_append.mp h).elim (fun h => iL_3 w h) (fun h => (List.mem_append.mp h).elim (fun h => iL_4 w h) (fun h => (List.mem_append.mp h).elim (fun h => iL_5 w h) (fun h => (List.mem_append.mp h).elim (fun h => iL_6 w h) (fun h => (List.mem_append.mp h).elim (fun h => iL_7 w h) (fun h => (List.mem_append.mp h).elim (fun h => iL_8 w h) (fun h => (List.mem_append.mp h).elim (fun h => iL_9 w h) (fun h => iL_10 w h))))))))))))))))))))))))))))))))))))))))))))))
theorem q_lV {own C : String} {idx maxL : Nat} {y : MethodName} {b : ByteArray} {ret : Option FieldType} (h1 : Cond.methodLink own idx y ∈ wA) (h2 : Cond.instanceMethod y ∈ wA) (h3 : Cond.selects C y y ∈ wA) (h4 : Cond.initialized C ∈ wA) (h5 : Cond.code y b maxL ret ∈ wA) : GoodIn lw_tbl (wsV own idx C y (Cond.code y b maxL ret :: wA)) := fun w hw => ⟨wA_in w (q_inV h1 h2 h3 h4 h5 w hw), good_of_word (gd_all w (q_inV h1 h2 h3 h4 h5 w hw))⟩
set_option maxRecDepth 20000 in
theorem q_cw : GoodIn lw_tbl [Cond.codeWith yL_device cL_device 5 (some .int) [(0, 10, 13, 13)]] := goodIn_r _ [1106] (by decide +kernel) (by decide +kernel)
theorem g_law_L_device : GoodIn lw_tbl (va_wsS RL 46 yL_device (Cond.codeWith yL_device cL_device 5 (some .int) [(0, 10, 13, 13)] :: (wA ++ q_wx))) := by
  intro w hw
  simp only [va_wsS, List.mem_append, List.mem_cons, List.not_mem_nil, or_false] at hw
  have hA : ∀ w ∈ wA, w ∈ lw_tbl ∧ ((w.onTables && w.keeps) = true ∨ ∃ ty, w = .arrayClass ty) := fun w h => ⟨wA_in w h, good_of_word (gd_all w h)⟩
  rcases hw with (rfl | rfl | rfl) | (rfl | hw | hw)
  · exact hA _ m_476
  · exact hA _ m_477
  · exact hA _ m_478
  · exact q_cw _ List.mem_cons_self
  · exact hA _ hw
  · exact ⟨q_wx_in w hw, good_of_word (List.all_eq_true.mp q_wx_good w hw)⟩