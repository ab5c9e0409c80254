/-! laid by program: the law's words among the tables -/
theorem mem_idx (ws : List Cond) (ps : List Nat) (hp : ws = ps.filterMap (fun i => lw_tbl[i]?)) : ∀ w ∈ ws, w ∈ lw_tbl := by
  intro w hw
  rw [hp] at hw
  obtain ⟨i, -, hi⟩ := List.mem_filterMap.mp hw
  exact List.mem_of_getElem? hi
set_option maxRecDepth 100000 in
set_option maxHeartbeats 4000000 in
theorem li_wsL_law_r1 : ∀ w ∈ wsL_law_r1, w ∈ lw_tbl := mem_idx wsL_law_r1 [126, 127, 106, 1173, 1171, 121, 1772, 128, 129, 130, 131, 132, 133, 134, 135, 107, 485, 279, 484, 301, 302, 115, 486, 487] rfl
set_option maxRecDepth 100000 in
set_option maxHeartbeats 4000000 in
theorem li_wsL_law_r2 : ∀ w ∈ wsL_law_r2, w ∈ lw_tbl := mem_idx wsL_law_r2 [379, 380, 116, 488, 489, 398, 399, 117, 490, 491, 397, 492, 441, 442, 118, 493, 454, 455, 119, 494, 467, 468, 120, 495] rfl
set_option maxRecDepth 100000 in
set_option maxHeartbeats 4000000 in
theorem li_wsL_law_r3 : ∀ w ∈ wsL_law_r3, w ∈ lw_tbl := mem_idx wsL_law_r3 [137, 138, 139, 140, 141, 108, 278, 263, 280, 261, 281, 282, 143, 144, 145, 146, 147, 109, 262, 237, 238, 114, 264, 148] rfl
set_option maxRecDepth 100000 in
set_option maxHeartbeats 4000000 in
theorem li_wsL_law_r4 : ∀ w ∈ wsL_law_r4, w ∈ lw_tbl := mem_idx wsL_law_r4 [149, 150, 151, 235, 201, 236, 202, 153, 154, 155, 110, 156, 1773, 157, 158, 159, 160, 161, 1774, 163, 164, 165, 166, 167] rfl
set_option maxRecDepth 100000 in
set_option maxHeartbeats 4000000 in
theorem li_wsL_law_r5 : ∀ w ∈ wsL_law_r5, w ∈ lw_tbl := mem_idx wsL_law_r5 [168, 169, 170, 171, 172, 111, 173, 174, 175, 176, 177, 179, 180, 112, 181, 182, 183, 113, 184, 185, 186, 187, 188, 189] rfl
set_option maxRecDepth 100000 in
set_option maxHeartbeats 4000000 in
theorem li_wsL_law_r6 : ∀ w ∈ wsL_law_r6, w ∈ lw_tbl := mem_idx wsL_law_r6 [190, 191, 192, 193, 194, 195, 197, 199, 240, 241, 242, 243, 244, 245, 304, 305, 306, 315, 316, 319, 324, 329, 333, 337] rfl
set_option maxRecDepth 100000 in
set_option maxHeartbeats 4000000 in
theorem li_wsL_law_r7 : ∀ w ∈ wsL_law_r7, w ∈ lw_tbl := mem_idx wsL_law_r7 [344, 345, 347, 348, 382, 383, 384, 388, 389, 401, 402, 403, 409, 413, 415, 419, 420, 444, 445, 446, 447, 448, 457, 458] rfl
set_option maxRecDepth 100000 in
set_option maxHeartbeats 4000000 in
theorem li_wsL_law_r8 : ∀ w ∈ wsL_law_r8, w ∈ lw_tbl := mem_idx wsL_law_r8 [459, 460, 461, 470, 471, 472, 473, 475, 476, 1174, 1175, 1176, 1177, 1258, 1261, 1262, 1263, 1178, 1179, 1180, 1181, 1182, 1183, 1184] rfl
set_option maxRecDepth 100000 in
set_option maxHeartbeats 4000000 in
theorem li_wsL_law_r9 : ∀ w ∈ wsL_law_r9, w ∈ lw_tbl := mem_idx wsL_law_r9 [1185, 1186, 1187, 1188, 1189, 1190, 1191, 1192, 1193, 1194, 1195, 1196, 1197, 1198, 1199, 1200, 1201, 1202, 1203, 1204, 1205, 1206, 1207, 1208] rfl
set_option maxRecDepth 100000 in
set_option maxHeartbeats 4000000 in
theorem li_wsL_law_r10 : ∀ w ∈ wsL_law_r10, w ∈ lw_tbl := mem_idx wsL_law_r10 [1209, 1266, 1267, 1268, 1269, 1271, 1272, 1273, 1274, 1279, 1280, 1281, 1282, 1284, 1285, 1286, 1287, 1288, 1289, 1290, 1291, 1292, 1293, 1210] rfl
set_option maxRecDepth 100000 in
set_option maxHeartbeats 4000000 in
theorem li_wsL_law_r11 : ∀ w ∈ wsL_law_r11, w ∈ lw_tbl := mem_idx wsL_law_r11 [1212, 36, 1213, 1214, 1216, 37, 1217, 1283, 1218, 1220, 38, 1221, 1222, 1224, 39, 1225, 1226, 1228, 40, 1229, 1230, 1232, 41, 1233] rfl
set_option maxRecDepth 100000 in
set_option maxHeartbeats 4000000 in
theorem li_wsL_law_r12 : ∀ w ∈ wsL_law_r12, w ∈ lw_tbl := mem_idx wsL_law_r12 [1234, 1236, 42, 1237, 1238, 1240, 43, 1241, 1242, 1243, 1244, 1245, 1247, 44, 1248, 1249, 1251, 45, 1252, 1253, 1255, 46, 1256, 521] rfl
set_option maxRecDepth 100000 in
set_option maxHeartbeats 4000000 in
theorem li_wsL_law_r13 : ∀ w ∈ wsL_law_r13, w ∈ lw_tbl := mem_idx wsL_law_r13 [522, 523, 524, 203, 525, 526, 527, 528, 529, 204, 1164, 1165, 1166, 1167, 1257, 1259, 1168, 1170, 35, 1172, 530, 531, 532, 533] rfl
set_option maxRecDepth 100000 in
set_option maxHeartbeats 4000000 in
theorem li_wsL_law_r14 : ∀ w ∈ wsL_law_r14, w ∈ lw_tbl := mem_idx wsL_law_r14 [387, 534, 535, 536, 537, 285, 206, 205, 268, 538, 539, 540, 541, 307, 340, 542, 543, 544, 545, 266, 267, 247, 546, 547] rfl
set_option maxRecDepth 100000 in
set_option maxHeartbeats 4000000 in
theorem li_wsL_law_r15 : ∀ w ∈ wsL_law_r15, w ∈ lw_tbl := mem_idx wsL_law_r15 [548, 549, 211, 550, 551, 552, 553, 210, 208, 554, 556, 0, 557, 214, 558, 560, 1, 561, 215, 563, 564, 565, 566, 567] rfl
set_option maxRecDepth 100000 in
set_option maxHeartbeats 4000000 in
theorem li_wsL_law_r16 : ∀ w ∈ wsL_law_r16, w ∈ lw_tbl := mem_idx wsL_law_r16 [568, 569, 570, 571, 572, 573, 574, 578, 579, 122, 580, 581, 582, 583, 575, 576, 577, 584, 585, 586, 587, 588, 589, 590] rfl
set_option maxRecDepth 100000 in
set_option maxHeartbeats 4000000 in
theorem li_wsL_law_r17 : ∀ w ∈ wsL_law_r17, w ∈ lw_tbl := mem_idx wsL_law_r17 [591, 592, 593, 594, 595, 596, 597, 598, 599, 600, 601, 602, 603, 604, 605, 606, 607, 608, 609, 610, 611, 612, 123, 613] rfl
set_option maxRecDepth 100000 in
set_option maxHeartbeats 4000000 in
theorem li_wsL_law_r18 : ∀ w ∈ wsL_law_r18, w ∈ lw_tbl := mem_idx wsL_law_r18 [614, 615, 616, 617, 618, 619, 620, 621, 622, 624, 2, 625, 626, 628, 3, 629, 312, 213, 630, 631, 632, 633, 209, 634] rfl
set_option maxRecDepth 100000 in
set_option maxHeartbeats 4000000 in
theorem li_wsL_law_r19 : ∀ w ∈ wsL_law_r19, w ∈ lw_tbl := mem_idx wsL_law_r19 [635, 637, 4, 638, 639, 640, 641, 642, 643, 644, 645, 646, 647, 648, 649, 650, 651, 653, 5, 654, 216, 655, 656, 657] rfl
set_option maxRecDepth 100000 in
set_option maxHeartbeats 4000000 in
theorem li_wsL_law_r20 : ∀ w ∈ wsL_law_r20, w ∈ lw_tbl := mem_idx wsL_law_r20 [658, 207, 659, 660, 661, 662, 663, 664, 665, 667, 6, 668, 341, 265, 248, 671, 7, 672, 673, 675, 8, 684, 685, 686] rfl
set_option maxRecDepth 100000 in
set_option maxHeartbeats 4000000 in
theorem li_wsL_law_r21 : ∀ w ∈ wsL_law_r21, w ∈ lw_tbl := mem_idx wsL_law_r21 [687, 246, 680, 212, 681, 682, 683, 677, 679, 9, 688, 689, 676, 690, 691, 692, 693, 694, 696, 10, 697, 332, 698, 699] rfl
set_option maxRecDepth 100000 in
set_option maxHeartbeats 4000000 in
theorem li_wsL_law_r22 : ∀ w ∈ wsL_law_r22, w ∈ lw_tbl := mem_idx wsL_law_r22 [700, 701, 702, 704, 11, 705, 706, 707, 708, 709, 710, 712, 12, 713, 336, 714, 716, 13, 717, 283, 284, 720, 14, 721] rfl
set_option maxRecDepth 100000 in
set_option maxHeartbeats 4000000 in
theorem li_wsL_law_r23 : ∀ w ∈ wsL_law_r23, w ∈ lw_tbl := mem_idx wsL_law_r23 [722, 724, 15, 737, 217, 734, 736, 18, 738, 733, 729, 730, 732, 17, 725, 726, 728, 16, 739, 741, 19, 742, 339, 797] rfl
set_option maxRecDepth 100000 in
set_option maxHeartbeats 4000000 in
theorem li_wsL_law_r24 : ∀ w ∈ wsL_law_r24, w ∈ lw_tbl := mem_idx wsL_law_r24 [798, 743, 744, 745, 746, 249, 747, 749, 20, 750, 751, 753, 21, 754, 755, 756, 757, 758, 759, 760, 761, 762, 763, 764] rfl
set_option maxRecDepth 100000 in
set_option maxHeartbeats 4000000 in
theorem li_wsL_law_r25 : ∀ w ∈ wsL_law_r25, w ∈ lw_tbl := mem_idx wsL_law_r25 [765, 766, 767, 768, 769, 770, 771, 772, 773, 774, 775, 776, 778, 22, 779, 780, 782, 23, 783, 784, 785, 786, 787, 788] rfl
set_option maxRecDepth 100000 in
set_option maxHeartbeats 4000000 in
theorem li_wsL_law_r26 : ∀ w ∈ wsL_law_r26, w ∈ lw_tbl := mem_idx wsL_law_r26 [789, 790, 791, 792, 793, 320, 326, 311, 794, 795, 796, 799, 800, 801, 802, 803, 404, 407, 410, 417, 1375, 1376, 1377, 1378] rfl
set_option maxRecDepth 100000 in
set_option maxHeartbeats 4000000 in
theorem li_wsL_law_r27 : ∀ w ∈ wsL_law_r27, w ∈ lw_tbl := mem_idx wsL_law_r27 [1270, 1276, 1277, 1265, 1264, 1275, 1379, 1381, 47, 1382, 1260, 1386, 1393, 1394, 1383, 1384, 1385, 1387, 1388, 1389, 1390, 1391, 1392, 1395] rfl
set_option maxRecDepth 100000 in
set_option maxHeartbeats 4000000 in
theorem li_wsL_law_r28 : ∀ w ∈ wsL_law_r28, w ∈ lw_tbl := mem_idx wsL_law_r28 [1396, 1397, 1398, 1400, 48, 1401, 1402, 1404, 49, 1405, 1406, 1408, 50, 1409, 1410, 1412, 51, 1413, 1414, 1416, 52, 1417, 1418, 1420] rfl
set_option maxRecDepth 100000 in
set_option maxHeartbeats 4000000 in
theorem li_wsL_law_r29 : ∀ w ∈ wsL_law_r29, w ∈ lw_tbl := mem_idx wsL_law_r29 [53, 1421, 1422, 1424, 54, 1425, 1426, 1428, 55, 1429, 1430, 1432, 56, 1433, 1434, 1436, 57, 1437, 1438, 1440, 58, 1441, 1442, 1444] rfl
set_option maxRecDepth 100000 in
set_option maxHeartbeats 4000000 in
theorem li_wsL_law_r30 : ∀ w ∈ wsL_law_r30, w ∈ lw_tbl := mem_idx wsL_law_r30 [59, 1445, 1446, 1448, 60, 1449, 1450, 1452, 61, 1453, 1278, 1454, 1456, 62, 1457, 1458, 1460, 63, 1473, 1475, 66, 1476, 1461, 1462] rfl
set_option maxRecDepth 100000 in
set_option maxHeartbeats 4000000 in
theorem li_wsL_law_r31 : ∀ w ∈ wsL_law_r31, w ∈ lw_tbl := mem_idx wsL_law_r31 [1464, 64, 1465, 1466, 1468, 65, 1469, 1470, 1471, 1472, 1477, 1479, 67, 1480, 1481, 1483, 68, 1484, 1485, 1487, 69, 1488, 1489, 1491] rfl
set_option maxRecDepth 100000 in
set_option maxHeartbeats 4000000 in
theorem li_wsL_law_r32 : ∀ w ∈ wsL_law_r32, w ∈ lw_tbl := mem_idx wsL_law_r32 [70, 1492, 1493, 1495, 71, 1496, 1497, 1499, 72, 1500, 1501, 1503, 73, 1504, 1505, 1507, 74, 1508, 1509, 1511, 75, 1520, 1521, 1523] rfl
set_option maxRecDepth 100000 in
set_option maxHeartbeats 4000000 in
theorem li_wsL_law_r33 : ∀ w ∈ wsL_law_r33, w ∈ lw_tbl := mem_idx wsL_law_r33 [78, 1516, 1517, 1519, 77, 1524, 1512, 1513, 1515, 76, 804, 805, 806, 807, 808, 809, 810, 811, 386, 812, 814, 24, 815, 816] rfl
set_option maxRecDepth 100000 in
set_option maxHeartbeats 4000000 in
theorem li_wsL_law_r34 : ∀ w ∈ wsL_law_r34, w ∈ lw_tbl := mem_idx wsL_law_r34 [817, 818, 819, 820, 821, 822, 823, 824, 825, 826, 827, 828, 829, 385, 1525, 1526, 1527, 1528, 1529, 1531, 79, 1532, 830, 831] rfl
set_option maxRecDepth 100000 in
set_option maxHeartbeats 4000000 in
theorem li_wsL_law_r35 : ∀ w ∈ wsL_law_r35, w ∈ lw_tbl := mem_idx wsL_law_r35 [832, 833, 318, 321, 327, 331, 335, 834, 1533, 1534, 1535, 1536, 1537, 1539, 80, 1540, 835, 836, 837, 838, 351, 839, 840, 841] rfl
set_option maxRecDepth 100000 in
set_option maxHeartbeats 4000000 in
theorem li_wsL_law_r36 : ∀ w ∈ wsL_law_r36, w ∈ lw_tbl := mem_idx wsL_law_r36 [842, 1541, 1542, 1543, 1544, 843, 844, 845, 846, 406, 1545, 1546, 1547, 1548, 847, 848, 849, 850, 851, 852, 853, 855, 25, 856] rfl
set_option maxRecDepth 100000 in
set_option maxHeartbeats 4000000 in
theorem li_wsL_law_r37 : ∀ w ∈ wsL_law_r37, w ∈ lw_tbl := mem_idx wsL_law_r37 [857, 858, 859, 860, 861, 863, 26, 864, 865, 866, 124, 867, 868, 869, 870, 1549, 1550, 1551, 1552, 1553, 1555, 81, 1556, 1557] rfl
set_option maxRecDepth 100000 in
set_option maxHeartbeats 4000000 in
theorem li_wsL_law_r38 : ∀ w ∈ wsL_law_r38, w ∈ lw_tbl := mem_idx wsL_law_r38 [1559, 82, 1560, 1561, 1563, 83, 1564, 1565, 1567, 84, 1568, 1569, 1571, 85, 1572, 1573, 1574, 1575, 871, 872, 873, 874, 875, 876] rfl
set_option maxRecDepth 100000 in
set_option maxHeartbeats 4000000 in
theorem li_wsL_law_r39 : ∀ w ∈ wsL_law_r39, w ∈ lw_tbl := mem_idx wsL_law_r39 [1576, 1577, 1578, 1579, 877, 878, 879, 880, 881, 1580, 1581, 1582, 1583, 882, 883, 884, 885, 314, 408, 886, 887, 888, 889, 890] rfl
set_option maxRecDepth 100000 in
set_option maxHeartbeats 4000000 in
theorem li_wsL_law_r40 : ∀ w ∈ wsL_law_r40, w ∈ lw_tbl := mem_idx wsL_law_r40 [891, 892, 893, 1584, 1585, 1586, 1587, 1588, 1590, 86, 1591, 1592, 1594, 87, 1595, 894, 895, 896, 897, 898, 899, 900, 901, 1596] rfl
set_option maxRecDepth 100000 in
set_option maxHeartbeats 4000000 in
theorem li_wsL_law_r41 : ∀ w ∈ wsL_law_r41, w ∈ lw_tbl := mem_idx wsL_law_r41 [1597, 1598, 1599, 902, 903, 904, 905, 906, 907, 908, 909, 910, 912, 27, 913, 914, 915, 916, 917, 918, 919, 920, 921, 922] rfl
set_option maxRecDepth 100000 in
set_option maxHeartbeats 4000000 in
theorem li_wsL_law_r42 : ∀ w ∈ wsL_law_r42, w ∈ lw_tbl := mem_idx wsL_law_r42 [923, 924, 1600, 1601, 1602, 1603, 1604, 1606, 88, 1607, 1608, 1610, 89, 1611, 1612, 1613, 1614, 925, 926, 927, 928, 929, 930, 931] rfl
set_option maxRecDepth 100000 in
set_option maxHeartbeats 4000000 in
theorem li_wsL_law_r43 : ∀ w ∈ wsL_law_r43, w ∈ lw_tbl := mem_idx wsL_law_r43 [932, 933, 1615, 1616, 1617, 1618, 934, 935, 936, 937, 1619, 1620, 1621, 1622, 938, 939, 940, 941, 942, 943, 944, 309, 949, 945] rfl
set_option maxRecDepth 100000 in
set_option maxHeartbeats 4000000 in
theorem li_wsL_law_r44 : ∀ w ∈ wsL_law_r44, w ∈ lw_tbl := mem_idx wsL_law_r44 [946, 947, 948, 1623, 1624, 1625, 1626, 950, 951, 952, 953, 954, 955, 956, 957, 958, 960, 28, 961, 317, 962, 964, 29, 965] rfl
set_option maxRecDepth 100000 in
set_option maxHeartbeats 4000000 in
theorem li_wsL_law_r45 : ∀ w ∈ wsL_law_r45, w ∈ lw_tbl := mem_idx wsL_law_r45 [966, 968, 30, 969, 1627, 1628, 1629, 1630, 1631, 970, 971, 972, 973, 974, 975, 125, 976, 342, 977, 978, 979, 980, 313, 981] rfl
set_option maxRecDepth 100000 in
set_option maxHeartbeats 4000000 in
theorem li_wsL_law_r46 : ∀ w ∈ wsL_law_r46, w ∈ lw_tbl := mem_idx wsL_law_r46 [982, 983, 349, 1632, 1633, 1634, 1635, 1636, 1638, 90, 1639, 1640, 1641, 1642, 984, 985, 986, 987, 988, 990, 31, 991, 992, 993] rfl
set_option maxRecDepth 100000 in
set_option maxHeartbeats 4000000 in
theorem li_wsL_law_r47 : ∀ w ∈ wsL_law_r47, w ∈ lw_tbl := mem_idx wsL_law_r47 [994, 330, 995, 996, 997, 1643, 1644, 1645, 1646, 1647, 1649, 91, 1650, 1651, 1653, 92, 1654, 998, 999, 1000, 1001, 1002, 1003, 1004] rfl
set_option maxRecDepth 100000 in
set_option maxHeartbeats 4000000 in
theorem li_wsL_law_r48 : ∀ w ∈ wsL_law_r48, w ∈ lw_tbl := mem_idx wsL_law_r48 [1005, 1655, 1656, 1657, 1658, 1006, 1007, 1008, 1009, 1010, 1011, 1012, 1013, 1659, 1660, 1661, 1662, 1663, 1665, 93, 1666, 1014, 1015, 1016] rfl
set_option maxRecDepth 100000 in
set_option maxHeartbeats 4000000 in
theorem li_wsL_law_r49 : ∀ w ∈ wsL_law_r49, w ∈ lw_tbl := mem_idx wsL_law_r49 [1017, 1018, 1019, 1020, 1021, 1022, 1023, 1667, 1668, 1669, 1670, 1024, 1025, 1026, 1027, 1028, 1029, 1030, 1031, 1671, 1672, 1673, 1674, 1032] rfl
set_option maxRecDepth 100000 in
set_option maxHeartbeats 4000000 in
theorem li_wsL_law_r50 : ∀ w ∈ wsL_law_r50, w ∈ lw_tbl := mem_idx wsL_law_r50 [1033, 1034, 1035, 1036, 1037, 1038, 310, 1039, 1040, 1041, 1042, 405, 1043, 1044, 1045, 325, 411, 414, 350, 416, 346, 1675, 1676, 1677] rfl
set_option maxRecDepth 100000 in
set_option maxHeartbeats 4000000 in
theorem li_wsL_law_r51 : ∀ w ∈ wsL_law_r51, w ∈ lw_tbl := mem_idx wsL_law_r51 [1678, 1679, 1681, 94, 1682, 1683, 1685, 95, 1686, 1687, 1689, 96, 1690, 1046, 1047, 1048, 1049, 1050, 1051, 1052, 1054, 1053, 1691, 1692] rfl
set_option maxRecDepth 100000 in
set_option maxHeartbeats 4000000 in
theorem li_wsL_law_r52 : ∀ w ∈ wsL_law_r52, w ∈ lw_tbl := mem_idx wsL_law_r52 [1693, 1694, 1695, 1055, 1056, 1057, 1058, 1059, 1060, 1061, 1696, 1697, 1698, 1699, 1062, 1063, 1064, 1065, 1066, 1067, 1068, 1069, 1070, 1072] rfl
set_option maxRecDepth 100000 in
set_option maxHeartbeats 4000000 in
theorem li_wsL_law_r53 : ∀ w ∈ wsL_law_r53, w ∈ lw_tbl := mem_idx wsL_law_r53 [32, 1073, 323, 1074, 1076, 33, 1077, 1700, 1701, 1702, 1703, 1708, 1704, 1706, 97, 1707, 1078, 1079, 1080, 1081, 1082, 1083, 1084, 1085] rfl
set_option maxRecDepth 100000 in
set_option maxHeartbeats 4000000 in
theorem li_wsL_law_r54 : ∀ w ∈ wsL_law_r54, w ∈ lw_tbl := mem_idx wsL_law_r54 [1086, 1087, 1088, 1089, 1709, 1710, 1711, 1712, 1090, 1091, 1092, 1093, 1094, 1095, 1096, 308, 338, 1713, 1714, 1715, 1716, 1717, 1719, 98] rfl
set_option maxRecDepth 100000 in
set_option maxHeartbeats 4000000 in
theorem li_wsL_law_r55 : ∀ w ∈ wsL_law_r55, w ∈ lw_tbl := mem_idx wsL_law_r55 [1720, 1721, 1722, 1723, 1097, 1098, 1099, 1100, 474, 1101, 1102, 1103, 1104, 1105, 1106, 1107, 334, 1108, 1724, 1725, 1726, 1727, 1294, 1728] rfl
set_option maxRecDepth 100000 in
set_option maxHeartbeats 4000000 in
theorem li_wsL_law_r56 : ∀ w ∈ wsL_law_r56, w ∈ lw_tbl := mem_idx wsL_law_r56 [1730, 99, 1731, 1732, 1734, 100, 1735, 1109, 1110, 1111, 1112, 1113, 1114, 1115, 1116, 1117, 1118, 1119, 322, 1120, 1121, 1122, 1123, 1125] rfl
set_option maxRecDepth 100000 in
set_option maxHeartbeats 4000000 in
theorem li_wsL_law_r57 : ∀ w ∈ wsL_law_r57, w ∈ lw_tbl := mem_idx wsL_law_r57 [34, 1126, 1736, 1737, 1738, 1739, 1740, 1742, 101, 1743, 1127, 1128, 1129, 1130, 1131, 1132, 1133, 328, 1134, 1135, 1136, 1137, 1138, 1139] rfl
set_option maxRecDepth 100000 in
set_option maxHeartbeats 4000000 in
theorem li_wsL_law_r58 : ∀ w ∈ wsL_law_r58, w ∈ lw_tbl := mem_idx wsL_law_r58 [1140, 1141, 1142, 1143, 1144, 1145, 1146, 1147, 1148, 1149, 1150, 1744, 1745, 1746, 1747, 1295, 1748, 1750, 102, 1751, 1752, 1754, 103, 1755] rfl
set_option maxRecDepth 100000 in
set_option maxHeartbeats 4000000 in
theorem li_wsL_law_r59 : ∀ w ∈ wsL_law_r59, w ∈ lw_tbl := mem_idx wsL_law_r59 [1756, 1757, 1758, 1759, 1760, 1762, 104, 1763, 1151, 1152, 1153, 1154, 1155, 1156, 1157, 1158, 1159, 1764, 1765, 1766, 1767, 1160, 1161, 1162] rfl
set_option maxRecDepth 100000 in
set_option maxHeartbeats 4000000 in
theorem li_wsL_law_r60 : ∀ w ∈ wsL_law_r60, w ∈ lw_tbl := mem_idx wsL_law_r60 [1163, 343, 412, 418, 1768, 1769, 1770, 1771] rfl
set_option maxRecDepth 100000 in
set_option maxHeartbeats 4000000 in
theorem li_wsX110 : ∀ w ∈ wsX110, w ∈ lw_tbl := mem_idx wsX110 [496, 498, 500, 502, 504, 506, 508, 510, 512, 514, 516, 518] rfl
set_option maxRecDepth 100000 in
set_option maxHeartbeats 4000000 in
theorem li_wsX120 : ∀ w ∈ wsX120, w ∈ lw_tbl := mem_idx wsX120 [1296, 1298, 1300, 1302, 1304, 1306, 1308, 1310, 1312, 1314, 1316, 1318, 1320, 1322, 1324, 1326, 1328, 1330, 1332, 1334, 1336, 1338, 1340, 1342, 1344, 1346, 1348, 1350, 1352, 1354, 1356, 1358, 1360, 1362, 1364, 1366, 1368, 1370, 1372] rfl
set_option maxRecDepth 100000 in
set_option maxHeartbeats 4000000 in
theorem li_wsX90 : ∀ w ∈ wsX90, w ∈ lw_tbl := mem_idx wsX90 [286, 288, 290, 292, 294, 296, 298] rfl
set_option maxRecDepth 100000 in
set_option maxHeartbeats 4000000 in
theorem li_wsX40 : ∀ w ∈ wsX40, w ∈ lw_tbl := mem_idx wsX40 [352, 354, 356, 358, 360, 362, 364, 366, 368, 370, 372, 374, 376] rfl
set_option maxRecDepth 100000 in
set_option maxHeartbeats 4000000 in
theorem li_wsX70 : ∀ w ∈ wsX70, w ∈ lw_tbl := mem_idx wsX70 [390, 392, 394] rfl
set_option maxRecDepth 100000 in
set_option maxHeartbeats 4000000 in
theorem li_wsX00 : ∀ w ∈ wsX00, w ∈ lw_tbl := mem_idx wsX00 [421, 423, 425, 427, 429, 431, 433, 435, 437] rfl
set_option maxRecDepth 100000 in
set_option maxHeartbeats 4000000 in
theorem li_wsX80 : ∀ w ∈ wsX80, w ∈ lw_tbl := mem_idx wsX80 [449, 451] rfl
set_option maxRecDepth 100000 in
set_option maxHeartbeats 4000000 in
theorem li_wsX10 : ∀ w ∈ wsX10, w ∈ lw_tbl := mem_idx wsX10 [462, 464] rfl
set_option maxRecDepth 100000 in
set_option maxHeartbeats 4000000 in
theorem li_wsX50 : ∀ w ∈ wsX50, w ∈ lw_tbl := mem_idx wsX50 [477, 479, 481] rfl
set_option maxRecDepth 100000 in
set_option maxHeartbeats 4000000 in
theorem li_wsX30 : ∀ w ∈ wsX30, w ∈ lw_tbl := mem_idx wsX30 [269, 271, 273, 275] rfl
set_option maxRecDepth 100000 in
set_option maxHeartbeats 4000000 in
theorem li_wsX100 : ∀ w ∈ wsX100, w ∈ lw_tbl := mem_idx wsX100 [218, 220, 222, 224, 226, 228, 230, 232] rfl
set_option maxRecDepth 100000 in
set_option maxHeartbeats 4000000 in
theorem li_wsX20 : ∀ w ∈ wsX20, w ∈ lw_tbl := mem_idx wsX20 [250, 252, 254, 256, 258] rfl
theorem wsL_law_in : ∀ w ∈ wsL_law, w ∈ lw_tbl := (List.forall_mem_append.mpr ⟨(List.forall_mem_append.mpr ⟨(List.forall_mem_append.mpr ⟨(List.forall_mem_append.mpr ⟨(List.forall_mem_append.mpr ⟨(List.forall_mem_append.mpr ⟨(List.forall_mem_append.mpr ⟨(List.forall_mem_append.mpr ⟨(List.forall_mem_append.mpr ⟨(List.forall_mem_append.mpr ⟨(List.forall_mem_append.mpr ⟨(List.forall_mem_append.mpr ⟨(List.forall_mem_append.mpr ⟨(List.forall_mem_append.mpr ⟨li_wsL_law_r1, (List.forall_mem_append.mpr ⟨li_wsL_law_r2, (List.forall_mem_append.mpr ⟨li_wsL_law_r3, (List.forall_mem_append.mpr ⟨li_wsL_law_r4, (List.forall_mem_append.mpr ⟨li_wsL_law_r5, (List.forall_mem_append.mpr ⟨li_wsL_law_r6, (List.forall_mem_append.mpr ⟨li_wsL_law_r7, (List.forall_mem_append.mpr ⟨li_wsL_law_r8, (List.forall_mem_append.mpr ⟨li_wsL_law_r9, (List.forall_mem_append.mpr ⟨li_wsL_law_r10, (List.forall_mem_append.mpr ⟨li_wsL_law_r11, (List.forall_mem_append.mpr ⟨li_wsL_law_r12, (List.forall_mem_append.mpr ⟨li_wsL_law_r13, (List.forall_mem_append.mpr ⟨li_wsL_law_r14, (List.forall_mem_append.mpr ⟨li_wsL_law_r15, (List.forall_mem_append.mpr ⟨li_wsL_law_r16, (List.forall_mem_append.mpr ⟨li_wsL_law_r17, (List.forall_mem_append.mpr ⟨li_wsL_law_r18, (List.forall_mem_append.mpr ⟨li_wsL_law_r19, (List.forall_mem_append.mpr ⟨li_wsL_law_r20, (List.forall_mem_append.mpr ⟨li_wsL_law_r21, (List.forall_mem_append.mpr ⟨li_wsL_law_r22, (List.forall_mem_append.mpr ⟨li_wsL_law_r23, (List.forall_mem_append.mpr ⟨li_wsL_law_r24, (List.forall_mem_append.mpr ⟨li_wsL_law_r25, (List.forall_mem_append.mpr ⟨li_wsL_law_r26, (List.forall_mem_append.mpr ⟨li_wsL_law_r27, (List.forall_mem_append.mpr ⟨li_wsL_law_r28, (List.forall_mem_append.mpr ⟨li_wsL_law_r29, (List.forall_mem_append.mpr ⟨li_wsL_law_r30, (List.forall_mem_append.mpr ⟨li_wsL_law_r31, (List.forall_mem_append.mpr ⟨li_wsL_law_r32, (List.forall_mem_append.mpr ⟨li_wsL_law_r33, (List.forall_mem_append.mpr ⟨li_wsL_law_r34, (List.forall_mem_append.mpr ⟨li_wsL_law_r35, (List.forall_mem_append.mpr ⟨li_wsL_law_r36, (List.forall_mem_append.mpr ⟨li_wsL_law_r37, (List.forall_mem_append.mpr ⟨li_wsL_law_r38, (List.forall_mem_append.mpr ⟨li_wsL_law_r39, (List.forall_mem_append.mpr ⟨li_wsL_law_r40, (List.forall_mem_append.mpr ⟨li_wsL_law_r41, (List.forall_mem_append.mpr ⟨li_wsL_law_r42, (List.forall_mem_append.mpr ⟨li_wsL_law_r43, (List.forall_mem_append.mpr ⟨li_wsL_law_r44, (List.forall_mem_append.mpr ⟨li_wsL_law_r45, (List.forall_mem_append.mpr ⟨li_wsL_law_r46, (List.forall_mem_append.mpr ⟨li_wsL_law_r47, (List.forall_mem_append.mpr ⟨li_wsL_law_r48, (List.forall_mem_append.mpr ⟨li_wsL_law_r49, (List.forall_mem_append.mpr ⟨li_wsL_law_r50, (List.forall_mem_append.mpr ⟨li_wsL_law_r51, (List.forall_mem_append.mpr ⟨li_wsL_law_r52, (List.forall_mem_append.mpr ⟨li_wsL_law_r53, (List.forall_mem_append.mpr ⟨li_wsL_law_r54, (List.forall_mem_append.mpr ⟨li_wsL_law_r55, (List.forall_mem_append.mpr ⟨li_wsL_law_r56, (List.forall_mem_append.mpr ⟨li_wsL_law_r57, (List.forall_mem_append.mpr ⟨li_wsL_law_r58, (List.forall_mem_append.mpr ⟨li_wsL_law_r59, li_wsL_law_r60⟩)⟩)⟩)⟩)⟩)⟩)⟩)⟩)⟩)⟩)⟩)⟩)⟩)⟩)⟩)⟩)⟩)⟩)⟩)⟩)⟩)⟩)⟩)⟩)⟩)⟩)⟩)⟩)⟩)⟩)⟩)⟩)⟩)⟩)⟩)⟩)⟩)⟩)⟩)⟩)⟩)⟩)⟩)⟩)⟩)⟩)⟩)⟩)⟩)⟩)⟩)⟩)⟩)⟩)⟩)⟩)⟩)⟩)⟩), li_wsX110⟩), li_wsX120⟩), li_wsX90⟩), li_wsX40⟩), li_wsX70⟩), li_wsX00⟩), li_wsX80⟩), li_wsX10⟩), li_wsX50⟩), li_wsX30⟩), li_wsX100⟩), li_wsX20⟩), (fun _ h => absurd h List.not_mem_nil)⟩)
set_option maxRecDepth 100000 in
theorem lwK : Cond.constantLong RL 13 4294967295 ∈ wsL_law := List.mem_of_getElem? (i := 6) rfl
