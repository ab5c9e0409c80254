/-! laid by program: cases of the law -/
theorem dL_law_541 : decode cL_law 541 = .ok (.aload_n 1, 1) := by decide +kernel
theorem dL_law_542 : decode cL_law 542 = .ok (.invokevirtual 57, 3) := by decide +kernel
theorem dL_law_545 : decode cL_law 545 = .ok (.aload_n 2, 1) := by decide +kernel
theorem dL_law_546 : decode cL_law 546 = .ok (.invokevirtual 60, 3) := by decide +kernel
theorem dL_law_549 : decode cL_law 549 = .ok (.if_icmp .eq 616, 3) := by decide +kernel
theorem dL_law_552 : decode cL_law 552 = .ok (.iconst 0, 1) := by decide +kernel
theorem dL_law_553 : decode cL_law 553 = .ok (.ireturn, 1) := by decide +kernel
theorem dL_law_554 : decode cL_law 554 = .ok (.aload_n 1, 1) := by decide +kernel
theorem dL_law_555 : decode cL_law 555 = .ok (.invokevirtual 61, 3) := by decide +kernel
theorem dL_law_558 : decode cL_law 558 = .ok (.aload_n 2, 1) := by decide +kernel
theorem dL_law_559 : decode cL_law 559 = .ok (.invokevirtual 65, 3) := by decide +kernel
theorem dL_law_562 : decode cL_law 562 = .ok (.if_icmp .eq 603, 3) := by decide +kernel
theorem dL_law_565 : decode cL_law 565 = .ok (.iconst 0, 1) := by decide +kernel
theorem dL_law_566 : decode cL_law 566 = .ok (.ireturn, 1) := by decide +kernel
theorem dL_law_567 : decode cL_law 567 = .ok (.aload_n 1, 1) := by decide +kernel
theorem dL_law_568 : decode cL_law 568 = .ok (.aload_n 0, 1) := by decide +kernel
theorem dL_law_569 : decode cL_law 569 = .ok (.iload_n 3, 1) := by decide +kernel
theorem dL_law_570 : decode cL_law 570 = .ok (.iconst 1, 1) := by decide +kernel
theorem dL_law_571 : decode cL_law 571 = .ok (.iadd, 1) := by decide +kernel
theorem dL_law_572 : decode cL_law 572 = .ok (.iaload, 1) := by decide +kernel
theorem dL_law_573 : decode cL_law 573 = .ok (.invokevirtual 66, 3) := by decide +kernel
theorem dL_law_576 : decode cL_law 576 = .ok (.aload_n 2, 1) := by decide +kernel
theorem dL_law_577 : decode cL_law 577 = .ok (.aload_n 0, 1) := by decide +kernel
theorem dL_law_578 : decode cL_law 578 = .ok (.iload_n 3, 1) := by decide +kernel
theorem dL_law_579 : decode cL_law 579 = .ok (.iconst 1, 1) := by decide +kernel
theorem dL_law_580 : decode cL_law 580 = .ok (.iadd, 1) := by decide +kernel
theorem dL_law_581 : decode cL_law 581 = .ok (.iaload, 1) := by decide +kernel
theorem dL_law_582 : decode cL_law 582 = .ok (.invokevirtual 69, 3) := by decide +kernel
theorem dL_law_585 : decode cL_law 585 = .ok (.if_icmp .eq 580, 3) := by decide +kernel
theorem dL_law_588 : decode cL_law 588 = .ok (.iconst 0, 1) := by decide +kernel
theorem dL_law_589 : decode cL_law 589 = .ok (.ireturn, 1) := by decide +kernel
theorem dL_law_590 : decode cL_law 590 = .ok (.aload_n 1, 1) := by decide +kernel
theorem dL_law_591 : decode cL_law 591 = .ok (.invokevirtual 70, 3) := by decide +kernel
theorem dL_law_594 : decode cL_law 594 = .ok (.aload_n 2, 1) := by decide +kernel
theorem dL_law_595 : decode cL_law 595 = .ok (.invokevirtual 73, 3) := by decide +kernel
theorem dL_law_598 : decode cL_law 598 = .ok (.if_icmp .eq 567, 3) := by decide +kernel
theorem dL_law_601 : decode cL_law 601 = .ok (.iconst 0, 1) := by decide +kernel
theorem dL_law_602 : decode cL_law 602 = .ok (.ireturn, 1) := by decide +kernel
theorem dL_law_603 : decode cL_law 603 = .ok (.aload_n 1, 1) := by decide +kernel
theorem dL_law_604 : decode cL_law 604 = .ok (.invokevirtual 74, 3) := by decide +kernel
theorem dL_law_607 : decode cL_law 607 = .ok (.aload_n 2, 1) := by decide +kernel
theorem dL_law_608 : decode cL_law 608 = .ok (.invokevirtual 77, 3) := by decide +kernel
theorem dL_law_611 : decode cL_law 611 = .ok (.if_icmp .eq 554, 3) := by decide +kernel
theorem dL_law_614 : decode cL_law 614 = .ok (.iconst 0, 1) := by decide +kernel
theorem dL_law_615 : decode cL_law 615 = .ok (.ireturn, 1) := by decide +kernel
theorem dL_law_616 : decode cL_law 616 = .ok (.aload_n 1, 1) := by decide +kernel
theorem dL_law_617 : decode cL_law 617 = .ok (.invokevirtual 78, 3) := by decide +kernel
theorem dL_law_620 : decode cL_law 620 = .ok (.aload_n 2, 1) := by decide +kernel
theorem dL_law_621 : decode cL_law 621 = .ok (.invokevirtual 81, 3) := by decide +kernel
theorem dL_law_624 : decode cL_law 624 = .ok (.if_icmp .eq 541, 3) := by decide +kernel
theorem dL_law_627 : decode cL_law 627 = .ok (.iconst 0, 1) := by decide +kernel
theorem dL_law_628 : decode cL_law 628 = .ok (.ireturn, 1) := by decide +kernel
theorem dL_law_629 : decode cL_law 629 = .ok (.aload_n 1, 1) := by decide +kernel
theorem dL_law_630 : decode cL_law 630 = .ok (.invokevirtual 82, 3) := by decide +kernel
theorem dL_law_633 : decode cL_law 633 = .ok (.aload_n 2, 1) := by decide +kernel
theorem dL_law_634 : decode cL_law 634 = .ok (.invokevirtual 85, 3) := by decide +kernel
theorem dL_law_637 : decode cL_law 637 = .ok (.if_icmp .eq 528, 3) := by decide +kernel
theorem dL_law_640 : decode cL_law 640 = .ok (.iconst 0, 1) := by decide +kernel
theorem dL_law_641 : decode cL_law 641 = .ok (.ireturn, 1) := by decide +kernel
theorem dL_law_642 : decode cL_law 642 = .ok (.aload_n 1, 1) := by decide +kernel
theorem dL_law_643 : decode cL_law 643 = .ok (.invokevirtual 86, 3) := by decide +kernel
theorem dL_law_646 : decode cL_law 646 = .ok (.aload_n 2, 1) := by decide +kernel
theorem dL_law_647 : decode cL_law 647 = .ok (.invokevirtual 89, 3) := by decide +kernel
theorem dL_law_650 : decode cL_law 650 = .ok (.if_icmp .eq 515, 3) := by decide +kernel
theorem dL_law_653 : decode cL_law 653 = .ok (.iconst 0, 1) := by decide +kernel
theorem dL_law_654 : decode cL_law 654 = .ok (.ireturn, 1) := by decide +kernel
set_option maxRecDepth 20000 in
theorem gL_law_X11_night : GoodIn wsL_law (wsV RL 57 RX11 yX11_night wsX11_night) := goodIn_r _ [925, 926, 927, 2, 928, 22, 929, 32, 930, 849, 931, 932, 933, 21, 934, 325, 595, 567, 568, 569, 611, 579, 580, 581, 935, 936, 937, 31, 938, 617, 156, 616, 868, 869, 870, 871, 619, 159, 160, 1424, 1425, 1426, 1427, 1428, 1429, 1430, 1431, 1432, 1433, 1434, 1435, 1482, 1483, 1484, 1485, 1486, 1487, 1488, 1489, 1490, 1491, 1492, 1493, 1494, 1498, 1499, 1500, 1501, 1502, 1503, 1504, 1505, 1506] rfl (by decide +kernel)
set_option maxRecDepth 20000 in
theorem gL_law_X12_night : GoodIn wsL_law (wsV RL 60 RX12 yX12_night wsX12_night) := goodIn_r _ [939, 940, 941, 5, 942, 302, 228, 260, 261, 262, 5, 263, 218, 895, 896, 897, 898, 247, 899, 900, 901, 902, 943, 944, 945, 946, 947, 948, 949, 950, 272, 273, 274, 275, 276, 277, 278, 279, 280, 281, 282, 1436, 1437, 1438, 1439, 1440, 1441, 1442, 1443, 1444, 1445, 1446, 1447, 1448, 1449, 1450, 1451, 1452, 1453, 1454, 1455, 1456, 1457, 1458, 1459, 1460, 1461, 1462, 1463, 1464, 1465, 1466, 1467, 1468, 1469, 1470, 1471, 1472, 1473, 1474] rfl (by decide +kernel)
set_option maxRecDepth 20000 in
theorem gL_law_X11_undo : GoodIn wsL_law (wsV RL 61 RX11 yX11_undo wsX11_undo) := goodIn_r _ [951, 952, 953, 2, 954, 32, 955, 956, 957, 31, 958, 619, 159, 616, 160, 617, 1424, 1425, 1426, 1427, 1428, 1429, 1430, 1431, 1432, 1433, 1434, 1435, 1498, 1499, 1500, 1501, 1502, 1503, 1504, 1505, 1506] rfl (by decide +kernel)
set_option maxRecDepth 20000 in
theorem gL_law_X12_undo : GoodIn wsL_law (wsV RL 65 RX12 yX12_undo wsX12_undo) := goodIn_r _ [959, 960, 961, 5, 962, 302, 247, 899, 900, 901, 5, 902, 228, 1436, 1437, 1438, 1439, 1440, 1441, 1442, 1443, 1444, 1445, 1446, 1447, 1448, 1449, 1450, 1451, 1452, 1453, 1454, 1455, 1456, 1457, 1458, 1459, 1460, 1461, 1462, 1463, 1464, 1465, 1466, 1467, 1468, 1469, 1470, 1471, 1472, 1473, 1474] rfl (by decide +kernel)
set_option maxRecDepth 20000 in
theorem gL_law_X11_judged : GoodIn wsL_law (wsV RL 66 RX11 yX11_judged wsX11_judged) := goodIn_r _ [963, 964, 965, 2, 966, 27, 22, 611, 579, 580, 21, 581, 325, 967, 968, 969, 26, 970, 805, 152, 151, 971, 972, 973, 974, 975, 976, 977, 978, 872, 873, 874, 875, 876, 877, 878, 931, 932, 933, 934, 595, 567, 568, 569, 979, 980, 2, 981, 982, 983, 984, 985, 1424, 1425, 1426, 1427, 1428, 1429, 1430, 1431, 1432, 1433, 1434, 1435, 1482, 1483, 1484, 1485, 1486, 1487, 1488, 1489, 1490, 1491, 1492, 1493, 1494, 1495, 1496, 1497] rfl (by decide +kernel)
set_option maxRecDepth 20000 in
theorem gL_law_X12_judged : GoodIn wsL_law (wsV RL 69 RX12 yX12_judged wsX12_judged) := goodIn_r _ [986, 987, 988, 5, 989, 302, 228, 727, 728, 5, 729, 990, 991, 992, 993, 225, 283, 284, 285, 286, 275, 276, 277, 278, 279, 280, 281, 282, 260, 261, 262, 263, 218, 994, 995, 996, 997, 230, 252, 253, 254, 255, 219, 227, 220, 256, 257, 258, 259, 264, 265, 266, 267, 268, 269, 270, 271, 272, 273, 274, 887, 888, 889, 890, 943, 944, 945, 946, 947, 948, 949, 950, 903, 904, 905, 998, 999, 1000, 1436, 1437, 1438, 1439, 1440, 1441, 1442, 1443, 1444, 1445, 1446, 1447, 1448, 1449, 1450, 1451, 1452, 1453, 1454, 1455, 1456, 1457, 1458, 1459, 1460, 1461, 1462, 1463, 1464, 1465, 1466, 1467, 1468, 1469, 1470, 1471, 1472, 1473, 1474] rfl (by decide +kernel)
set_option maxRecDepth 20000 in
theorem gL_law_X11_spare : GoodIn wsL_law (wsV RL 70 RX11 yX11_spare wsX11_spare) := goodIn_r _ [1001, 1002, 1003, 2, 1004, 27, 22, 611, 579, 580, 21, 581, 325, 1005, 1006, 1007, 26, 1008, 805, 1009, 976, 977, 978, 971, 972, 973, 974, 152, 151, 1424, 1425, 1426, 1427, 1428, 1429, 1430, 1431, 1432, 1433, 1434, 1435, 1482, 1483, 1484, 1485, 1486, 1487, 1488, 1489, 1490, 1491, 1492, 1493, 1494, 1495, 1496, 1497] rfl (by decide +kernel)
set_option maxRecDepth 20000 in
theorem gL_law_X12_spare : GoodIn wsL_law (wsV RL 73 RX12 yX12_spare wsX12_spare) := goodIn_r _ [1010, 1011, 1012, 5, 1013, 302, 228, 225, 990, 991, 992, 5, 993, 283, 284, 285, 286, 275, 276, 277, 278, 279, 280, 281, 282, 260, 261, 262, 263, 218, 994, 995, 996, 997, 230, 252, 253, 254, 255, 219, 227, 220, 256, 257, 258, 259, 264, 265, 266, 267, 268, 269, 270, 271, 272, 273, 274, 887, 888, 889, 890, 943, 944, 945, 946, 947, 948, 949, 950, 1436, 1437, 1438, 1439, 1440, 1441, 1442, 1443, 1444, 1445, 1446, 1447, 1448, 1449, 1450, 1451, 1452, 1453, 1454, 1455, 1456, 1457, 1458, 1459, 1460, 1461, 1462, 1463, 1464, 1465, 1466, 1467, 1468, 1469, 1470, 1471, 1472, 1473, 1474] rfl (by decide +kernel)
set_option maxRecDepth 20000 in
theorem gL_law_X11_who : GoodIn wsL_law (wsV RL 74 RX11 yX11_who wsX11_who) := goodIn_r _ [1014, 1015, 1016, 2, 1017, 22, 32, 849, 931, 932, 933, 21, 934, 325, 595, 567, 568, 569, 1424, 1425, 1426, 1427, 1428, 1429, 1430, 1431, 1432, 1433, 1434, 1435, 1498, 1499, 1500, 1501, 1502, 1503, 1504, 1505, 1506, 1482, 1483, 1484, 1485, 1486, 1487, 1488, 1489, 1490, 1491, 1492, 1493, 1494] rfl (by decide +kernel)
set_option maxRecDepth 20000 in
theorem gL_law_X12_who : GoodIn wsL_law (wsV RL 77 RX12 yX12_who wsX12_who) := goodIn_r _ [1018, 1019, 1020, 5, 1021, 302, 228, 947, 948, 949, 5, 950, 260, 261, 262, 263, 218, 272, 273, 274, 1436, 1437, 1438, 1439, 1440, 1441, 1442, 1443, 1444, 1445, 1446, 1447, 1448, 1449, 1450, 1451, 1452, 1453, 1454, 1455, 1456, 1457, 1458, 1459, 1460, 1461, 1462, 1463, 1464, 1465, 1466, 1467, 1468, 1469, 1470, 1471, 1472, 1473, 1474] rfl (by decide +kernel)
set_option maxRecDepth 20000 in
theorem gL_law_X11_ask : GoodIn wsL_law (wsV RL 78 RX11 yX11_ask wsX11_ask) := goodIn_r _ [1022, 1023, 1024, 2, 1025, 22, 32, 849, 1026, 1027, 38, 1028, 1029, 1030, 368, 369, 370, 1031, 932, 933, 21, 934, 325, 595, 567, 568, 569, 1032, 873, 874, 875, 876, 877, 878, 1033, 1034, 792, 793, 794, 138, 795, 796, 797, 798, 578, 579, 580, 581, 1424, 1425, 1426, 1427, 1428, 1429, 1430, 1431, 1432, 1433, 1434, 1435, 1498, 1499, 1500, 1501, 1502, 1503, 1504, 1505, 1506, 1482, 1483, 1484, 1485, 1486, 1487, 1488, 1489, 1490, 1491, 1492, 1493, 1494] rfl (by decide +kernel)
set_option maxRecDepth 20000 in
theorem gL_law_X12_ask : GoodIn wsL_law (wsV RL 81 RX12 yX12_ask wsX12_ask) := goodIn_r _ [1035, 1036, 1037, 5, 1038, 302, 228, 947, 948, 949, 5, 950, 260, 261, 262, 263, 218, 272, 273, 274, 903, 904, 905, 828, 829, 830, 831, 883, 884, 885, 886, 275, 276, 277, 278, 279, 280, 281, 282, 887, 888, 889, 890, 264, 265, 266, 267, 1436, 1437, 1438, 1439, 1440, 1441, 1442, 1443, 1444, 1445, 1446, 1447, 1448, 1449, 1450, 1451, 1452, 1453, 1454, 1455, 1456, 1457, 1458, 1459, 1460, 1461, 1462, 1463, 1464, 1465, 1466, 1467, 1468, 1469, 1470, 1471, 1472, 1473, 1474] rfl (by decide +kernel)
set_option maxRecDepth 20000 in
theorem gL_law_X11_fewest : GoodIn wsL_law (wsV RL 82 RX11 yX11_fewest wsX11_fewest) := goodIn_r _ [1039, 1040, 1041, 2, 1042, 39, 22, 32, 849, 1043, 1044, 1045, 38, 1046, 165, 1031, 932, 933, 21, 934, 325, 595, 567, 568, 569, 1047, 1048, 1049, 1050, 1029, 1051, 164, 1033, 1034, 792, 793, 794, 138, 795, 796, 797, 798, 578, 579, 580, 581, 1052, 1053, 1054, 1055, 1032, 873, 874, 875, 876, 877, 878, 1056, 1057, 1058, 1059, 1030, 368, 369, 370, 1424, 1425, 1426, 1427, 1428, 1429, 1430, 1431, 1432, 1433, 1434, 1435, 1498, 1499, 1500, 1501, 1502, 1503, 1504, 1505, 1506, 1507, 1508, 1482, 1483, 1484, 1485, 1486, 1487, 1488, 1489, 1490, 1491, 1492, 1493, 1494] rfl (by decide +kernel)
set_option maxRecDepth 20000 in
theorem gL_law_X12_fewest : GoodIn wsL_law (wsV RL 85 RX12 yX12_fewest wsX12_fewest) := goodIn_r _ [1060, 1061, 1062, 5, 1063, 302, 232, 1064, 228, 260, 261, 262, 5, 263, 218, 998, 999, 1000, 828, 829, 830, 831, 264, 265, 266, 267, 883, 884, 885, 886, 272, 273, 274, 275, 276, 277, 278, 279, 280, 281, 282, 887, 888, 889, 890, 947, 948, 949, 950, 1436, 1437, 1438, 1439, 1440, 1441, 1442, 1443, 1444, 1445, 1446, 1447, 1448, 1449, 1450, 1451, 1452, 1453, 1454, 1455, 1456, 1457, 1458, 1459, 1460, 1461, 1462, 1463, 1464, 1465, 1466, 1467, 1468, 1469, 1470, 1471, 1472, 1473, 1474] rfl (by decide +kernel)
set_option maxRecDepth 20000 in
theorem gL_law_X11_tell : GoodIn wsL_law (wsV RL 86 RX11 yX11_tell wsX11_tell) := goodIn_r _ [1065, 1066, 1067, 2, 1068, 22, 32, 849, 1069, 1070, 1071, 1072, 1073, 1074, 873, 874, 875, 876, 877, 878, 1075, 1076, 1077, 1078, 1079, 1080, 1081, 1082, 1424, 1425, 1426, 1427, 1428, 1429, 1430, 1431, 1432, 1433, 1434, 1435, 1498, 1499, 1500, 1501, 1502, 1503, 1504, 1505, 1506, 1482, 1483, 1484, 1485, 1486, 1487, 1488, 1489, 1490, 1491, 1492, 1493, 1494] rfl (by decide +kernel)
set_option maxRecDepth 20000 in
theorem gL_law_X12_tell : GoodIn wsL_law (wsV RL 89 RX12 yX12_tell wsX12_tell) := goodIn_r _ [1083, 1084, 1085, 5, 1086, 302, 248, 249, 250, 5, 251, 218, 903, 904, 905, 1087, 1088, 1089, 1090, 228, 231, 279, 280, 281, 282, 260, 261, 262, 263, 1091, 1092, 1093, 1436, 1437, 1438, 1439, 1440, 1441, 1442, 1443, 1444, 1445, 1446, 1447, 1448, 1449, 1450, 1451, 1452, 1453, 1454, 1455, 1456, 1457, 1458, 1459, 1460, 1461, 1462, 1463, 1464, 1465, 1466, 1467, 1468, 1469, 1470, 1471, 1472, 1473, 1474] rfl (by decide +kernel)
section
variable {p : Program} {l : Launch} {e : Env} {s : State} {m : MethodId} {below : List Frame} {meth : Method} {c : Code} {D : va_G} {cy : Nat → ClassId} {ad aM : Nat → Nat} {A : Nat → Prop} {b L i : Nat} {xs : Nat → Int32} {Inv : (Nat → Ob) → Ob → Prop}
set_option maxRecDepth 100000 in
set_option maxHeartbeats 8000000 in
theorem law_night (hC : Cx p s m #[Value.ref b] meth c code 4 wsL_law RL ret) (hX : va_X b L xs s s.heap) (hbl : b < s.heap.size) (hbA : ¬ A b) (hL : L ≤ 3584) (hi : i + 7 ≤ L) (hS : St_night Inv) (next : ∀ (cs : Nat → Ob) (sm : Ob) (u : Nat → Nat → Nat) (gi : Value) (H : Heap) (locs : List Loc) (ls : Array Slot), Inv cs sm → GW D cy ad (AW cy u gi cs aM sm) A s H locs → lv_has ls 4 [(0, .ref b), (1, .ref (u 0 0)), (2, .ref (aM 0)), (3, .int (nI i))] → W p l e room_1 s m #[Value.ref b] below meth c H locs lwC lwS (lw_Z below #[Value.ref b] s) (F0 m 1165 ls [])) : ∀ (cs : Nat → Ob) (sm : Ob) (u : Nat → Nat → Nat) (gi : Value) (H : Heap) (locs : List Loc) (ls : Array Slot), Inv cs sm → GW D cy ad (AW cy u gi cs aM sm) A s H locs → lv_has ls 4 [(0, .ref b), (1, .ref (u 0 0)), (2, .ref (aM 0)), (3, .int (nI i))] → W p l e room_1 s m #[Value.ref b] below meth c H locs lwC lwS (lw_Z below #[Value.ref b] s) (F0 m 541 ls []) := by
  intro cs sm u gi H locs ls hI hW hl
  refine lv_aload_n hC.1 hC.2.1 dL_law_541 rfl (lv_at hl 1 rfl) ?_
  obtain ⟨r, SB, sm1, hf11, hf12, hI1⟩ := hS cs sm  hI 
  refine g_calliV (w' := AW cy u gi (va_up cs 10 SB) aM sm) hC hW (c11_night l D cy ad (u 0) (u 3) (u 1) (u 8) (u 9) (u 15) (u 16) (u 10) (u 5) (u 6) (u 7) (u 11) (u 12) (u 13) (u 14) hf11) (cwV 0 hC.2.2.2.2.1 gL_law_X11_night rfl rfl rfl hdV11_night ⟨Nat.le_of_ble_eq_true rfl, Nat.le_of_ble_eq_true rfl⟩) (Sub.takeL _ _ (Sub.skipL _ (Sub.skipL _ (Sub.skipL _ (Sub.skipL _ (Sub.skipL _ (Sub.skipL _ (Sub.skipL _ (Sub.takeL _ _ (Sub.skipL _ (Sub.takeLast _ _ _))))))))))) 0 10 rfl rfl rfl rfl hl.1 rfl (Nat.le_of_ble_eq_true rfl) dL_law_542 lwRm (fun H locs hW => ?_)
  refine lv_aload_n hC.1 hC.2.1 dL_law_545 rfl (lv_at hl 2 rfl) ?_
  refine g_calliV (w' := AW cy u gi (va_up cs 10 SB) aM sm1) hC hW (c12_night l D cy ad aM hf12) (cwV 0 hC.2.2.2.2.1 gL_law_X12_night rfl rfl rfl hdV12_night ⟨Nat.le_of_ble_eq_true rfl, Nat.le_of_ble_eq_true rfl⟩) (Sub.skipL _ (Sub.skipL _ (Sub.skipL _ (Sub.skipL _ (Sub.skipL _ (Sub.skipL _ (Sub.skipL _ (Sub.skipL _ (Sub.skipL _ (Sub.skipL _ (Sub.skipL _ (Sub.skipL _ (Sub.skipL _ (Sub.skipL _ (Sub.skipL _ (Sub.skipL _ (Sub.skipL _ (Sub.all _ _)))))))))))))))))) 0 11 rfl rfl rfl rfl hl.1 rfl (Nat.le_of_ble_eq_true rfl) dL_law_546 lwRm (fun H locs hW => ?_)
  refine lv_icmp_eq (tgt := 1165) hC.1 hC.2.1 dL_law_549 (by decide) (fun _ => ?_) (fun hc => absurd rfl hc)
  exact next _ _ u gi H locs ls hI1 hW hl
set_option maxRecDepth 100000 in
set_option maxHeartbeats 8000000 in
theorem law_undo (hC : Cx p s m #[Value.ref b] meth c code 4 wsL_law RL ret) (hX : va_X b L xs s s.heap) (hbl : b < s.heap.size) (hbA : ¬ A b) (hL : L ≤ 3584) (hi : i + 7 ≤ L) (hS : St_undo Inv) (next : ∀ (cs : Nat → Ob) (sm : Ob) (u : Nat → Nat → Nat) (gi : Value) (H : Heap) (locs : List Loc) (ls : Array Slot), Inv cs sm → GW D cy ad (AW cy u gi cs aM sm) A s H locs → lv_has ls 4 [(0, .ref b), (1, .ref (u 0 0)), (2, .ref (aM 0)), (3, .int (nI i))] → W p l e room_1 s m #[Value.ref b] below meth c H locs lwC lwS (lw_Z below #[Value.ref b] s) (F0 m 1165 ls [])) : ∀ (cs : Nat → Ob) (sm : Ob) (u : Nat → Nat → Nat) (gi : Value) (H : Heap) (locs : List Loc) (ls : Array Slot), Inv cs sm → GW D cy ad (AW cy u gi cs aM sm) A s H locs → lv_has ls 4 [(0, .ref b), (1, .ref (u 0 0)), (2, .ref (aM 0)), (3, .int (nI i))] → W p l e room_1 s m #[Value.ref b] below meth c H locs lwC lwS (lw_Z below #[Value.ref b] s) (F0 m 554 ls []) := by
  intro cs sm u gi H locs ls hI hW hl
  refine lv_aload_n hC.1 hC.2.1 dL_law_554 rfl (lv_at hl 1 rfl) ?_
  obtain ⟨r, SB, sm1, hf11, hf12, hI1⟩ := hS cs sm  hI 
  refine g_calliV (w' := AW cy u gi (va_up cs 10 SB) aM sm) hC hW (c11_undo l D cy ad (u 0) (u 3) (u 1) (u 8) (u 9) (u 15) (u 16) (u 10) (u 5) (u 6) (u 7) (u 11) (u 12) (u 13) (u 14) hf11) (cwV 0 hC.2.2.2.2.1 gL_law_X11_undo rfl rfl rfl hdV11_undo ⟨Nat.le_of_ble_eq_true rfl, Nat.le_of_ble_eq_true rfl⟩) (Sub.takeL _ _ (Sub.skipL _ (Sub.skipL _ (Sub.skipL _ (Sub.skipL _ (Sub.skipL _ (Sub.skipL _ (Sub.skipL _ (Sub.skipL _ (Sub.skipL _ (Sub.takeLast _ _ _))))))))))) 0 10 rfl rfl rfl rfl hl.1 rfl (Nat.le_of_ble_eq_true rfl) dL_law_555 lwRm (fun H locs hW => ?_)
  refine lv_aload_n hC.1 hC.2.1 dL_law_558 rfl (lv_at hl 2 rfl) ?_
  refine g_calliV (w' := AW cy u gi (va_up cs 10 SB) aM sm1) hC hW (c12_undo l D cy ad aM hf12) (cwV 0 hC.2.2.2.2.1 gL_law_X12_undo rfl rfl rfl hdV12_undo ⟨Nat.le_of_ble_eq_true rfl, Nat.le_of_ble_eq_true rfl⟩) (Sub.skipL _ (Sub.skipL _ (Sub.skipL _ (Sub.skipL _ (Sub.skipL _ (Sub.skipL _ (Sub.skipL _ (Sub.skipL _ (Sub.skipL _ (Sub.skipL _ (Sub.skipL _ (Sub.skipL _ (Sub.skipL _ (Sub.skipL _ (Sub.skipL _ (Sub.skipL _ (Sub.skipL _ (Sub.all _ _)))))))))))))))))) 0 11 rfl rfl rfl rfl hl.1 rfl (Nat.le_of_ble_eq_true rfl) dL_law_559 lwRm (fun H locs hW => ?_)
  refine lv_icmp_eq (tgt := 1165) hC.1 hC.2.1 dL_law_562 (by decide) (fun _ => ?_) (fun hc => absurd rfl hc)
  exact next _ _ u gi H locs ls hI1 hW hl
set_option maxRecDepth 100000 in
set_option maxHeartbeats 8000000 in
theorem law_judged (hC : Cx p s m #[Value.ref b] meth c code 4 wsL_law RL ret) (hX : va_X b L xs s s.heap) (hbl : b < s.heap.size) (hbA : ¬ A b) (hL : L ≤ 3584) (hi : i + 7 ≤ L) (hS : St_judged Inv) (next : ∀ (cs : Nat → Ob) (sm : Ob) (u : Nat → Nat → Nat) (gi : Value) (H : Heap) (locs : List Loc) (ls : Array Slot), Inv cs sm → GW D cy ad (AW cy u gi cs aM sm) A s H locs → lv_has ls 4 [(0, .ref b), (1, .ref (u 0 0)), (2, .ref (aM 0)), (3, .int (nI i))] → W p l e room_1 s m #[Value.ref b] below meth c H locs lwC lwS (lw_Z below #[Value.ref b] s) (F0 m 1165 ls [])) : ∀ (cs : Nat → Ob) (sm : Ob) (u : Nat → Nat → Nat) (gi : Value) (H : Heap) (locs : List Loc) (ls : Array Slot), Inv cs sm → GW D cy ad (AW cy u gi cs aM sm) A s H locs → lv_has ls 4 [(0, .ref b), (1, .ref (u 0 0)), (2, .ref (aM 0)), (3, .int (nI i))] → W p l e room_1 s m #[Value.ref b] below meth c H locs lwC lwS (lw_Z below #[Value.ref b] s) (F0 m 567 ls []) := by
  intro cs sm u gi H locs ls hI hW hl
  have hi1 : vp_in (nI i + 1) L := lw_in (j := 1) (by omega) (by omega)
  obtain ⟨a1, ea1⟩ : ∃ y : Int32, y = xs (Int32.toNatClampNeg (nI i + 1)) := ⟨_, rfl⟩
  refine lv_aload_n hC.1 hC.2.1 dL_law_567 rfl (lv_at hl 1 rfl) ?_
  refine lv_aload_n hC.1 hC.2.1 dL_law_568 rfl (lv_at hl 0 rfl) ?_
  refine lv_iload_n hC.1 hC.2.1 dL_law_569 rfl (lv_at hl 3 rfl) ?_
  refine lv_iconst (v := 1) hC.1 hC.2.1 dL_law_570 (by decide) ?_
  refine lv_iadd hC.1 hC.2.1 dL_law_571 ?_
  refine va_sld hC.1 hC.2.1 hX hbl hbA hW.2.2.2.1 hi1 dL_law_572 ?_
  refine lv_nmi ea1 ?_
  obtain ⟨r, sm1, hf11, hf12, hI1⟩ := hS cs sm a1 hI 
  refine g_calliV (w' := AW cy u gi cs aM sm) hC hW (c11_judged l D cy ad (u 0) (u 3) (u 1) (u 8) (u 9) (u 15) (u 16) (u 10) (u 5) (u 6) (u 7) (u 11) (u 12) (u 13) (u 14) hf11) (cwV 1 hC.2.2.2.2.1 gL_law_X11_judged rfl rfl rfl hdV11_judged ⟨Nat.le_of_ble_eq_true rfl, Nat.le_of_ble_eq_true rfl⟩) (Sub.takeL _ _ (Sub.skipL _ (Sub.skipL _ (Sub.skipL _ (Sub.skipL _ (Sub.skipL _ (Sub.skipL _ (Sub.skipL _ (Sub.takeL _ _ (Sub.skipL _ (Sub.skipL _ (Sub.skipL _ (Sub.skipL _ (Sub.skipL _ (Sub.skipL _ (Sub.takeLast _ _ _)))))))))))))))) 0 10 rfl rfl rfl rfl hl.1 rfl (Nat.le_of_ble_eq_true rfl) dL_law_573 lwRm (fun H locs hW => ?_)
  refine lv_aload_n hC.1 hC.2.1 dL_law_576 rfl (lv_at hl 2 rfl) ?_
  refine lv_aload_n hC.1 hC.2.1 dL_law_577 rfl (lv_at hl 0 rfl) ?_
  refine lv_iload_n hC.1 hC.2.1 dL_law_578 rfl (lv_at hl 3 rfl) ?_
  refine lv_iconst (v := 1) hC.1 hC.2.1 dL_law_579 (by decide) ?_
  refine lv_iadd hC.1 hC.2.1 dL_law_580 ?_
  refine va_sld hC.1 hC.2.1 hX hbl hbA hW.2.2.2.1 hi1 dL_law_581 ?_
  refine lv_nmi ea1 ?_
  refine g_calliV (w' := AW cy u gi cs aM sm1) hC hW (c12_judged l D cy ad aM hf12) (cwV 1 hC.2.2.2.2.1 gL_law_X12_judged rfl rfl rfl hdV12_judged ⟨Nat.le_of_ble_eq_true rfl, Nat.le_of_ble_eq_true rfl⟩) (Sub.skipL _ (Sub.skipL _ (Sub.skipL _ (Sub.skipL _ (Sub.skipL _ (Sub.skipL _ (Sub.skipL _ (Sub.skipL _ (Sub.skipL _ (Sub.skipL _ (Sub.skipL _ (Sub.skipL _ (Sub.skipL _ (Sub.skipL _ (Sub.skipL _ (Sub.skipL _ (Sub.skipL _ (Sub.all _ _)))))))))))))))))) 0 11 rfl rfl rfl rfl hl.1 rfl (Nat.le_of_ble_eq_true rfl) dL_law_582 lwRm (fun H locs hW => ?_)
  refine lv_icmp_eq (tgt := 1165) hC.1 hC.2.1 dL_law_585 (by decide) (fun _ => ?_) (fun hc => absurd rfl hc)
  exact next _ _ u gi H locs ls hI1 hW hl
set_option maxRecDepth 100000 in
set_option maxHeartbeats 8000000 in
theorem law_spare (hC : Cx p s m #[Value.ref b] meth c code 4 wsL_law RL ret) (hX : va_X b L xs s s.heap) (hbl : b < s.heap.size) (hbA : ¬ A b) (hL : L ≤ 3584) (hi : i + 7 ≤ L) (hS : St_spare Inv) (next : ∀ (cs : Nat → Ob) (sm : Ob) (u : Nat → Nat → Nat) (gi : Value) (H : Heap) (locs : List Loc) (ls : Array Slot), Inv cs sm → GW D cy ad (AW cy u gi cs aM sm) A s H locs → lv_has ls 4 [(0, .ref b), (1, .ref (u 0 0)), (2, .ref (aM 0)), (3, .int (nI i))] → W p l e room_1 s m #[Value.ref b] below meth c H locs lwC lwS (lw_Z below #[Value.ref b] s) (F0 m 1165 ls [])) : ∀ (cs : Nat → Ob) (sm : Ob) (u : Nat → Nat → Nat) (gi : Value) (H : Heap) (locs : List Loc) (ls : Array Slot), Inv cs sm → GW D cy ad (AW cy u gi cs aM sm) A s H locs → lv_has ls 4 [(0, .ref b), (1, .ref (u 0 0)), (2, .ref (aM 0)), (3, .int (nI i))] → W p l e room_1 s m #[Value.ref b] below meth c H locs lwC lwS (lw_Z below #[Value.ref b] s) (F0 m 590 ls []) := by
  intro cs sm u gi H locs ls hI hW hl
  refine lv_aload_n hC.1 hC.2.1 dL_law_590 rfl (lv_at hl 1 rfl) ?_
  obtain ⟨r, sm1, hf11, hf12, hI1⟩ := hS cs sm  hI 
  refine g_calliV (w' := AW cy u gi cs aM sm) hC hW (c11_spare l D cy ad (u 0) (u 3) (u 1) (u 8) (u 9) (u 15) (u 16) (u 10) (u 5) (u 6) (u 7) (u 11) (u 12) (u 13) (u 14) hf11) (cwV 0 hC.2.2.2.2.1 gL_law_X11_spare rfl rfl rfl hdV11_spare ⟨Nat.le_of_ble_eq_true rfl, Nat.le_of_ble_eq_true rfl⟩) (Sub.takeL _ _ (Sub.skipL _ (Sub.skipL _ (Sub.skipL _ (Sub.skipL _ (Sub.skipL _ (Sub.skipL _ (Sub.skipL _ (Sub.takeL _ _ (Sub.skipL _ (Sub.skipL _ (Sub.skipL _ (Sub.skipL _ (Sub.skipL _ (Sub.skipL _ (Sub.takeLast _ _ _)))))))))))))))) 0 10 rfl rfl rfl rfl hl.1 rfl (Nat.le_of_ble_eq_true rfl) dL_law_591 lwRm (fun H locs hW => ?_)
  refine lv_aload_n hC.1 hC.2.1 dL_law_594 rfl (lv_at hl 2 rfl) ?_
  refine g_calliV (w' := AW cy u gi cs aM sm1) hC hW (c12_spare l D cy ad aM hf12) (cwV 0 hC.2.2.2.2.1 gL_law_X12_spare rfl rfl rfl hdV12_spare ⟨Nat.le_of_ble_eq_true rfl, Nat.le_of_ble_eq_true rfl⟩) (Sub.skipL _ (Sub.skipL _ (Sub.skipL _ (Sub.skipL _ (Sub.skipL _ (Sub.skipL _ (Sub.skipL _ (Sub.skipL _ (Sub.skipL _ (Sub.skipL _ (Sub.skipL _ (Sub.skipL _ (Sub.skipL _ (Sub.skipL _ (Sub.skipL _ (Sub.skipL _ (Sub.skipL _ (Sub.all _ _)))))))))))))))))) 0 11 rfl rfl rfl rfl hl.1 rfl (Nat.le_of_ble_eq_true rfl) dL_law_595 lwRm (fun H locs hW => ?_)
  refine lv_icmp_eq (tgt := 1165) hC.1 hC.2.1 dL_law_598 (by decide) (fun _ => ?_) (fun hc => absurd rfl hc)
  exact next _ _ u gi H locs ls hI1 hW hl
set_option maxRecDepth 100000 in
set_option maxHeartbeats 8000000 in
theorem law_who (hC : Cx p s m #[Value.ref b] meth c code 4 wsL_law RL ret) (hX : va_X b L xs s s.heap) (hbl : b < s.heap.size) (hbA : ¬ A b) (hL : L ≤ 3584) (hi : i + 7 ≤ L) (hS : St_who Inv) (next : ∀ (cs : Nat → Ob) (sm : Ob) (u : Nat → Nat → Nat) (gi : Value) (H : Heap) (locs : List Loc) (ls : Array Slot), Inv cs sm → GW D cy ad (AW cy u gi cs aM sm) A s H locs → lv_has ls 4 [(0, .ref b), (1, .ref (u 0 0)), (2, .ref (aM 0)), (3, .int (nI i))] → W p l e room_1 s m #[Value.ref b] below meth c H locs lwC lwS (lw_Z below #[Value.ref b] s) (F0 m 1165 ls [])) : ∀ (cs : Nat → Ob) (sm : Ob) (u : Nat → Nat → Nat) (gi : Value) (H : Heap) (locs : List Loc) (ls : Array Slot), Inv cs sm → GW D cy ad (AW cy u gi cs aM sm) A s H locs → lv_has ls 4 [(0, .ref b), (1, .ref (u 0 0)), (2, .ref (aM 0)), (3, .int (nI i))] → W p l e room_1 s m #[Value.ref b] below meth c H locs lwC lwS (lw_Z below #[Value.ref b] s) (F0 m 603 ls []) := by
  intro cs sm u gi H locs ls hI hW hl
  refine lv_aload_n hC.1 hC.2.1 dL_law_603 rfl (lv_at hl 1 rfl) ?_
  obtain ⟨r, sm1, hf11, hf12, hI1⟩ := hS cs sm  hI 
  refine g_calliV (w' := AW cy u gi cs aM sm) hC hW (c11_who l D cy ad (u 0) (u 3) (u 1) (u 8) (u 9) (u 15) (u 16) (u 10) (u 5) (u 6) (u 7) (u 11) (u 12) (u 13) (u 14) hf11) (cwV 0 hC.2.2.2.2.1 gL_law_X11_who rfl rfl rfl hdV11_who ⟨Nat.le_of_ble_eq_true rfl, Nat.le_of_ble_eq_true rfl⟩) (Sub.takeL _ _ (Sub.skipL _ (Sub.skipL _ (Sub.skipL _ (Sub.skipL _ (Sub.skipL _ (Sub.skipL _ (Sub.skipL _ (Sub.takeL _ _ (Sub.skipL _ (Sub.takeLast _ _ _))))))))))) 0 10 rfl rfl rfl rfl hl.1 rfl (Nat.le_of_ble_eq_true rfl) dL_law_604 lwRm (fun H locs hW => ?_)
  refine lv_aload_n hC.1 hC.2.1 dL_law_607 rfl (lv_at hl 2 rfl) ?_
  refine g_calliV (w' := AW cy u gi cs aM sm1) hC hW (c12_who l D cy ad aM hf12) (cwV 0 hC.2.2.2.2.1 gL_law_X12_who rfl rfl rfl hdV12_who ⟨Nat.le_of_ble_eq_true rfl, Nat.le_of_ble_eq_true rfl⟩) (Sub.skipL _ (Sub.skipL _ (Sub.skipL _ (Sub.skipL _ (Sub.skipL _ (Sub.skipL _ (Sub.skipL _ (Sub.skipL _ (Sub.skipL _ (Sub.skipL _ (Sub.skipL _ (Sub.skipL _ (Sub.skipL _ (Sub.skipL _ (Sub.skipL _ (Sub.skipL _ (Sub.skipL _ (Sub.all _ _)))))))))))))))))) 0 11 rfl rfl rfl rfl hl.1 rfl (Nat.le_of_ble_eq_true rfl) dL_law_608 lwRm (fun H locs hW => ?_)
  refine lv_icmp_eq (tgt := 1165) hC.1 hC.2.1 dL_law_611 (by decide) (fun _ => ?_) (fun hc => absurd rfl hc)
  exact next _ _ u gi H locs ls hI1 hW hl
set_option maxRecDepth 100000 in
set_option maxHeartbeats 8000000 in
theorem law_ask (hC : Cx p s m #[Value.ref b] meth c code 4 wsL_law RL ret) (hX : va_X b L xs s s.heap) (hbl : b < s.heap.size) (hbA : ¬ A b) (hL : L ≤ 3584) (hi : i + 7 ≤ L) (hS : St_ask Inv) (next : ∀ (cs : Nat → Ob) (sm : Ob) (u : Nat → Nat → Nat) (gi : Value) (H : Heap) (locs : List Loc) (ls : Array Slot), Inv cs sm → GW D cy ad (AW cy u gi cs aM sm) A s H locs → lv_has ls 4 [(0, .ref b), (1, .ref (u 0 0)), (2, .ref (aM 0)), (3, .int (nI i))] → W p l e room_1 s m #[Value.ref b] below meth c H locs lwC lwS (lw_Z below #[Value.ref b] s) (F0 m 1165 ls [])) : ∀ (cs : Nat → Ob) (sm : Ob) (u : Nat → Nat → Nat) (gi : Value) (H : Heap) (locs : List Loc) (ls : Array Slot), Inv cs sm → GW D cy ad (AW cy u gi cs aM sm) A s H locs → lv_has ls 4 [(0, .ref b), (1, .ref (u 0 0)), (2, .ref (aM 0)), (3, .int (nI i))] → W p l e room_1 s m #[Value.ref b] below meth c H locs lwC lwS (lw_Z below #[Value.ref b] s) (F0 m 616 ls []) := by
  intro cs sm u gi H locs ls hI hW hl
  refine lv_aload_n hC.1 hC.2.1 dL_law_616 rfl (lv_at hl 1 rfl) ?_
  obtain ⟨r, sm1, hf11, hf12, hI1⟩ := hS cs sm  hI 
  refine g_calliV (w' := AW cy u gi cs aM sm) hC hW (c11_ask l D cy ad (u 0) (u 3) (u 1) (u 8) (u 9) (u 15) (u 16) (u 10) (u 5) (u 6) (u 7) (u 11) (u 12) (u 13) (u 14) hf11) (cwV 0 hC.2.2.2.2.1 gL_law_X11_ask rfl rfl rfl hdV11_ask ⟨Nat.le_of_ble_eq_true rfl, Nat.le_of_ble_eq_true rfl⟩) (Sub.takeL _ _ (Sub.skipL _ (Sub.skipL _ (Sub.skipL _ (Sub.skipL _ (Sub.skipL _ (Sub.skipL _ (Sub.skipL _ (Sub.takeL _ _ (Sub.skipL _ (Sub.takeLast _ _ _))))))))))) 0 10 rfl rfl rfl rfl hl.1 rfl (Nat.le_of_ble_eq_true rfl) dL_law_617 lwRm (fun H locs hW => ?_)
  refine lv_aload_n hC.1 hC.2.1 dL_law_620 rfl (lv_at hl 2 rfl) ?_
  refine g_calliV (w' := AW cy u gi cs aM sm1) hC hW (c12_ask l D cy ad aM hf12) (cwV 0 hC.2.2.2.2.1 gL_law_X12_ask rfl rfl rfl hdV12_ask ⟨Nat.le_of_ble_eq_true rfl, Nat.le_of_ble_eq_true rfl⟩) (Sub.skipL _ (Sub.skipL _ (Sub.skipL _ (Sub.skipL _ (Sub.skipL _ (Sub.skipL _ (Sub.skipL _ (Sub.skipL _ (Sub.skipL _ (Sub.skipL _ (Sub.skipL _ (Sub.skipL _ (Sub.skipL _ (Sub.skipL _ (Sub.skipL _ (Sub.skipL _ (Sub.skipL _ (Sub.all _ _)))))))))))))))))) 0 11 rfl rfl rfl rfl hl.1 rfl (Nat.le_of_ble_eq_true rfl) dL_law_621 lwRm (fun H locs hW => ?_)
  refine lv_icmp_eq (tgt := 1165) hC.1 hC.2.1 dL_law_624 (by decide) (fun _ => ?_) (fun hc => absurd rfl hc)
  exact next _ _ u gi H locs ls hI1 hW hl
set_option maxRecDepth 100000 in
set_option maxHeartbeats 8000000 in
theorem law_fewest (hC : Cx p s m #[Value.ref b] meth c code 4 wsL_law RL ret) (hX : va_X b L xs s s.heap) (hbl : b < s.heap.size) (hbA : ¬ A b) (hL : L ≤ 3584) (hi : i + 7 ≤ L) (hS : St_fewest Inv) (next : ∀ (cs : Nat → Ob) (sm : Ob) (u : Nat → Nat → Nat) (gi : Value) (H : Heap) (locs : List Loc) (ls : Array Slot), Inv cs sm → GW D cy ad (AW cy u gi cs aM sm) A s H locs → lv_has ls 4 [(0, .ref b), (1, .ref (u 0 0)), (2, .ref (aM 0)), (3, .int (nI i))] → W p l e room_1 s m #[Value.ref b] below meth c H locs lwC lwS (lw_Z below #[Value.ref b] s) (F0 m 1165 ls [])) : ∀ (cs : Nat → Ob) (sm : Ob) (u : Nat → Nat → Nat) (gi : Value) (H : Heap) (locs : List Loc) (ls : Array Slot), Inv cs sm → GW D cy ad (AW cy u gi cs aM sm) A s H locs → lv_has ls 4 [(0, .ref b), (1, .ref (u 0 0)), (2, .ref (aM 0)), (3, .int (nI i))] → W p l e room_1 s m #[Value.ref b] below meth c H locs lwC lwS (lw_Z below #[Value.ref b] s) (F0 m 629 ls []) := by
  intro cs sm u gi H locs ls hI hW hl
  refine lv_aload_n hC.1 hC.2.1 dL_law_629 rfl (lv_at hl 1 rfl) ?_
  obtain ⟨r, SQ, sm1, hf11, hf12, hI1⟩ := hS cs sm  hI 
  refine g_calliV (w' := AW cy u gi (va_up cs 5 SQ) aM sm) hC hW (c11_fewest l D cy ad (u 0) (u 3) (u 1) (u 8) (u 9) (u 15) (u 16) (u 10) (u 5) (u 6) (u 7) (u 11) (u 12) (u 13) (u 14) hf11) (cwV 0 hC.2.2.2.2.1 gL_law_X11_fewest rfl rfl rfl hdV11_fewest ⟨Nat.le_of_ble_eq_true rfl, Nat.le_of_ble_eq_true rfl⟩) (Sub.takeL _ _ (Sub.skipL _ (Sub.skipL _ (Sub.skipL _ (Sub.skipL _ (Sub.takeL _ _ (Sub.skipL _ (Sub.skipL _ (Sub.takeL _ _ (Sub.skipL _ (Sub.takeLast _ _ _))))))))))) 0 10 rfl rfl rfl rfl hl.1 rfl (Nat.le_of_ble_eq_true rfl) dL_law_630 lwRm (fun H locs hW => ?_)
  refine lv_aload_n hC.1 hC.2.1 dL_law_633 rfl (lv_at hl 2 rfl) ?_
  refine g_calliV (w' := AW cy u gi (va_up cs 5 SQ) aM sm1) hC hW (c12_fewest l D cy ad aM hf12) (cwV 0 hC.2.2.2.2.1 gL_law_X12_fewest rfl rfl rfl hdV12_fewest ⟨Nat.le_of_ble_eq_true rfl, Nat.le_of_ble_eq_true rfl⟩) (Sub.skipL _ (Sub.skipL _ (Sub.skipL _ (Sub.skipL _ (Sub.skipL _ (Sub.skipL _ (Sub.skipL _ (Sub.skipL _ (Sub.skipL _ (Sub.skipL _ (Sub.skipL _ (Sub.skipL _ (Sub.skipL _ (Sub.skipL _ (Sub.skipL _ (Sub.skipL _ (Sub.skipL _ (Sub.all _ _)))))))))))))))))) 0 11 rfl rfl rfl rfl hl.1 rfl (Nat.le_of_ble_eq_true rfl) dL_law_634 lwRm (fun H locs hW => ?_)
  refine lv_icmp_eq (tgt := 1165) hC.1 hC.2.1 dL_law_637 (by decide) (fun _ => ?_) (fun hc => absurd rfl hc)
  exact next _ _ u gi H locs ls hI1 hW hl
set_option maxRecDepth 100000 in
set_option maxHeartbeats 8000000 in
theorem law_tell (hC : Cx p s m #[Value.ref b] meth c code 4 wsL_law RL ret) (hX : va_X b L xs s s.heap) (hbl : b < s.heap.size) (hbA : ¬ A b) (hL : L ≤ 3584) (hi : i + 7 ≤ L) (hS : St_tell Inv) (next : ∀ (cs : Nat → Ob) (sm : Ob) (u : Nat → Nat → Nat) (gi : Value) (H : Heap) (locs : List Loc) (ls : Array Slot), Inv cs sm → GW D cy ad (AW cy u gi cs aM sm) A s H locs → lv_has ls 4 [(0, .ref b), (1, .ref (u 0 0)), (2, .ref (aM 0)), (3, .int (nI i))] → W p l e room_1 s m #[Value.ref b] below meth c H locs lwC lwS (lw_Z below #[Value.ref b] s) (F0 m 1165 ls [])) : ∀ (cs : Nat → Ob) (sm : Ob) (u : Nat → Nat → Nat) (gi : Value) (H : Heap) (locs : List Loc) (ls : Array Slot), Inv cs sm → GW D cy ad (AW cy u gi cs aM sm) A s H locs → lv_has ls 4 [(0, .ref b), (1, .ref (u 0 0)), (2, .ref (aM 0)), (3, .int (nI i))] → W p l e room_1 s m #[Value.ref b] below meth c H locs lwC lwS (lw_Z below #[Value.ref b] s) (F0 m 642 ls []) := by
  intro cs sm u gi H locs ls hI hW hl
  refine lv_aload_n hC.1 hC.2.1 dL_law_642 rfl (lv_at hl 1 rfl) ?_
  obtain ⟨r, sm1, hf11, hf12, hI1⟩ := hS cs sm  hI 
  refine g_calliV (w' := AW cy u gi cs aM sm) hC hW (c11_tell l D cy ad (u 0) (u 3) (u 1) (u 8) (u 9) (u 15) (u 16) (u 10) (u 5) (u 6) (u 7) (u 11) (u 12) (u 13) (u 14) hf11) (cwV 0 hC.2.2.2.2.1 gL_law_X11_tell rfl rfl rfl hdV11_tell ⟨Nat.le_of_ble_eq_true rfl, Nat.le_of_ble_eq_true rfl⟩) (Sub.takeL _ _ (Sub.skipL _ (Sub.skipL _ (Sub.skipL _ (Sub.skipL _ (Sub.skipL _ (Sub.skipL _ (Sub.skipL _ (Sub.takeL _ _ (Sub.skipL _ (Sub.takeLast _ _ _))))))))))) 0 10 rfl rfl rfl rfl hl.1 rfl (Nat.le_of_ble_eq_true rfl) dL_law_643 lwRm (fun H locs hW => ?_)
  refine lv_aload_n hC.1 hC.2.1 dL_law_646 rfl (lv_at hl 2 rfl) ?_
  refine g_calliV (w' := AW cy u gi cs aM sm1) hC hW (c12_tell l D cy ad aM hf12) (cwV 0 hC.2.2.2.2.1 gL_law_X12_tell rfl rfl rfl hdV12_tell ⟨Nat.le_of_ble_eq_true rfl, Nat.le_of_ble_eq_true rfl⟩) (Sub.skipL _ (Sub.skipL _ (Sub.skipL _ (Sub.skipL _ (Sub.skipL _ (Sub.skipL _ (Sub.skipL _ (Sub.skipL _ (Sub.skipL _ (Sub.skipL _ (Sub.skipL _ (Sub.skipL _ (Sub.skipL _ (Sub.skipL _ (Sub.skipL _ (Sub.skipL _ (Sub.skipL _ (Sub.all _ _)))))))))))))))))) 0 11 rfl rfl rfl rfl hl.1 rfl (Nat.le_of_ble_eq_true rfl) dL_law_647 lwRm (fun H locs hW => ?_)
  refine lv_icmp_eq (tgt := 1165) hC.1 hC.2.1 dL_law_650 (by decide) (fun _ => ?_) (fun hc => absurd rfl hc)
  exact next _ _ u gi H locs ls hI1 hW hl
end
