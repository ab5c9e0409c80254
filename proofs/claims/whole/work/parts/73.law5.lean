/-! laid by program: cases of the law -/
theorem dL_law_915 : decode cL_law 915 = .ok (.aload_n 1, 1) := by decide +kernel
theorem dL_law_916 : decode cL_law 916 = .ok (.aload_n 0, 1) := by decide +kernel
theorem dL_law_917 : decode cL_law 917 = .ok (.iload_n 3, 1) := by decide +kernel
theorem dL_law_918 : decode cL_law 918 = .ok (.iconst 1, 1) := by decide +kernel
theorem dL_law_919 : decode cL_law 919 = .ok (.iadd, 1) := by decide +kernel
theorem dL_law_920 : decode cL_law 920 = .ok (.iaload, 1) := by decide +kernel
theorem dL_law_921 : decode cL_law 921 = .ok (.invokevirtual 124, 3) := by decide +kernel
theorem dL_law_924 : decode cL_law 924 = .ok (.aload_n 2, 1) := by decide +kernel
theorem dL_law_925 : decode cL_law 925 = .ok (.aload_n 0, 1) := by decide +kernel
theorem dL_law_926 : decode cL_law 926 = .ok (.iload_n 3, 1) := by decide +kernel
theorem dL_law_927 : decode cL_law 927 = .ok (.iconst 1, 1) := by decide +kernel
theorem dL_law_928 : decode cL_law 928 = .ok (.iadd, 1) := by decide +kernel
theorem dL_law_929 : decode cL_law 929 = .ok (.iaload, 1) := by decide +kernel
theorem dL_law_930 : decode cL_law 930 = .ok (.invokevirtual 127, 3) := by decide +kernel
theorem dL_law_933 : decode cL_law 933 = .ok (.if_icmp .eq 232, 3) := by decide +kernel
theorem dL_law_936 : decode cL_law 936 = .ok (.iconst 0, 1) := by decide +kernel
theorem dL_law_937 : decode cL_law 937 = .ok (.ireturn, 1) := by decide +kernel
theorem dL_law_938 : decode cL_law 938 = .ok (.aload_n 1, 1) := by decide +kernel
theorem dL_law_939 : decode cL_law 939 = .ok (.aload_n 0, 1) := by decide +kernel
theorem dL_law_940 : decode cL_law 940 = .ok (.iload_n 3, 1) := by decide +kernel
theorem dL_law_941 : decode cL_law 941 = .ok (.iconst 1, 1) := by decide +kernel
theorem dL_law_942 : decode cL_law 942 = .ok (.iadd, 1) := by decide +kernel
theorem dL_law_943 : decode cL_law 943 = .ok (.iaload, 1) := by decide +kernel
theorem dL_law_944 : decode cL_law 944 = .ok (.invokevirtual 128, 3) := by decide +kernel
theorem dL_law_947 : decode cL_law 947 = .ok (.aload_n 2, 1) := by decide +kernel
theorem dL_law_948 : decode cL_law 948 = .ok (.aload_n 0, 1) := by decide +kernel
theorem dL_law_949 : decode cL_law 949 = .ok (.iload_n 3, 1) := by decide +kernel
theorem dL_law_950 : decode cL_law 950 = .ok (.iconst 1, 1) := by decide +kernel
theorem dL_law_951 : decode cL_law 951 = .ok (.iadd, 1) := by decide +kernel
theorem dL_law_952 : decode cL_law 952 = .ok (.iaload, 1) := by decide +kernel
theorem dL_law_953 : decode cL_law 953 = .ok (.invokevirtual 131, 3) := by decide +kernel
theorem dL_law_956 : decode cL_law 956 = .ok (.if_icmp .eq 209, 3) := by decide +kernel
theorem dL_law_959 : decode cL_law 959 = .ok (.iconst 0, 1) := by decide +kernel
theorem dL_law_960 : decode cL_law 960 = .ok (.ireturn, 1) := by decide +kernel
theorem dL_law_961 : decode cL_law 961 = .ok (.aload_n 1, 1) := by decide +kernel
theorem dL_law_962 : decode cL_law 962 = .ok (.aload_n 0, 1) := by decide +kernel
theorem dL_law_963 : decode cL_law 963 = .ok (.iload_n 3, 1) := by decide +kernel
theorem dL_law_964 : decode cL_law 964 = .ok (.iconst 1, 1) := by decide +kernel
theorem dL_law_965 : decode cL_law 965 = .ok (.iadd, 1) := by decide +kernel
theorem dL_law_966 : decode cL_law 966 = .ok (.iaload, 1) := by decide +kernel
theorem dL_law_967 : decode cL_law 967 = .ok (.aload_n 0, 1) := by decide +kernel
theorem dL_law_968 : decode cL_law 968 = .ok (.iload_n 3, 1) := by decide +kernel
theorem dL_law_969 : decode cL_law 969 = .ok (.iconst 2, 1) := by decide +kernel
theorem dL_law_970 : decode cL_law 970 = .ok (.iadd, 1) := by decide +kernel
theorem dL_law_971 : decode cL_law 971 = .ok (.iaload, 1) := by decide +kernel
theorem dL_law_972 : decode cL_law 972 = .ok (.invokevirtual 132, 3) := by decide +kernel
theorem dL_law_975 : decode cL_law 975 = .ok (.aload_n 2, 1) := by decide +kernel
theorem dL_law_976 : decode cL_law 976 = .ok (.aload_n 0, 1) := by decide +kernel
theorem dL_law_977 : decode cL_law 977 = .ok (.iload_n 3, 1) := by decide +kernel
theorem dL_law_978 : decode cL_law 978 = .ok (.iconst 1, 1) := by decide +kernel
theorem dL_law_979 : decode cL_law 979 = .ok (.iadd, 1) := by decide +kernel
theorem dL_law_980 : decode cL_law 980 = .ok (.iaload, 1) := by decide +kernel
theorem dL_law_981 : decode cL_law 981 = .ok (.aload_n 0, 1) := by decide +kernel
theorem dL_law_982 : decode cL_law 982 = .ok (.iload_n 3, 1) := by decide +kernel
theorem dL_law_983 : decode cL_law 983 = .ok (.iconst 2, 1) := by decide +kernel
theorem dL_law_984 : decode cL_law 984 = .ok (.iadd, 1) := by decide +kernel
theorem dL_law_985 : decode cL_law 985 = .ok (.iaload, 1) := by decide +kernel
theorem dL_law_986 : decode cL_law 986 = .ok (.invokevirtual 135, 3) := by decide +kernel
theorem dL_law_989 : decode cL_law 989 = .ok (.if_icmp .eq 176, 3) := by decide +kernel
theorem dL_law_992 : decode cL_law 992 = .ok (.iconst 0, 1) := by decide +kernel
theorem dL_law_993 : decode cL_law 993 = .ok (.ireturn, 1) := by decide +kernel
theorem dL_law_994 : decode cL_law 994 = .ok (.aload_n 1, 1) := by decide +kernel
theorem dL_law_995 : decode cL_law 995 = .ok (.aload_n 0, 1) := by decide +kernel
theorem dL_law_996 : decode cL_law 996 = .ok (.iload_n 3, 1) := by decide +kernel
theorem dL_law_997 : decode cL_law 997 = .ok (.iconst 1, 1) := by decide +kernel
theorem dL_law_998 : decode cL_law 998 = .ok (.iadd, 1) := by decide +kernel
theorem dL_law_999 : decode cL_law 999 = .ok (.iaload, 1) := by decide +kernel
theorem dL_law_1000 : decode cL_law 1000 = .ok (.invokevirtual 136, 3) := by decide +kernel
theorem dL_law_1003 : decode cL_law 1003 = .ok (.aload_n 2, 1) := by decide +kernel
theorem dL_law_1004 : decode cL_law 1004 = .ok (.aload_n 0, 1) := by decide +kernel
theorem dL_law_1005 : decode cL_law 1005 = .ok (.iload_n 3, 1) := by decide +kernel
theorem dL_law_1006 : decode cL_law 1006 = .ok (.iconst 1, 1) := by decide +kernel
theorem dL_law_1007 : decode cL_law 1007 = .ok (.iadd, 1) := by decide +kernel
theorem dL_law_1008 : decode cL_law 1008 = .ok (.iaload, 1) := by decide +kernel
theorem dL_law_1009 : decode cL_law 1009 = .ok (.invokevirtual 139, 3) := by decide +kernel
theorem dL_law_1012 : decode cL_law 1012 = .ok (.if_icmp .eq 153, 3) := by decide +kernel
theorem dL_law_1015 : decode cL_law 1015 = .ok (.iconst 0, 1) := by decide +kernel
theorem dL_law_1016 : decode cL_law 1016 = .ok (.ireturn, 1) := by decide +kernel
theorem dL_law_1017 : decode cL_law 1017 = .ok (.aload_n 1, 1) := by decide +kernel
theorem dL_law_1018 : decode cL_law 1018 = .ok (.aload_n 0, 1) := by decide +kernel
theorem dL_law_1019 : decode cL_law 1019 = .ok (.iload_n 3, 1) := by decide +kernel
theorem dL_law_1020 : decode cL_law 1020 = .ok (.iconst 1, 1) := by decide +kernel
theorem dL_law_1021 : decode cL_law 1021 = .ok (.iadd, 1) := by decide +kernel
theorem dL_law_1022 : decode cL_law 1022 = .ok (.iaload, 1) := by decide +kernel
theorem dL_law_1023 : decode cL_law 1023 = .ok (.aload_n 0, 1) := by decide +kernel
theorem dL_law_1024 : decode cL_law 1024 = .ok (.iload_n 3, 1) := by decide +kernel
theorem dL_law_1025 : decode cL_law 1025 = .ok (.iconst 2, 1) := by decide +kernel
theorem dL_law_1026 : decode cL_law 1026 = .ok (.iadd, 1) := by decide +kernel
theorem dL_law_1027 : decode cL_law 1027 = .ok (.iaload, 1) := by decide +kernel
theorem dL_law_1028 : decode cL_law 1028 = .ok (.invokevirtual 140, 3) := by decide +kernel
theorem dL_law_1031 : decode cL_law 1031 = .ok (.aload_n 2, 1) := by decide +kernel
theorem dL_law_1032 : decode cL_law 1032 = .ok (.aload_n 0, 1) := by decide +kernel
theorem dL_law_1033 : decode cL_law 1033 = .ok (.iload_n 3, 1) := by decide +kernel
theorem dL_law_1034 : decode cL_law 1034 = .ok (.iconst 1, 1) := by decide +kernel
theorem dL_law_1035 : decode cL_law 1035 = .ok (.iadd, 1) := by decide +kernel
theorem dL_law_1036 : decode cL_law 1036 = .ok (.iaload, 1) := by decide +kernel
theorem dL_law_1037 : decode cL_law 1037 = .ok (.aload_n 0, 1) := by decide +kernel
theorem dL_law_1038 : decode cL_law 1038 = .ok (.iload_n 3, 1) := by decide +kernel
theorem dL_law_1039 : decode cL_law 1039 = .ok (.iconst 2, 1) := by decide +kernel
theorem dL_law_1040 : decode cL_law 1040 = .ok (.iadd, 1) := by decide +kernel
theorem dL_law_1041 : decode cL_law 1041 = .ok (.iaload, 1) := by decide +kernel
theorem dL_law_1042 : decode cL_law 1042 = .ok (.invokevirtual 143, 3) := by decide +kernel
theorem dL_law_1045 : decode cL_law 1045 = .ok (.if_icmp .eq 120, 3) := by decide +kernel
theorem dL_law_1048 : decode cL_law 1048 = .ok (.iconst 0, 1) := by decide +kernel
theorem dL_law_1049 : decode cL_law 1049 = .ok (.ireturn, 1) := by decide +kernel
theorem dL_law_1050 : decode cL_law 1050 = .ok (.aload_n 1, 1) := by decide +kernel
theorem dL_law_1051 : decode cL_law 1051 = .ok (.aload_n 0, 1) := by decide +kernel
theorem dL_law_1052 : decode cL_law 1052 = .ok (.iload_n 3, 1) := by decide +kernel
theorem dL_law_1053 : decode cL_law 1053 = .ok (.iconst 1, 1) := by decide +kernel
theorem dL_law_1054 : decode cL_law 1054 = .ok (.iadd, 1) := by decide +kernel
theorem dL_law_1055 : decode cL_law 1055 = .ok (.iaload, 1) := by decide +kernel
theorem dL_law_1056 : decode cL_law 1056 = .ok (.aload_n 0, 1) := by decide +kernel
theorem dL_law_1057 : decode cL_law 1057 = .ok (.iload_n 3, 1) := by decide +kernel
theorem dL_law_1058 : decode cL_law 1058 = .ok (.iconst 2, 1) := by decide +kernel
theorem dL_law_1059 : decode cL_law 1059 = .ok (.iadd, 1) := by decide +kernel
theorem dL_law_1060 : decode cL_law 1060 = .ok (.iaload, 1) := by decide +kernel
theorem dL_law_1061 : decode cL_law 1061 = .ok (.aload_n 0, 1) := by decide +kernel
theorem dL_law_1062 : decode cL_law 1062 = .ok (.iload_n 3, 1) := by decide +kernel
theorem dL_law_1063 : decode cL_law 1063 = .ok (.iconst 3, 1) := by decide +kernel
theorem dL_law_1064 : decode cL_law 1064 = .ok (.iadd, 1) := by decide +kernel
theorem dL_law_1065 : decode cL_law 1065 = .ok (.iaload, 1) := by decide +kernel
theorem dL_law_1066 : decode cL_law 1066 = .ok (.invokevirtual 144, 3) := by decide +kernel
theorem dL_law_1069 : decode cL_law 1069 = .ok (.aload_n 2, 1) := by decide +kernel
theorem dL_law_1070 : decode cL_law 1070 = .ok (.aload_n 0, 1) := by decide +kernel
theorem dL_law_1071 : decode cL_law 1071 = .ok (.iload_n 3, 1) := by decide +kernel
theorem dL_law_1072 : decode cL_law 1072 = .ok (.iconst 1, 1) := by decide +kernel
theorem dL_law_1073 : decode cL_law 1073 = .ok (.iadd, 1) := by decide +kernel
theorem dL_law_1074 : decode cL_law 1074 = .ok (.iaload, 1) := by decide +kernel
theorem dL_law_1075 : decode cL_law 1075 = .ok (.aload_n 0, 1) := by decide +kernel
theorem dL_law_1076 : decode cL_law 1076 = .ok (.iload_n 3, 1) := by decide +kernel
theorem dL_law_1077 : decode cL_law 1077 = .ok (.iconst 2, 1) := by decide +kernel
theorem dL_law_1078 : decode cL_law 1078 = .ok (.iadd, 1) := by decide +kernel
theorem dL_law_1079 : decode cL_law 1079 = .ok (.iaload, 1) := by decide +kernel
theorem dL_law_1080 : decode cL_law 1080 = .ok (.aload_n 0, 1) := by decide +kernel
theorem dL_law_1081 : decode cL_law 1081 = .ok (.iload_n 3, 1) := by decide +kernel
theorem dL_law_1082 : decode cL_law 1082 = .ok (.iconst 3, 1) := by decide +kernel
theorem dL_law_1083 : decode cL_law 1083 = .ok (.iadd, 1) := by decide +kernel
theorem dL_law_1084 : decode cL_law 1084 = .ok (.iaload, 1) := by decide +kernel
theorem dL_law_1085 : decode cL_law 1085 = .ok (.invokevirtual 147, 3) := by decide +kernel
theorem dL_law_1088 : decode cL_law 1088 = .ok (.if_icmp .eq 77, 3) := by decide +kernel
theorem dL_law_1091 : decode cL_law 1091 = .ok (.iconst 0, 1) := by decide +kernel
theorem dL_law_1092 : decode cL_law 1092 = .ok (.ireturn, 1) := by decide +kernel
theorem dL_law_1093 : decode cL_law 1093 = .ok (.aload_n 1, 1) := by decide +kernel
theorem dL_law_1094 : decode cL_law 1094 = .ok (.aload_n 0, 1) := by decide +kernel
theorem dL_law_1095 : decode cL_law 1095 = .ok (.iload_n 3, 1) := by decide +kernel
theorem dL_law_1096 : decode cL_law 1096 = .ok (.iconst 1, 1) := by decide +kernel
theorem dL_law_1097 : decode cL_law 1097 = .ok (.iadd, 1) := by decide +kernel
theorem dL_law_1098 : decode cL_law 1098 = .ok (.iaload, 1) := by decide +kernel
theorem dL_law_1099 : decode cL_law 1099 = .ok (.aload_n 0, 1) := by decide +kernel
theorem dL_law_1100 : decode cL_law 1100 = .ok (.iload_n 3, 1) := by decide +kernel
theorem dL_law_1101 : decode cL_law 1101 = .ok (.iconst 2, 1) := by decide +kernel
theorem dL_law_1102 : decode cL_law 1102 = .ok (.iadd, 1) := by decide +kernel
theorem dL_law_1103 : decode cL_law 1103 = .ok (.iaload, 1) := by decide +kernel
theorem dL_law_1104 : decode cL_law 1104 = .ok (.ifCond .eq 7, 3) := by decide +kernel
theorem dL_law_1107 : decode cL_law 1107 = .ok (.iconst 1, 1) := by decide +kernel
theorem dL_law_1108 : decode cL_law 1108 = .ok (.goto 4, 3) := by decide +kernel
theorem dL_law_1111 : decode cL_law 1111 = .ok (.iconst 0, 1) := by decide +kernel
theorem dL_law_1112 : decode cL_law 1112 = .ok (.invokevirtual 148, 3) := by decide +kernel
theorem dL_law_1115 : decode cL_law 1115 = .ok (.aload_n 2, 1) := by decide +kernel
theorem dL_law_1116 : decode cL_law 1116 = .ok (.aload_n 0, 1) := by decide +kernel
theorem dL_law_1117 : decode cL_law 1117 = .ok (.iload_n 3, 1) := by decide +kernel
theorem dL_law_1118 : decode cL_law 1118 = .ok (.iconst 1, 1) := by decide +kernel
theorem dL_law_1119 : decode cL_law 1119 = .ok (.iadd, 1) := by decide +kernel
theorem dL_law_1120 : decode cL_law 1120 = .ok (.iaload, 1) := by decide +kernel
theorem dL_law_1121 : decode cL_law 1121 = .ok (.aload_n 0, 1) := by decide +kernel
theorem dL_law_1122 : decode cL_law 1122 = .ok (.iload_n 3, 1) := by decide +kernel
theorem dL_law_1123 : decode cL_law 1123 = .ok (.iconst 2, 1) := by decide +kernel
theorem dL_law_1124 : decode cL_law 1124 = .ok (.iadd, 1) := by decide +kernel
theorem dL_law_1125 : decode cL_law 1125 = .ok (.iaload, 1) := by decide +kernel
theorem dL_law_1126 : decode cL_law 1126 = .ok (.ifCond .eq 7, 3) := by decide +kernel
theorem dL_law_1129 : decode cL_law 1129 = .ok (.iconst 1, 1) := by decide +kernel
theorem dL_law_1130 : decode cL_law 1130 = .ok (.goto 4, 3) := by decide +kernel
theorem dL_law_1133 : decode cL_law 1133 = .ok (.iconst 0, 1) := by decide +kernel
theorem dL_law_1134 : decode cL_law 1134 = .ok (.invokevirtual 151, 3) := by decide +kernel
theorem dL_law_1137 : decode cL_law 1137 = .ok (.if_icmp .eq 28, 3) := by decide +kernel
theorem dL_law_1140 : decode cL_law 1140 = .ok (.iconst 0, 1) := by decide +kernel
theorem dL_law_1141 : decode cL_law 1141 = .ok (.ireturn, 1) := by decide +kernel
theorem dL_law_1142 : decode cL_law 1142 = .ok (.aload_n 1, 1) := by decide +kernel
theorem dL_law_1143 : decode cL_law 1143 = .ok (.aload_n 0, 1) := by decide +kernel
theorem dL_law_1144 : decode cL_law 1144 = .ok (.iload_n 3, 1) := by decide +kernel
theorem dL_law_1145 : decode cL_law 1145 = .ok (.iconst 1, 1) := by decide +kernel
theorem dL_law_1146 : decode cL_law 1146 = .ok (.iadd, 1) := by decide +kernel
theorem dL_law_1147 : decode cL_law 1147 = .ok (.iaload, 1) := by decide +kernel
theorem dL_law_1148 : decode cL_law 1148 = .ok (.invokevirtual 152, 3) := by decide +kernel
theorem dL_law_1151 : decode cL_law 1151 = .ok (.aload_n 2, 1) := by decide +kernel
theorem dL_law_1152 : decode cL_law 1152 = .ok (.aload_n 0, 1) := by decide +kernel
theorem dL_law_1153 : decode cL_law 1153 = .ok (.iload_n 3, 1) := by decide +kernel
theorem dL_law_1154 : decode cL_law 1154 = .ok (.iconst 1, 1) := by decide +kernel
theorem dL_law_1155 : decode cL_law 1155 = .ok (.iadd, 1) := by decide +kernel
theorem dL_law_1156 : decode cL_law 1156 = .ok (.iaload, 1) := by decide +kernel
theorem dL_law_1157 : decode cL_law 1157 = .ok (.invokevirtual 155, 3) := by decide +kernel
theorem dL_law_1160 : decode cL_law 1160 = .ok (.if_icmp .eq 5, 3) := by decide +kernel
theorem dL_law_1163 : decode cL_law 1163 = .ok (.iconst 0, 1) := by decide +kernel
theorem dL_law_1164 : decode cL_law 1164 = .ok (.ireturn, 1) := by decide +kernel
set_option maxRecDepth 20000 in
theorem gL_law_X11_hunt : GoodIn wsL_law (wsV RL 124 RX11 yX11_hunt wsX11_hunt) := goodIn_r _ [1238, 1239, 1240, 2, 1241, 43, 22, 32, 849, 931, 932, 933, 21, 934, 325, 595, 567, 568, 569, 1242, 1243, 1244, 42, 1245, 169, 170, 1246, 1247, 1248, 1249, 1182, 1250, 1191, 1251, 1252, 1253, 1254, 1424, 1425, 1426, 1427, 1428, 1429, 1430, 1431, 1432, 1433, 1434, 1435, 1498, 1499, 1500, 1501, 1502, 1503, 1504, 1505, 1506, 1482, 1483, 1484, 1485, 1486, 1487, 1488, 1489, 1490, 1491, 1492, 1493, 1494, 1509, 1510] rfl (by decide +kernel)
set_option maxRecDepth 20000 in
theorem gL_law_X12_hunt : GoodIn wsL_law (wsV RL 127 RX12 yX12_hunt wsX12_hunt) := goodIn_r _ [1255, 1256, 1257, 5, 1258, 302, 233, 234, 1259, 1260, 1261, 1262, 5, 1263, 228, 947, 948, 949, 950, 260, 261, 262, 263, 218, 272, 273, 274, 264, 265, 266, 267, 1091, 1092, 1093, 727, 728, 729, 1436, 1437, 1438, 1439, 1440, 1441, 1442, 1443, 1444, 1445, 1446, 1447, 1448, 1449, 1450, 1451, 1452, 1453, 1454, 1455, 1456, 1457, 1458, 1459, 1460, 1461, 1462, 1463, 1464, 1465, 1466, 1467, 1468, 1469, 1470, 1471, 1472, 1473, 1474] rfl (by decide +kernel)
set_option maxRecDepth 20000 in
theorem gL_law_X11_same : GoodIn wsL_law (wsV RL 128 RX11 yX11_same wsX11_same) := goodIn_r _ [1264, 1265, 1266, 2, 1267, 32, 22, 849, 931, 932, 933, 21, 934, 325, 595, 567, 568, 569, 1268, 1269, 1270, 31, 1271, 617, 156, 1272, 1273, 1274, 1275, 1424, 1425, 1426, 1427, 1428, 1429, 1430, 1431, 1432, 1433, 1434, 1435, 1498, 1499, 1500, 1501, 1502, 1503, 1504, 1505, 1506, 1482, 1483, 1484, 1485, 1486, 1487, 1488, 1489, 1490, 1491, 1492, 1493, 1494] rfl (by decide +kernel)
set_option maxRecDepth 20000 in
theorem gL_law_X12_same : GoodIn wsL_law (wsV RL 131 RX12 yX12_same wsX12_same) := goodIn_r _ [1276, 1277, 1278, 5, 1279, 302, 228, 727, 728, 5, 729, 260, 261, 262, 263, 218, 947, 948, 949, 950, 272, 273, 274, 1436, 1437, 1438, 1439, 1440, 1441, 1442, 1443, 1444, 1445, 1446, 1447, 1448, 1449, 1450, 1451, 1452, 1453, 1454, 1455, 1456, 1457, 1458, 1459, 1460, 1461, 1462, 1463, 1464, 1465, 1466, 1467, 1468, 1469, 1470, 1471, 1472, 1473, 1474] rfl (by decide +kernel)
set_option maxRecDepth 20000 in
theorem gL_law_X11_bill : GoodIn wsL_law (wsV RL 132 RX11 yX11_bill wsX11_bill) := goodIn_r _ [1280, 1281, 1282, 2, 1283, 22, 823, 796, 797, 21, 798, 325, 1284, 1285, 46, 1286, 1287, 1288, 1424, 1425, 1426, 1427, 1428, 1429, 1430, 1431, 1432, 1433, 1434, 1435, 1482, 1483, 1484, 1485, 1486, 1487, 1488, 1489, 1490, 1491, 1492, 1493, 1494] rfl (by decide +kernel)
set_option maxRecDepth 20000 in
theorem gL_law_X12_bill : GoodIn wsL_law (wsV RL 135 RX12 yX12_bill wsX12_bill) := goodIn_r _ [1289, 1290, 1291, 5, 1292, 302, 226, 218, 235, 236, 828, 829, 830, 5, 831, 260, 261, 262, 263, 727, 728, 729, 264, 265, 266, 267, 1293, 1294, 1295, 1296, 219, 227, 220, 1297, 1298, 1299, 1436, 1437, 1438, 1439, 1440, 1441, 1442, 1443, 1444, 1445, 1446, 1447, 1448, 1449, 1450, 1451, 1452, 1453, 1454, 1455, 1456, 1457, 1458, 1459, 1460, 1461, 1462, 1463, 1464, 1465, 1466, 1467, 1468, 1469, 1470, 1471, 1472, 1473, 1474] rfl (by decide +kernel)
set_option maxRecDepth 20000 in
theorem gL_law_X11_beds : GoodIn wsL_law (wsV RL 136 RX11 yX11_beds wsX11_beds) := goodIn_r _ [1300, 1301, 1302, 2, 1303, 22, 47, 1304, 823, 796, 797, 21, 798, 325, 1305, 1306, 1307, 46, 1308, 1309, 1310, 1311, 1287, 175, 1312, 174, 1313, 873, 874, 875, 876, 877, 878, 1424, 1425, 1426, 1427, 1428, 1429, 1430, 1431, 1432, 1433, 1434, 1435, 1511, 1512, 1513, 1482, 1483, 1484, 1485, 1486, 1487, 1488, 1489, 1490, 1491, 1492, 1493, 1494] rfl (by decide +kernel)
set_option maxRecDepth 20000 in
theorem gL_law_X12_beds : GoodIn wsL_law (wsV RL 139 RX12 yX12_beds wsX12_beds) := goodIn_r _ [1314, 1315, 1316, 5, 1317, 302, 1318, 238, 828, 829, 830, 5, 831, 260, 261, 262, 263, 218, 1319, 1320, 1321, 1322, 237, 1323, 1324, 1325, 1326, 264, 265, 266, 267, 1091, 1092, 1093, 1436, 1437, 1438, 1439, 1440, 1441, 1442, 1443, 1444, 1445, 1446, 1447, 1448, 1449, 1450, 1451, 1452, 1453, 1454, 1455, 1456, 1457, 1458, 1459, 1460, 1461, 1462, 1463, 1464, 1465, 1466, 1467, 1468, 1469, 1470, 1471, 1472, 1473, 1474] rfl (by decide +kernel)
set_option maxRecDepth 20000 in
theorem gL_law_X11_watch : GoodIn wsL_law (wsV RL 140 RX11 yX11_watch wsX11_watch) := goodIn_r _ [1327, 1328, 1329, 2, 1330, 47, 22, 1331, 1332, 1333, 46, 1334, 1287, 176, 1335, 1336, 1337, 1338, 1339, 1340, 369, 1341, 1313, 873, 874, 875, 876, 877, 878, 1342, 1343, 1344, 1345, 1424, 1425, 1426, 1427, 1428, 1429, 1430, 1431, 1432, 1433, 1434, 1435, 1482, 1483, 1484, 1485, 1486, 1487, 1488, 1489, 1490, 1491, 1492, 1493, 1494, 1511, 1512, 1513] rfl (by decide +kernel)
set_option maxRecDepth 20000 in
theorem gL_law_X12_watch : GoodIn wsL_law (wsV RL 143 RX12 yX12_watch wsX12_watch) := goodIn_r _ [1346, 1347, 1348, 5, 1349, 302, 260, 261, 262, 5, 263, 218, 727, 728, 729, 903, 904, 905, 1350, 1351, 1352, 1353, 264, 265, 266, 267, 1091, 1092, 1093, 1436, 1437, 1438, 1439, 1440, 1441, 1442, 1443, 1444, 1445, 1446, 1447, 1448, 1449, 1450, 1451, 1452, 1453, 1454, 1455, 1456, 1457, 1458, 1459, 1460, 1461, 1462, 1463, 1464, 1465, 1466, 1467, 1468, 1469, 1470, 1471, 1472, 1473, 1474] rfl (by decide +kernel)
set_option maxRecDepth 20000 in
theorem gL_law_X11_years : GoodIn wsL_law (wsV RL 144 RX11 yX11_years wsX11_years) := goodIn_r _ [1354, 1355, 1356, 2, 1357, 22, 929, 1358, 1359, 1071, 1360, 1078, 1361, 1362, 1363, 1364, 1365, 1366, 1367, 1368, 1369, 1370, 1371, 1372, 1373, 1374, 1375, 1376, 1377, 1082, 1073, 1105, 1074, 873, 874, 875, 876, 877, 878, 1378, 579, 580, 21, 581, 325, 1075, 1076, 1077, 1079, 1080, 1081, 1424, 1425, 1426, 1427, 1428, 1429, 1430, 1431, 1432, 1433, 1434, 1435, 1482, 1483, 1484, 1485, 1486, 1487, 1488, 1489, 1490, 1491, 1492, 1493, 1494] rfl (by decide +kernel)
set_option maxRecDepth 20000 in
theorem gL_law_X12_years : GoodIn wsL_law (wsV RL 147 RX12 yX12_years wsX12_years) := goodIn_r _ [1379, 1380, 1381, 5, 1382, 302, 1383, 231, 727, 728, 5, 729, 260, 261, 262, 263, 218, 1384, 1385, 1386, 1387, 264, 265, 266, 267, 1388, 1389, 1390, 1391, 1392, 1393, 1394, 1395, 1396, 1397, 1398, 1399, 279, 280, 281, 282, 947, 948, 949, 950, 272, 273, 274, 998, 999, 1000, 903, 904, 905, 1436, 1437, 1438, 1439, 1440, 1441, 1442, 1443, 1444, 1445, 1446, 1447, 1448, 1449, 1450, 1451, 1452, 1453, 1454, 1455, 1456, 1457, 1458, 1459, 1460, 1461, 1462, 1463, 1464, 1465, 1466, 1467, 1468, 1469, 1470, 1471, 1472, 1473, 1474] rfl (by decide +kernel)
set_option maxRecDepth 20000 in
theorem gL_law_X11_mark : GoodIn wsL_law (wsV RL 148 RX11 yX11_mark wsX11_mark) := goodIn_r _ [1400, 1401, 1402, 2, 1403, 33, 32, 35, 1404, 1405, 1406, 31, 1407, 616, 617, 156, 618, 157, 158, 1408, 613, 614, 615, 619, 1424, 1425, 1426, 1427, 1428, 1429, 1430, 1431, 1432, 1433, 1434, 1435, 1498, 1499, 1500, 1501, 1502, 1503, 1504, 1505, 1506] rfl (by decide +kernel)
set_option maxRecDepth 20000 in
theorem gL_law_X12_mark : GoodIn wsL_law (wsV RL 151 RX12 yX12_mark wsX12_mark) := goodIn_r _ [1409, 1410, 1411, 5, 1412, 302, 229, 247, 727, 728, 5, 729, 899, 900, 901, 902, 228, 1436, 1437, 1438, 1439, 1440, 1441, 1442, 1443, 1444, 1445, 1446, 1447, 1448, 1449, 1450, 1451, 1452, 1453, 1454, 1455, 1456, 1457, 1458, 1459, 1460, 1461, 1462, 1463, 1464, 1465, 1466, 1467, 1468, 1469, 1470, 1471, 1472, 1473, 1474] rfl (by decide +kernel)
set_option maxRecDepth 20000 in
theorem gL_law_X11_count : GoodIn wsL_law (wsV RL 152 RX11 yX11_count wsX11_count) := goodIn_r _ [1413, 1414, 1415, 2, 1416, 22, 929, 1417, 32, 849, 930, 27, 312, 1418, 1419, 18, 291, 872, 873, 874, 875, 876, 877, 878, 1424, 1425, 1426, 1427, 1428, 1429, 1430, 1431, 1432, 1433, 1434, 1435, 1482, 1483, 1484, 1485, 1486, 1487, 1488, 1489, 1490, 1491, 1492, 1493, 1494, 1498, 1499, 1500, 1501, 1502, 1503, 1504, 1505, 1506, 1495, 1496, 1497, 1518, 1519, 1520, 1521, 1522, 1523, 1524, 1525] rfl (by decide +kernel)
set_option maxRecDepth 20000 in
theorem gL_law_X12_count : GoodIn wsL_law (wsV RL 155 RX12 yX12_count wsX12_count) := goodIn_r _ [1420, 1421, 1422, 5, 1423, 302, 228, 225, 247, 303, 260, 261, 262, 5, 263, 218, 248, 249, 250, 251, 903, 904, 905, 1436, 1437, 1438, 1439, 1440, 1441, 1442, 1443, 1444, 1445, 1446, 1447, 1448, 1449, 1450, 1451, 1452, 1453, 1454, 1455, 1456, 1457, 1458, 1459, 1460, 1461, 1462, 1463, 1464, 1465, 1466, 1467, 1468, 1469, 1470, 1471, 1472, 1473, 1474] rfl (by decide +kernel)
section
variable {p : Program} {l : Launch} {e : Env} {s : State} {m : MethodId} {below : List Frame} {meth : Method} {c : Code} {D : va_G} {cy : Nat → ClassId} {ad aM : Nat → Nat} {A : Nat → Prop} {b L i : Nat} {xs : Nat → Int32} {Inv : (Nat → Ob) → Ob → Prop}
set_option maxRecDepth 100000 in
set_option maxHeartbeats 8000000 in
theorem law_hunt (hC : Cx p s m #[Value.ref b] meth c code 4 wsL_law RL ret) (hX : va_X b L xs s s.heap) (hbl : b < s.heap.size) (hbA : ¬ A b) (hL : L ≤ 3584) (hi : i + 7 ≤ L) (hS : St_hunt Inv) (next : ∀ (cs : Nat → Ob) (sm : Ob) (u : Nat → Nat → Nat) (gi : Value) (H : Heap) (locs : List Loc) (ls : Array Slot), Inv cs sm → GW D cy ad (AW cy u gi cs aM sm) A s H locs → lv_has ls 4 [(0, .ref b), (1, .ref (u 0 0)), (2, .ref (aM 0)), (3, .int (nI i))] → W p l e room_1 s m #[Value.ref b] below meth c H locs lwC lwS (lw_Z below #[Value.ref b] s) (F0 m 1165 ls [])) : ∀ (cs : Nat → Ob) (sm : Ob) (u : Nat → Nat → Nat) (gi : Value) (H : Heap) (locs : List Loc) (ls : Array Slot), Inv cs sm → GW D cy ad (AW cy u gi cs aM sm) A s H locs → lv_has ls 4 [(0, .ref b), (1, .ref (u 0 0)), (2, .ref (aM 0)), (3, .int (nI i))] → W p l e room_1 s m #[Value.ref b] below meth c H locs lwC lwS (lw_Z below #[Value.ref b] s) (F0 m 915 ls []) := by
  intro cs sm u gi H locs ls hI hW hl
  have hi1 : vp_in (nI i + 1) L := lw_in (j := 1) (by omega) (by omega)
  obtain ⟨a1, ea1⟩ : ∃ y : Int32, y = xs (Int32.toNatClampNeg (nI i + 1)) := ⟨_, rfl⟩
  refine lv_aload_n hC.1 hC.2.1 dL_law_915 rfl (lv_at hl 1 rfl) ?_
  refine lv_aload_n hC.1 hC.2.1 dL_law_916 rfl (lv_at hl 0 rfl) ?_
  refine lv_iload_n hC.1 hC.2.1 dL_law_917 rfl (lv_at hl 3 rfl) ?_
  refine lv_iconst (v := 1) hC.1 hC.2.1 dL_law_918 (by decide) ?_
  refine lv_iadd hC.1 hC.2.1 dL_law_919 ?_
  refine va_sld hC.1 hC.2.1 hX hbl hbA hW.2.2.2.1 hi1 dL_law_920 ?_
  refine lv_nmi ea1 ?_
  obtain ⟨r, SK, sm1, hf11, hf12, hI1⟩ := hS cs sm a1 hI 
  refine g_calliV (w' := AW cy u gi (va_up cs 6 SK) aM sm) hC hW (c11_hunt l D cy ad (u 0) (u 3) (u 1) (u 8) (u 9) (u 15) (u 16) (u 10) (u 5) (u 6) (u 7) (u 11) (u 12) (u 13) (u 14) hf11) (cwV 1 hC.2.2.2.2.1 gL_law_X11_hunt rfl rfl rfl hdV11_hunt ⟨Nat.le_of_ble_eq_true rfl, Nat.le_of_ble_eq_true rfl⟩) (Sub.takeL _ _ (Sub.skipL _ (Sub.skipL _ (Sub.skipL _ (Sub.skipL _ (Sub.skipL _ (Sub.takeL _ _ (Sub.skipL _ (Sub.takeL _ _ (Sub.skipL _ (Sub.takeLast _ _ _))))))))))) 0 10 rfl rfl rfl rfl hl.1 rfl (Nat.le_of_ble_eq_true rfl) dL_law_921 lwRm (fun H locs hW => ?_)
  refine lv_aload_n hC.1 hC.2.1 dL_law_924 rfl (lv_at hl 2 rfl) ?_
  refine lv_aload_n hC.1 hC.2.1 dL_law_925 rfl (lv_at hl 0 rfl) ?_
  refine lv_iload_n hC.1 hC.2.1 dL_law_926 rfl (lv_at hl 3 rfl) ?_
  refine lv_iconst (v := 1) hC.1 hC.2.1 dL_law_927 (by decide) ?_
  refine lv_iadd hC.1 hC.2.1 dL_law_928 ?_
  refine va_sld hC.1 hC.2.1 hX hbl hbA hW.2.2.2.1 hi1 dL_law_929 ?_
  refine lv_nmi ea1 ?_
  refine g_calliV (w' := AW cy u gi (va_up cs 6 SK) aM sm1) hC hW (c12_hunt l D cy ad aM hf12) (cwV 1 hC.2.2.2.2.1 gL_law_X12_hunt rfl rfl rfl hdV12_hunt ⟨Nat.le_of_ble_eq_true rfl, Nat.le_of_ble_eq_true rfl⟩) (Sub.skipL _ (Sub.skipL _ (Sub.skipL _ (Sub.skipL _ (Sub.skipL _ (Sub.skipL _ (Sub.skipL _ (Sub.skipL _ (Sub.skipL _ (Sub.skipL _ (Sub.skipL _ (Sub.skipL _ (Sub.skipL _ (Sub.skipL _ (Sub.skipL _ (Sub.skipL _ (Sub.skipL _ (Sub.all _ _)))))))))))))))))) 0 11 rfl rfl rfl rfl hl.1 rfl (Nat.le_of_ble_eq_true rfl) dL_law_930 lwRm (fun H locs hW => ?_)
  refine lv_icmp_eq (tgt := 1165) hC.1 hC.2.1 dL_law_933 (by decide) (fun _ => ?_) (fun hc => absurd rfl hc)
  exact next _ _ u gi H locs ls hI1 hW hl
set_option maxRecDepth 100000 in
set_option maxHeartbeats 8000000 in
theorem law_same (hC : Cx p s m #[Value.ref b] meth c code 4 wsL_law RL ret) (hX : va_X b L xs s s.heap) (hbl : b < s.heap.size) (hbA : ¬ A b) (hL : L ≤ 3584) (hi : i + 7 ≤ L) (hS : St_same Inv) (next : ∀ (cs : Nat → Ob) (sm : Ob) (u : Nat → Nat → Nat) (gi : Value) (H : Heap) (locs : List Loc) (ls : Array Slot), Inv cs sm → GW D cy ad (AW cy u gi cs aM sm) A s H locs → lv_has ls 4 [(0, .ref b), (1, .ref (u 0 0)), (2, .ref (aM 0)), (3, .int (nI i))] → W p l e room_1 s m #[Value.ref b] below meth c H locs lwC lwS (lw_Z below #[Value.ref b] s) (F0 m 1165 ls [])) : ∀ (cs : Nat → Ob) (sm : Ob) (u : Nat → Nat → Nat) (gi : Value) (H : Heap) (locs : List Loc) (ls : Array Slot), Inv cs sm → GW D cy ad (AW cy u gi cs aM sm) A s H locs → lv_has ls 4 [(0, .ref b), (1, .ref (u 0 0)), (2, .ref (aM 0)), (3, .int (nI i))] → W p l e room_1 s m #[Value.ref b] below meth c H locs lwC lwS (lw_Z below #[Value.ref b] s) (F0 m 938 ls []) := by
  intro cs sm u gi H locs ls hI hW hl
  have hi1 : vp_in (nI i + 1) L := lw_in (j := 1) (by omega) (by omega)
  obtain ⟨a1, ea1⟩ : ∃ y : Int32, y = xs (Int32.toNatClampNeg (nI i + 1)) := ⟨_, rfl⟩
  refine lv_aload_n hC.1 hC.2.1 dL_law_938 rfl (lv_at hl 1 rfl) ?_
  refine lv_aload_n hC.1 hC.2.1 dL_law_939 rfl (lv_at hl 0 rfl) ?_
  refine lv_iload_n hC.1 hC.2.1 dL_law_940 rfl (lv_at hl 3 rfl) ?_
  refine lv_iconst (v := 1) hC.1 hC.2.1 dL_law_941 (by decide) ?_
  refine lv_iadd hC.1 hC.2.1 dL_law_942 ?_
  refine va_sld hC.1 hC.2.1 hX hbl hbA hW.2.2.2.1 hi1 dL_law_943 ?_
  refine lv_nmi ea1 ?_
  obtain ⟨r, sm1, hf11, hf12, hI1⟩ := hS cs sm a1 hI 
  refine g_calliV (w' := AW cy u gi cs aM sm) hC hW (c11_same l D cy ad (u 0) (u 3) (u 1) (u 8) (u 9) (u 15) (u 16) (u 10) (u 5) (u 6) (u 7) (u 11) (u 12) (u 13) (u 14) hf11) (cwV 1 hC.2.2.2.2.1 gL_law_X11_same rfl rfl rfl hdV11_same ⟨Nat.le_of_ble_eq_true rfl, Nat.le_of_ble_eq_true rfl⟩) (Sub.takeL _ _ (Sub.skipL _ (Sub.skipL _ (Sub.skipL _ (Sub.skipL _ (Sub.skipL _ (Sub.skipL _ (Sub.skipL _ (Sub.takeL _ _ (Sub.skipL _ (Sub.takeLast _ _ _))))))))))) 0 10 rfl rfl rfl rfl hl.1 rfl (Nat.le_of_ble_eq_true rfl) dL_law_944 lwRm (fun H locs hW => ?_)
  refine lv_aload_n hC.1 hC.2.1 dL_law_947 rfl (lv_at hl 2 rfl) ?_
  refine lv_aload_n hC.1 hC.2.1 dL_law_948 rfl (lv_at hl 0 rfl) ?_
  refine lv_iload_n hC.1 hC.2.1 dL_law_949 rfl (lv_at hl 3 rfl) ?_
  refine lv_iconst (v := 1) hC.1 hC.2.1 dL_law_950 (by decide) ?_
  refine lv_iadd hC.1 hC.2.1 dL_law_951 ?_
  refine va_sld hC.1 hC.2.1 hX hbl hbA hW.2.2.2.1 hi1 dL_law_952 ?_
  refine lv_nmi ea1 ?_
  refine g_calliV (w' := AW cy u gi cs aM sm1) hC hW (c12_same l D cy ad aM hf12) (cwV 1 hC.2.2.2.2.1 gL_law_X12_same rfl rfl rfl hdV12_same ⟨Nat.le_of_ble_eq_true rfl, Nat.le_of_ble_eq_true rfl⟩) (Sub.skipL _ (Sub.skipL _ (Sub.skipL _ (Sub.skipL _ (Sub.skipL _ (Sub.skipL _ (Sub.skipL _ (Sub.skipL _ (Sub.skipL _ (Sub.skipL _ (Sub.skipL _ (Sub.skipL _ (Sub.skipL _ (Sub.skipL _ (Sub.skipL _ (Sub.skipL _ (Sub.skipL _ (Sub.all _ _)))))))))))))))))) 0 11 rfl rfl rfl rfl hl.1 rfl (Nat.le_of_ble_eq_true rfl) dL_law_953 lwRm (fun H locs hW => ?_)
  refine lv_icmp_eq (tgt := 1165) hC.1 hC.2.1 dL_law_956 (by decide) (fun _ => ?_) (fun hc => absurd rfl hc)
  exact next _ _ u gi H locs ls hI1 hW hl
set_option maxRecDepth 100000 in
set_option maxHeartbeats 8000000 in
theorem law_bill (hC : Cx p s m #[Value.ref b] meth c code 4 wsL_law RL ret) (hX : va_X b L xs s s.heap) (hbl : b < s.heap.size) (hbA : ¬ A b) (hL : L ≤ 3584) (hi : i + 7 ≤ L) (hS : St_bill Inv) (next : ∀ (cs : Nat → Ob) (sm : Ob) (u : Nat → Nat → Nat) (gi : Value) (H : Heap) (locs : List Loc) (ls : Array Slot), Inv cs sm → GW D cy ad (AW cy u gi cs aM sm) A s H locs → lv_has ls 4 [(0, .ref b), (1, .ref (u 0 0)), (2, .ref (aM 0)), (3, .int (nI i))] → W p l e room_1 s m #[Value.ref b] below meth c H locs lwC lwS (lw_Z below #[Value.ref b] s) (F0 m 1165 ls [])) : ∀ (cs : Nat → Ob) (sm : Ob) (u : Nat → Nat → Nat) (gi : Value) (H : Heap) (locs : List Loc) (ls : Array Slot), Inv cs sm → GW D cy ad (AW cy u gi cs aM sm) A s H locs → lv_has ls 4 [(0, .ref b), (1, .ref (u 0 0)), (2, .ref (aM 0)), (3, .int (nI i))] → W p l e room_1 s m #[Value.ref b] below meth c H locs lwC lwS (lw_Z below #[Value.ref b] s) (F0 m 961 ls []) := by
  intro cs sm u gi H locs ls hI hW hl
  have hi1 : vp_in (nI i + 1) L := lw_in (j := 1) (by omega) (by omega)
  obtain ⟨a1, ea1⟩ : ∃ y : Int32, y = xs (Int32.toNatClampNeg (nI i + 1)) := ⟨_, rfl⟩
  have hi2 : vp_in (nI i + 2) L := lw_in (j := 2) (by omega) (by omega)
  obtain ⟨a2, ea2⟩ : ∃ y : Int32, y = xs (Int32.toNatClampNeg (nI i + 2)) := ⟨_, rfl⟩
  refine lv_aload_n hC.1 hC.2.1 dL_law_961 rfl (lv_at hl 1 rfl) ?_
  refine lv_aload_n hC.1 hC.2.1 dL_law_962 rfl (lv_at hl 0 rfl) ?_
  refine lv_iload_n hC.1 hC.2.1 dL_law_963 rfl (lv_at hl 3 rfl) ?_
  refine lv_iconst (v := 1) hC.1 hC.2.1 dL_law_964 (by decide) ?_
  refine lv_iadd hC.1 hC.2.1 dL_law_965 ?_
  refine va_sld hC.1 hC.2.1 hX hbl hbA hW.2.2.2.1 hi1 dL_law_966 ?_
  refine lv_nmi ea1 ?_
  refine lv_aload_n hC.1 hC.2.1 dL_law_967 rfl (lv_at hl 0 rfl) ?_
  refine lv_iload_n hC.1 hC.2.1 dL_law_968 rfl (lv_at hl 3 rfl) ?_
  refine lv_iconst (v := 2) hC.1 hC.2.1 dL_law_969 (by decide) ?_
  refine lv_iadd hC.1 hC.2.1 dL_law_970 ?_
  refine va_sld hC.1 hC.2.1 hX hbl hbA hW.2.2.2.1 hi2 dL_law_971 ?_
  refine lv_nmi ea2 ?_
  obtain ⟨r, sm1, hf11, hf12, hI1⟩ := hS cs sm a1 a2 hI 
  refine g_calliV (w' := AW cy u gi cs aM sm) hC hW (c11_bill l D cy ad (u 0) (u 3) (u 1) (u 8) (u 9) (u 15) (u 16) (u 10) (u 5) (u 6) (u 7) (u 11) (u 12) (u 13) (u 14) hf11) (cwV 2 hC.2.2.2.2.1 gL_law_X11_bill rfl rfl rfl hdV11_bill ⟨Nat.le_of_ble_eq_true rfl, Nat.le_of_ble_eq_true rfl⟩) (Sub.takeL _ _ (Sub.skipL _ (Sub.skipL _ (Sub.skipL _ (Sub.skipL _ (Sub.skipL _ (Sub.skipL _ (Sub.skipL _ (Sub.takeLast _ _ _))))))))) 0 10 rfl rfl rfl rfl hl.1 rfl (Nat.le_of_ble_eq_true rfl) dL_law_972 lwRm (fun H locs hW => ?_)
  refine lv_aload_n hC.1 hC.2.1 dL_law_975 rfl (lv_at hl 2 rfl) ?_
  refine lv_aload_n hC.1 hC.2.1 dL_law_976 rfl (lv_at hl 0 rfl) ?_
  refine lv_iload_n hC.1 hC.2.1 dL_law_977 rfl (lv_at hl 3 rfl) ?_
  refine lv_iconst (v := 1) hC.1 hC.2.1 dL_law_978 (by decide) ?_
  refine lv_iadd hC.1 hC.2.1 dL_law_979 ?_
  refine va_sld hC.1 hC.2.1 hX hbl hbA hW.2.2.2.1 hi1 dL_law_980 ?_
  refine lv_nmi ea1 ?_
  refine lv_aload_n hC.1 hC.2.1 dL_law_981 rfl (lv_at hl 0 rfl) ?_
  refine lv_iload_n hC.1 hC.2.1 dL_law_982 rfl (lv_at hl 3 rfl) ?_
  refine lv_iconst (v := 2) hC.1 hC.2.1 dL_law_983 (by decide) ?_
  refine lv_iadd hC.1 hC.2.1 dL_law_984 ?_
  refine va_sld hC.1 hC.2.1 hX hbl hbA hW.2.2.2.1 hi2 dL_law_985 ?_
  refine lv_nmi ea2 ?_
  refine g_calliV (w' := AW cy u gi cs aM sm1) hC hW (c12_bill l D cy ad aM hf12) (cwV 2 hC.2.2.2.2.1 gL_law_X12_bill rfl rfl rfl hdV12_bill ⟨Nat.le_of_ble_eq_true rfl, Nat.le_of_ble_eq_true rfl⟩) (Sub.skipL _ (Sub.skipL _ (Sub.skipL _ (Sub.skipL _ (Sub.skipL _ (Sub.skipL _ (Sub.skipL _ (Sub.skipL _ (Sub.skipL _ (Sub.skipL _ (Sub.skipL _ (Sub.skipL _ (Sub.skipL _ (Sub.skipL _ (Sub.skipL _ (Sub.skipL _ (Sub.skipL _ (Sub.all _ _)))))))))))))))))) 0 11 rfl rfl rfl rfl hl.1 rfl (Nat.le_of_ble_eq_true rfl) dL_law_986 lwRm (fun H locs hW => ?_)
  refine lv_icmp_eq (tgt := 1165) hC.1 hC.2.1 dL_law_989 (by decide) (fun _ => ?_) (fun hc => absurd rfl hc)
  exact next _ _ u gi H locs ls hI1 hW hl
set_option maxRecDepth 100000 in
set_option maxHeartbeats 8000000 in
theorem law_beds (hC : Cx p s m #[Value.ref b] meth c code 4 wsL_law RL ret) (hX : va_X b L xs s s.heap) (hbl : b < s.heap.size) (hbA : ¬ A b) (hL : L ≤ 3584) (hi : i + 7 ≤ L) (hS : St_beds Inv) (next : ∀ (cs : Nat → Ob) (sm : Ob) (u : Nat → Nat → Nat) (gi : Value) (H : Heap) (locs : List Loc) (ls : Array Slot), Inv cs sm → GW D cy ad (AW cy u gi cs aM sm) A s H locs → lv_has ls 4 [(0, .ref b), (1, .ref (u 0 0)), (2, .ref (aM 0)), (3, .int (nI i))] → W p l e room_1 s m #[Value.ref b] below meth c H locs lwC lwS (lw_Z below #[Value.ref b] s) (F0 m 1165 ls [])) : ∀ (cs : Nat → Ob) (sm : Ob) (u : Nat → Nat → Nat) (gi : Value) (H : Heap) (locs : List Loc) (ls : Array Slot), Inv cs sm → GW D cy ad (AW cy u gi cs aM sm) A s H locs → lv_has ls 4 [(0, .ref b), (1, .ref (u 0 0)), (2, .ref (aM 0)), (3, .int (nI i))] → W p l e room_1 s m #[Value.ref b] below meth c H locs lwC lwS (lw_Z below #[Value.ref b] s) (F0 m 994 ls []) := by
  intro cs sm u gi H locs ls hI hW hl
  have hi1 : vp_in (nI i + 1) L := lw_in (j := 1) (by omega) (by omega)
  obtain ⟨a1, ea1⟩ : ∃ y : Int32, y = xs (Int32.toNatClampNeg (nI i + 1)) := ⟨_, rfl⟩
  refine lv_aload_n hC.1 hC.2.1 dL_law_994 rfl (lv_at hl 1 rfl) ?_
  refine lv_aload_n hC.1 hC.2.1 dL_law_995 rfl (lv_at hl 0 rfl) ?_
  refine lv_iload_n hC.1 hC.2.1 dL_law_996 rfl (lv_at hl 3 rfl) ?_
  refine lv_iconst (v := 1) hC.1 hC.2.1 dL_law_997 (by decide) ?_
  refine lv_iadd hC.1 hC.2.1 dL_law_998 ?_
  refine va_sld hC.1 hC.2.1 hX hbl hbA hW.2.2.2.1 hi1 dL_law_999 ?_
  refine lv_nmi ea1 ?_
  obtain ⟨r, SL, sm1, hf11, hf12, hI1⟩ := hS cs sm a1 hI 
  refine g_calliV (w' := AW cy u gi (va_up cs 7 SL) aM sm) hC hW (c11_beds l D cy ad (u 0) (u 3) (u 1) (u 8) (u 9) (u 15) (u 16) (u 10) (u 5) (u 6) (u 7) (u 11) (u 12) (u 13) (u 14) hf11) (cwV 1 hC.2.2.2.2.1 gL_law_X11_beds rfl rfl rfl hdV11_beds ⟨Nat.le_of_ble_eq_true rfl, Nat.le_of_ble_eq_true rfl⟩) (Sub.takeL _ _ (Sub.skipL _ (Sub.skipL _ (Sub.skipL _ (Sub.skipL _ (Sub.skipL _ (Sub.skipL _ (Sub.takeL _ _ (Sub.takeLast _ _ _))))))))) 0 10 rfl rfl rfl rfl hl.1 rfl (Nat.le_of_ble_eq_true rfl) dL_law_1000 lwRm (fun H locs hW => ?_)
  refine lv_aload_n hC.1 hC.2.1 dL_law_1003 rfl (lv_at hl 2 rfl) ?_
  refine lv_aload_n hC.1 hC.2.1 dL_law_1004 rfl (lv_at hl 0 rfl) ?_
  refine lv_iload_n hC.1 hC.2.1 dL_law_1005 rfl (lv_at hl 3 rfl) ?_
  refine lv_iconst (v := 1) hC.1 hC.2.1 dL_law_1006 (by decide) ?_
  refine lv_iadd hC.1 hC.2.1 dL_law_1007 ?_
  refine va_sld hC.1 hC.2.1 hX hbl hbA hW.2.2.2.1 hi1 dL_law_1008 ?_
  refine lv_nmi ea1 ?_
  refine g_calliV (w' := AW cy u gi (va_up cs 7 SL) aM sm1) hC hW (c12_beds l D cy ad aM hf12) (cwV 1 hC.2.2.2.2.1 gL_law_X12_beds rfl rfl rfl hdV12_beds ⟨Nat.le_of_ble_eq_true rfl, Nat.le_of_ble_eq_true rfl⟩) (Sub.skipL _ (Sub.skipL _ (Sub.skipL _ (Sub.skipL _ (Sub.skipL _ (Sub.skipL _ (Sub.skipL _ (Sub.skipL _ (Sub.skipL _ (Sub.skipL _ (Sub.skipL _ (Sub.skipL _ (Sub.skipL _ (Sub.skipL _ (Sub.skipL _ (Sub.skipL _ (Sub.skipL _ (Sub.all _ _)))))))))))))))))) 0 11 rfl rfl rfl rfl hl.1 rfl (Nat.le_of_ble_eq_true rfl) dL_law_1009 lwRm (fun H locs hW => ?_)
  refine lv_icmp_eq (tgt := 1165) hC.1 hC.2.1 dL_law_1012 (by decide) (fun _ => ?_) (fun hc => absurd rfl hc)
  exact next _ _ u gi H locs ls hI1 hW hl
set_option maxRecDepth 100000 in
set_option maxHeartbeats 8000000 in
theorem law_watch (hC : Cx p s m #[Value.ref b] meth c code 4 wsL_law RL ret) (hX : va_X b L xs s s.heap) (hbl : b < s.heap.size) (hbA : ¬ A b) (hL : L ≤ 3584) (hi : i + 7 ≤ L) (hS : St_watch Inv) (next : ∀ (cs : Nat → Ob) (sm : Ob) (u : Nat → Nat → Nat) (gi : Value) (H : Heap) (locs : List Loc) (ls : Array Slot), Inv cs sm → GW D cy ad (AW cy u gi cs aM sm) A s H locs → lv_has ls 4 [(0, .ref b), (1, .ref (u 0 0)), (2, .ref (aM 0)), (3, .int (nI i))] → W p l e room_1 s m #[Value.ref b] below meth c H locs lwC lwS (lw_Z below #[Value.ref b] s) (F0 m 1165 ls [])) : ∀ (cs : Nat → Ob) (sm : Ob) (u : Nat → Nat → Nat) (gi : Value) (H : Heap) (locs : List Loc) (ls : Array Slot), Inv cs sm → GW D cy ad (AW cy u gi cs aM sm) A s H locs → lv_has ls 4 [(0, .ref b), (1, .ref (u 0 0)), (2, .ref (aM 0)), (3, .int (nI i))] → W p l e room_1 s m #[Value.ref b] below meth c H locs lwC lwS (lw_Z below #[Value.ref b] s) (F0 m 1017 ls []) := by
  intro cs sm u gi H locs ls hI hW hl
  have hi1 : vp_in (nI i + 1) L := lw_in (j := 1) (by omega) (by omega)
  obtain ⟨a1, ea1⟩ : ∃ y : Int32, y = xs (Int32.toNatClampNeg (nI i + 1)) := ⟨_, rfl⟩
  have hi2 : vp_in (nI i + 2) L := lw_in (j := 2) (by omega) (by omega)
  obtain ⟨a2, ea2⟩ : ∃ y : Int32, y = xs (Int32.toNatClampNeg (nI i + 2)) := ⟨_, rfl⟩
  refine lv_aload_n hC.1 hC.2.1 dL_law_1017 rfl (lv_at hl 1 rfl) ?_
  refine lv_aload_n hC.1 hC.2.1 dL_law_1018 rfl (lv_at hl 0 rfl) ?_
  refine lv_iload_n hC.1 hC.2.1 dL_law_1019 rfl (lv_at hl 3 rfl) ?_
  refine lv_iconst (v := 1) hC.1 hC.2.1 dL_law_1020 (by decide) ?_
  refine lv_iadd hC.1 hC.2.1 dL_law_1021 ?_
  refine va_sld hC.1 hC.2.1 hX hbl hbA hW.2.2.2.1 hi1 dL_law_1022 ?_
  refine lv_nmi ea1 ?_
  refine lv_aload_n hC.1 hC.2.1 dL_law_1023 rfl (lv_at hl 0 rfl) ?_
  refine lv_iload_n hC.1 hC.2.1 dL_law_1024 rfl (lv_at hl 3 rfl) ?_
  refine lv_iconst (v := 2) hC.1 hC.2.1 dL_law_1025 (by decide) ?_
  refine lv_iadd hC.1 hC.2.1 dL_law_1026 ?_
  refine va_sld hC.1 hC.2.1 hX hbl hbA hW.2.2.2.1 hi2 dL_law_1027 ?_
  refine lv_nmi ea2 ?_
  obtain ⟨r, SL, sm1, hf11, hf12, hI1⟩ := hS cs sm a1 a2 hI 
  refine g_calliV (w' := AW cy u gi (va_up cs 7 SL) aM sm) hC hW (c11_watch l D cy ad (u 0) (u 3) (u 1) (u 8) (u 9) (u 15) (u 16) (u 10) (u 5) (u 6) (u 7) (u 11) (u 12) (u 13) (u 14) hf11) (cwV 2 hC.2.2.2.2.1 gL_law_X11_watch rfl rfl rfl hdV11_watch ⟨Nat.le_of_ble_eq_true rfl, Nat.le_of_ble_eq_true rfl⟩) (Sub.takeL _ _ (Sub.skipL _ (Sub.skipL _ (Sub.skipL _ (Sub.skipL _ (Sub.skipL _ (Sub.skipL _ (Sub.takeL _ _ (Sub.takeLast _ _ _))))))))) 0 10 rfl rfl rfl rfl hl.1 rfl (Nat.le_of_ble_eq_true rfl) dL_law_1028 lwRm (fun H locs hW => ?_)
  refine lv_aload_n hC.1 hC.2.1 dL_law_1031 rfl (lv_at hl 2 rfl) ?_
  refine lv_aload_n hC.1 hC.2.1 dL_law_1032 rfl (lv_at hl 0 rfl) ?_
  refine lv_iload_n hC.1 hC.2.1 dL_law_1033 rfl (lv_at hl 3 rfl) ?_
  refine lv_iconst (v := 1) hC.1 hC.2.1 dL_law_1034 (by decide) ?_
  refine lv_iadd hC.1 hC.2.1 dL_law_1035 ?_
  refine va_sld hC.1 hC.2.1 hX hbl hbA hW.2.2.2.1 hi1 dL_law_1036 ?_
  refine lv_nmi ea1 ?_
  refine lv_aload_n hC.1 hC.2.1 dL_law_1037 rfl (lv_at hl 0 rfl) ?_
  refine lv_iload_n hC.1 hC.2.1 dL_law_1038 rfl (lv_at hl 3 rfl) ?_
  refine lv_iconst (v := 2) hC.1 hC.2.1 dL_law_1039 (by decide) ?_
  refine lv_iadd hC.1 hC.2.1 dL_law_1040 ?_
  refine va_sld hC.1 hC.2.1 hX hbl hbA hW.2.2.2.1 hi2 dL_law_1041 ?_
  refine lv_nmi ea2 ?_
  refine g_calliV (w' := AW cy u gi (va_up cs 7 SL) aM sm1) hC hW (c12_watch l D cy ad aM hf12) (cwV 2 hC.2.2.2.2.1 gL_law_X12_watch rfl rfl rfl hdV12_watch ⟨Nat.le_of_ble_eq_true rfl, Nat.le_of_ble_eq_true rfl⟩) (Sub.skipL _ (Sub.skipL _ (Sub.skipL _ (Sub.skipL _ (Sub.skipL _ (Sub.skipL _ (Sub.skipL _ (Sub.skipL _ (Sub.skipL _ (Sub.skipL _ (Sub.skipL _ (Sub.skipL _ (Sub.skipL _ (Sub.skipL _ (Sub.skipL _ (Sub.skipL _ (Sub.skipL _ (Sub.all _ _)))))))))))))))))) 0 11 rfl rfl rfl rfl hl.1 rfl (Nat.le_of_ble_eq_true rfl) dL_law_1042 lwRm (fun H locs hW => ?_)
  refine lv_icmp_eq (tgt := 1165) hC.1 hC.2.1 dL_law_1045 (by decide) (fun _ => ?_) (fun hc => absurd rfl hc)
  exact next _ _ u gi H locs ls hI1 hW hl
set_option maxRecDepth 100000 in
set_option maxHeartbeats 8000000 in
theorem law_years (hC : Cx p s m #[Value.ref b] meth c code 4 wsL_law RL ret) (hX : va_X b L xs s s.heap) (hbl : b < s.heap.size) (hbA : ¬ A b) (hL : L ≤ 3584) (hi : i + 7 ≤ L) (hS : St_years Inv) (next : ∀ (cs : Nat → Ob) (sm : Ob) (u : Nat → Nat → Nat) (gi : Value) (H : Heap) (locs : List Loc) (ls : Array Slot), Inv cs sm → GW D cy ad (AW cy u gi cs aM sm) A s H locs → lv_has ls 4 [(0, .ref b), (1, .ref (u 0 0)), (2, .ref (aM 0)), (3, .int (nI i))] → W p l e room_1 s m #[Value.ref b] below meth c H locs lwC lwS (lw_Z below #[Value.ref b] s) (F0 m 1165 ls [])) : ∀ (cs : Nat → Ob) (sm : Ob) (u : Nat → Nat → Nat) (gi : Value) (H : Heap) (locs : List Loc) (ls : Array Slot), Inv cs sm → GW D cy ad (AW cy u gi cs aM sm) A s H locs → lv_has ls 4 [(0, .ref b), (1, .ref (u 0 0)), (2, .ref (aM 0)), (3, .int (nI i))] → W p l e room_1 s m #[Value.ref b] below meth c H locs lwC lwS (lw_Z below #[Value.ref b] s) (F0 m 1050 ls []) := by
  intro cs sm u gi H locs ls hI hW hl
  have hi1 : vp_in (nI i + 1) L := lw_in (j := 1) (by omega) (by omega)
  obtain ⟨a1, ea1⟩ : ∃ y : Int32, y = xs (Int32.toNatClampNeg (nI i + 1)) := ⟨_, rfl⟩
  have hi2 : vp_in (nI i + 2) L := lw_in (j := 2) (by omega) (by omega)
  obtain ⟨a2, ea2⟩ : ∃ y : Int32, y = xs (Int32.toNatClampNeg (nI i + 2)) := ⟨_, rfl⟩
  have hi3 : vp_in (nI i + 3) L := lw_in (j := 3) (by omega) (by omega)
  obtain ⟨a3, ea3⟩ : ∃ y : Int32, y = xs (Int32.toNatClampNeg (nI i + 3)) := ⟨_, rfl⟩
  refine lv_aload_n hC.1 hC.2.1 dL_law_1050 rfl (lv_at hl 1 rfl) ?_
  refine lv_aload_n hC.1 hC.2.1 dL_law_1051 rfl (lv_at hl 0 rfl) ?_
  refine lv_iload_n hC.1 hC.2.1 dL_law_1052 rfl (lv_at hl 3 rfl) ?_
  refine lv_iconst (v := 1) hC.1 hC.2.1 dL_law_1053 (by decide) ?_
  refine lv_iadd hC.1 hC.2.1 dL_law_1054 ?_
  refine va_sld hC.1 hC.2.1 hX hbl hbA hW.2.2.2.1 hi1 dL_law_1055 ?_
  refine lv_nmi ea1 ?_
  refine lv_aload_n hC.1 hC.2.1 dL_law_1056 rfl (lv_at hl 0 rfl) ?_
  refine lv_iload_n hC.1 hC.2.1 dL_law_1057 rfl (lv_at hl 3 rfl) ?_
  refine lv_iconst (v := 2) hC.1 hC.2.1 dL_law_1058 (by decide) ?_
  refine lv_iadd hC.1 hC.2.1 dL_law_1059 ?_
  refine va_sld hC.1 hC.2.1 hX hbl hbA hW.2.2.2.1 hi2 dL_law_1060 ?_
  refine lv_nmi ea2 ?_
  refine lv_aload_n hC.1 hC.2.1 dL_law_1061 rfl (lv_at hl 0 rfl) ?_
  refine lv_iload_n hC.1 hC.2.1 dL_law_1062 rfl (lv_at hl 3 rfl) ?_
  refine lv_iconst (v := 3) hC.1 hC.2.1 dL_law_1063 (by decide) ?_
  refine lv_iadd hC.1 hC.2.1 dL_law_1064 ?_
  refine va_sld hC.1 hC.2.1 hX hbl hbA hW.2.2.2.1 hi3 dL_law_1065 ?_
  refine lv_nmi ea3 ?_
  obtain ⟨r, sm1, hf11, hf12, hI1⟩ := hS cs sm a1 a2 a3 hI 
  refine g_calliV (w' := AW cy u gi cs aM sm) hC hW (c11_years l D cy ad (u 0) (u 3) (u 1) (u 8) (u 9) (u 15) (u 16) (u 10) (u 5) (u 6) (u 7) (u 11) (u 12) (u 13) (u 14) hf11) (cwV 3 hC.2.2.2.2.1 gL_law_X11_years rfl rfl rfl hdV11_years ⟨Nat.le_of_ble_eq_true rfl, Nat.le_of_ble_eq_true rfl⟩) (Sub.takeL _ _ (Sub.skipL _ (Sub.skipL _ (Sub.skipL _ (Sub.skipL _ (Sub.skipL _ (Sub.skipL _ (Sub.skipL _ (Sub.takeLast _ _ _))))))))) 0 10 rfl rfl rfl rfl hl.1 rfl (Nat.le_of_ble_eq_true rfl) dL_law_1066 lwRm (fun H locs hW => ?_)
  refine lv_aload_n hC.1 hC.2.1 dL_law_1069 rfl (lv_at hl 2 rfl) ?_
  refine lv_aload_n hC.1 hC.2.1 dL_law_1070 rfl (lv_at hl 0 rfl) ?_
  refine lv_iload_n hC.1 hC.2.1 dL_law_1071 rfl (lv_at hl 3 rfl) ?_
  refine lv_iconst (v := 1) hC.1 hC.2.1 dL_law_1072 (by decide) ?_
  refine lv_iadd hC.1 hC.2.1 dL_law_1073 ?_
  refine va_sld hC.1 hC.2.1 hX hbl hbA hW.2.2.2.1 hi1 dL_law_1074 ?_
  refine lv_nmi ea1 ?_
  refine lv_aload_n hC.1 hC.2.1 dL_law_1075 rfl (lv_at hl 0 rfl) ?_
  refine lv_iload_n hC.1 hC.2.1 dL_law_1076 rfl (lv_at hl 3 rfl) ?_
  refine lv_iconst (v := 2) hC.1 hC.2.1 dL_law_1077 (by decide) ?_
  refine lv_iadd hC.1 hC.2.1 dL_law_1078 ?_
  refine va_sld hC.1 hC.2.1 hX hbl hbA hW.2.2.2.1 hi2 dL_law_1079 ?_
  refine lv_nmi ea2 ?_
  refine lv_aload_n hC.1 hC.2.1 dL_law_1080 rfl (lv_at hl 0 rfl) ?_
  refine lv_iload_n hC.1 hC.2.1 dL_law_1081 rfl (lv_at hl 3 rfl) ?_
  refine lv_iconst (v := 3) hC.1 hC.2.1 dL_law_1082 (by decide) ?_
  refine lv_iadd hC.1 hC.2.1 dL_law_1083 ?_
  refine va_sld hC.1 hC.2.1 hX hbl hbA hW.2.2.2.1 hi3 dL_law_1084 ?_
  refine lv_nmi ea3 ?_
  refine g_calliV (w' := AW cy u gi cs aM sm1) hC hW (c12_years l D cy ad aM hf12) (cwV 3 hC.2.2.2.2.1 gL_law_X12_years rfl rfl rfl hdV12_years ⟨Nat.le_of_ble_eq_true rfl, Nat.le_of_ble_eq_true rfl⟩) (Sub.skipL _ (Sub.skipL _ (Sub.skipL _ (Sub.skipL _ (Sub.skipL _ (Sub.skipL _ (Sub.skipL _ (Sub.skipL _ (Sub.skipL _ (Sub.skipL _ (Sub.skipL _ (Sub.skipL _ (Sub.skipL _ (Sub.skipL _ (Sub.skipL _ (Sub.skipL _ (Sub.skipL _ (Sub.all _ _)))))))))))))))))) 0 11 rfl rfl rfl rfl hl.1 rfl (Nat.le_of_ble_eq_true rfl) dL_law_1085 lwRm (fun H locs hW => ?_)
  refine lv_icmp_eq (tgt := 1165) hC.1 hC.2.1 dL_law_1088 (by decide) (fun _ => ?_) (fun hc => absurd rfl hc)
  exact next _ _ u gi H locs ls hI1 hW hl
set_option maxRecDepth 100000 in
set_option maxHeartbeats 8000000 in
theorem law_mark (hC : Cx p s m #[Value.ref b] meth c code 4 wsL_law RL ret) (hX : va_X b L xs s s.heap) (hbl : b < s.heap.size) (hbA : ¬ A b) (hL : L ≤ 3584) (hi : i + 7 ≤ L) (hS : St_mark Inv) (next : ∀ (cs : Nat → Ob) (sm : Ob) (u : Nat → Nat → Nat) (gi : Value) (H : Heap) (locs : List Loc) (ls : Array Slot), Inv cs sm → GW D cy ad (AW cy u gi cs aM sm) A s H locs → lv_has ls 4 [(0, .ref b), (1, .ref (u 0 0)), (2, .ref (aM 0)), (3, .int (nI i))] → W p l e room_1 s m #[Value.ref b] below meth c H locs lwC lwS (lw_Z below #[Value.ref b] s) (F0 m 1165 ls [])) : ∀ (cs : Nat → Ob) (sm : Ob) (u : Nat → Nat → Nat) (gi : Value) (H : Heap) (locs : List Loc) (ls : Array Slot), Inv cs sm → GW D cy ad (AW cy u gi cs aM sm) A s H locs → lv_has ls 4 [(0, .ref b), (1, .ref (u 0 0)), (2, .ref (aM 0)), (3, .int (nI i))] → W p l e room_1 s m #[Value.ref b] below meth c H locs lwC lwS (lw_Z below #[Value.ref b] s) (F0 m 1093 ls []) := by
  intro cs sm u gi H locs ls hI hW hl
  have hi1 : vp_in (nI i + 1) L := lw_in (j := 1) (by omega) (by omega)
  obtain ⟨a1, ea1⟩ : ∃ y : Int32, y = xs (Int32.toNatClampNeg (nI i + 1)) := ⟨_, rfl⟩
  have hi2 : vp_in (nI i + 2) L := lw_in (j := 2) (by omega) (by omega)
  obtain ⟨a2, ea2⟩ : ∃ y : Int32, y = xs (Int32.toNatClampNeg (nI i + 2)) := ⟨_, rfl⟩
  refine lv_aload_n hC.1 hC.2.1 dL_law_1093 rfl (lv_at hl 1 rfl) ?_
  refine lv_aload_n hC.1 hC.2.1 dL_law_1094 rfl (lv_at hl 0 rfl) ?_
  refine lv_iload_n hC.1 hC.2.1 dL_law_1095 rfl (lv_at hl 3 rfl) ?_
  refine lv_iconst (v := 1) hC.1 hC.2.1 dL_law_1096 (by decide) ?_
  refine lv_iadd hC.1 hC.2.1 dL_law_1097 ?_
  refine va_sld hC.1 hC.2.1 hX hbl hbA hW.2.2.2.1 hi1 dL_law_1098 ?_
  refine lv_nmi ea1 ?_
  refine lv_aload_n hC.1 hC.2.1 dL_law_1099 rfl (lv_at hl 0 rfl) ?_
  refine lv_iload_n hC.1 hC.2.1 dL_law_1100 rfl (lv_at hl 3 rfl) ?_
  refine lv_iconst (v := 2) hC.1 hC.2.1 dL_law_1101 (by decide) ?_
  refine lv_iadd hC.1 hC.2.1 dL_law_1102 ?_
  refine va_sld hC.1 hC.2.1 hX hbl hbA hW.2.2.2.1 hi2 dL_law_1103 ?_
  refine lv_nmi ea2 ?_
  refine lv_if_eq (tgt := 1111) hC.1 hC.2.1 dL_law_1104 (by decide) (fun hz1 => ?_) (fun hz1 => ?_)
  · refine lv_iconst (v := 0) hC.1 hC.2.1 dL_law_1111 (by decide) ?_
    obtain ⟨r, SX, SB, SE0, SE1, SE2, SE3, sm1, hf11, hf12, hI1⟩ := hS cs sm a1 0 hI (Or.inl rfl)
    refine g_calliV (w' := AW cy u gi (va_up (va_up (va_up (va_up (va_up (va_up cs 0 SX) 10 SB) 11 SE0) 12 SE1) 13 SE2) 14 SE3) aM sm) hC hW (c11_mark l D cy ad (u 0) (u 3) (u 1) (u 8) (u 9) (u 15) (u 16) (u 10) (u 5) (u 6) (u 7) (u 11) (u 12) (u 13) (u 14) hf11) (cwV 2 hC.2.2.2.2.1 gL_law_X11_mark rfl rfl rfl hdV11_mark ⟨Nat.le_of_ble_eq_true rfl, Nat.le_of_ble_eq_true rfl⟩) (Sub.takeL _ _ (Sub.skipL _ (Sub.skipL _ (Sub.skipL _ (Sub.skipL _ (Sub.skipL _ (Sub.skipL _ (Sub.skipL _ (Sub.skipL _ (Sub.skipL _ (Sub.takeL _ _ (Sub.takeL _ _ (Sub.takeL _ _ (Sub.takeL _ _ (Sub.takeLast _ _ _))))))))))))))) 0 10 rfl rfl rfl rfl hl.1 rfl (Nat.le_of_ble_eq_true rfl) dL_law_1112 lwRm (fun H locs hW => ?_)
    refine lv_aload_n hC.1 hC.2.1 dL_law_1115 rfl (lv_at hl 2 rfl) ?_
    refine lv_aload_n hC.1 hC.2.1 dL_law_1116 rfl (lv_at hl 0 rfl) ?_
    refine lv_iload_n hC.1 hC.2.1 dL_law_1117 rfl (lv_at hl 3 rfl) ?_
    refine lv_iconst (v := 1) hC.1 hC.2.1 dL_law_1118 (by decide) ?_
    refine lv_iadd hC.1 hC.2.1 dL_law_1119 ?_
    refine va_sld hC.1 hC.2.1 hX hbl hbA hW.2.2.2.1 hi1 dL_law_1120 ?_
    refine lv_nmi ea1 ?_
    refine lv_aload_n hC.1 hC.2.1 dL_law_1121 rfl (lv_at hl 0 rfl) ?_
    refine lv_iload_n hC.1 hC.2.1 dL_law_1122 rfl (lv_at hl 3 rfl) ?_
    refine lv_iconst (v := 2) hC.1 hC.2.1 dL_law_1123 (by decide) ?_
    refine lv_iadd hC.1 hC.2.1 dL_law_1124 ?_
    refine va_sld hC.1 hC.2.1 hX hbl hbA hW.2.2.2.1 hi2 dL_law_1125 ?_
    refine lv_nmi ea2 ?_
    refine lv_if_eq (tgt := 1133) hC.1 hC.2.1 dL_law_1126 (by decide) (fun _ => ?_) (fun hc => absurd hz1 hc)
    refine lv_iconst (v := 0) hC.1 hC.2.1 dL_law_1133 (by decide) ?_
    refine g_calliV (w' := AW cy u gi (va_up (va_up (va_up (va_up (va_up (va_up cs 0 SX) 10 SB) 11 SE0) 12 SE1) 13 SE2) 14 SE3) aM sm1) hC hW (c12_mark l D cy ad aM hf12) (cwV 2 hC.2.2.2.2.1 gL_law_X12_mark rfl rfl rfl hdV12_mark ⟨Nat.le_of_ble_eq_true rfl, Nat.le_of_ble_eq_true rfl⟩) (Sub.skipL _ (Sub.skipL _ (Sub.skipL _ (Sub.skipL _ (Sub.skipL _ (Sub.skipL _ (Sub.skipL _ (Sub.skipL _ (Sub.skipL _ (Sub.skipL _ (Sub.skipL _ (Sub.skipL _ (Sub.skipL _ (Sub.skipL _ (Sub.skipL _ (Sub.skipL _ (Sub.skipL _ (Sub.all _ _)))))))))))))))))) 0 11 rfl rfl rfl rfl hl.1 rfl (Nat.le_of_ble_eq_true rfl) dL_law_1134 lwRm (fun H locs hW => ?_)
    refine lv_icmp_eq (tgt := 1165) hC.1 hC.2.1 dL_law_1137 (by decide) (fun _ => ?_) (fun hc => absurd rfl hc)
    exact next _ _ u gi H locs ls hI1 hW hl
  · refine lv_iconst (v := 1) hC.1 hC.2.1 dL_law_1107 (by decide) ?_
    refine lv_goto (tgt := 1112) hC.1 hC.2.1 dL_law_1108 (by decide) ?_
    obtain ⟨r, SX, SB, SE0, SE1, SE2, SE3, sm1, hf11, hf12, hI1⟩ := hS cs sm a1 1 hI (Or.inr rfl)
    refine g_calliV (w' := AW cy u gi (va_up (va_up (va_up (va_up (va_up (va_up cs 0 SX) 10 SB) 11 SE0) 12 SE1) 13 SE2) 14 SE3) aM sm) hC hW (c11_mark l D cy ad (u 0) (u 3) (u 1) (u 8) (u 9) (u 15) (u 16) (u 10) (u 5) (u 6) (u 7) (u 11) (u 12) (u 13) (u 14) hf11) (cwV 2 hC.2.2.2.2.1 gL_law_X11_mark rfl rfl rfl hdV11_mark ⟨Nat.le_of_ble_eq_true rfl, Nat.le_of_ble_eq_true rfl⟩) (Sub.takeL _ _ (Sub.skipL _ (Sub.skipL _ (Sub.skipL _ (Sub.skipL _ (Sub.skipL _ (Sub.skipL _ (Sub.skipL _ (Sub.skipL _ (Sub.skipL _ (Sub.takeL _ _ (Sub.takeL _ _ (Sub.takeL _ _ (Sub.takeL _ _ (Sub.takeLast _ _ _))))))))))))))) 0 10 rfl rfl rfl rfl hl.1 rfl (Nat.le_of_ble_eq_true rfl) dL_law_1112 lwRm (fun H locs hW => ?_)
    refine lv_aload_n hC.1 hC.2.1 dL_law_1115 rfl (lv_at hl 2 rfl) ?_
    refine lv_aload_n hC.1 hC.2.1 dL_law_1116 rfl (lv_at hl 0 rfl) ?_
    refine lv_iload_n hC.1 hC.2.1 dL_law_1117 rfl (lv_at hl 3 rfl) ?_
    refine lv_iconst (v := 1) hC.1 hC.2.1 dL_law_1118 (by decide) ?_
    refine lv_iadd hC.1 hC.2.1 dL_law_1119 ?_
    refine va_sld hC.1 hC.2.1 hX hbl hbA hW.2.2.2.1 hi1 dL_law_1120 ?_
    refine lv_nmi ea1 ?_
    refine lv_aload_n hC.1 hC.2.1 dL_law_1121 rfl (lv_at hl 0 rfl) ?_
    refine lv_iload_n hC.1 hC.2.1 dL_law_1122 rfl (lv_at hl 3 rfl) ?_
    refine lv_iconst (v := 2) hC.1 hC.2.1 dL_law_1123 (by decide) ?_
    refine lv_iadd hC.1 hC.2.1 dL_law_1124 ?_
    refine va_sld hC.1 hC.2.1 hX hbl hbA hW.2.2.2.1 hi2 dL_law_1125 ?_
    refine lv_nmi ea2 ?_
    refine lv_if_eq (tgt := 1133) hC.1 hC.2.1 dL_law_1126 (by decide) (fun hc => absurd hc hz1) (fun _ => ?_)
    refine lv_iconst (v := 1) hC.1 hC.2.1 dL_law_1129 (by decide) ?_
    refine lv_goto (tgt := 1134) hC.1 hC.2.1 dL_law_1130 (by decide) ?_
    refine g_calliV (w' := AW cy u gi (va_up (va_up (va_up (va_up (va_up (va_up cs 0 SX) 10 SB) 11 SE0) 12 SE1) 13 SE2) 14 SE3) aM sm1) hC hW (c12_mark l D cy ad aM hf12) (cwV 2 hC.2.2.2.2.1 gL_law_X12_mark rfl rfl rfl hdV12_mark ⟨Nat.le_of_ble_eq_true rfl, Nat.le_of_ble_eq_true rfl⟩) (Sub.skipL _ (Sub.skipL _ (Sub.skipL _ (Sub.skipL _ (Sub.skipL _ (Sub.skipL _ (Sub.skipL _ (Sub.skipL _ (Sub.skipL _ (Sub.skipL _ (Sub.skipL _ (Sub.skipL _ (Sub.skipL _ (Sub.skipL _ (Sub.skipL _ (Sub.skipL _ (Sub.skipL _ (Sub.all _ _)))))))))))))))))) 0 11 rfl rfl rfl rfl hl.1 rfl (Nat.le_of_ble_eq_true rfl) dL_law_1134 lwRm (fun H locs hW => ?_)
    refine lv_icmp_eq (tgt := 1165) hC.1 hC.2.1 dL_law_1137 (by decide) (fun _ => ?_) (fun hc => absurd rfl hc)
    exact next _ _ u gi H locs ls hI1 hW hl
set_option maxRecDepth 100000 in
set_option maxHeartbeats 8000000 in
theorem law_count (hC : Cx p s m #[Value.ref b] meth c code 4 wsL_law RL ret) (hX : va_X b L xs s s.heap) (hbl : b < s.heap.size) (hbA : ¬ A b) (hL : L ≤ 3584) (hi : i + 7 ≤ L) (hS : St_count Inv) (next : ∀ (cs : Nat → Ob) (sm : Ob) (u : Nat → Nat → Nat) (gi : Value) (H : Heap) (locs : List Loc) (ls : Array Slot), Inv cs sm → GW D cy ad (AW cy u gi cs aM sm) A s H locs → lv_has ls 4 [(0, .ref b), (1, .ref (u 0 0)), (2, .ref (aM 0)), (3, .int (nI i))] → W p l e room_1 s m #[Value.ref b] below meth c H locs lwC lwS (lw_Z below #[Value.ref b] s) (F0 m 1165 ls [])) : ∀ (cs : Nat → Ob) (sm : Ob) (u : Nat → Nat → Nat) (gi : Value) (H : Heap) (locs : List Loc) (ls : Array Slot), Inv cs sm → GW D cy ad (AW cy u gi cs aM sm) A s H locs → lv_has ls 4 [(0, .ref b), (1, .ref (u 0 0)), (2, .ref (aM 0)), (3, .int (nI i))] → W p l e room_1 s m #[Value.ref b] below meth c H locs lwC lwS (lw_Z below #[Value.ref b] s) (F0 m 1142 ls []) := by
  intro cs sm u gi H locs ls hI hW hl
  have hi1 : vp_in (nI i + 1) L := lw_in (j := 1) (by omega) (by omega)
  obtain ⟨a1, ea1⟩ : ∃ y : Int32, y = xs (Int32.toNatClampNeg (nI i + 1)) := ⟨_, rfl⟩
  refine lv_aload_n hC.1 hC.2.1 dL_law_1142 rfl (lv_at hl 1 rfl) ?_
  refine lv_aload_n hC.1 hC.2.1 dL_law_1143 rfl (lv_at hl 0 rfl) ?_
  refine lv_iload_n hC.1 hC.2.1 dL_law_1144 rfl (lv_at hl 3 rfl) ?_
  refine lv_iconst (v := 1) hC.1 hC.2.1 dL_law_1145 (by decide) ?_
  refine lv_iadd hC.1 hC.2.1 dL_law_1146 ?_
  refine va_sld hC.1 hC.2.1 hX hbl hbA hW.2.2.2.1 hi1 dL_law_1147 ?_
  refine lv_nmi ea1 ?_
  obtain ⟨r, sm1, hf11, hf12, hI1⟩ := hS cs sm a1 hI 
  refine g_calliV (w' := AW cy u gi cs aM sm) hC hW (c11_count l D cy ad (u 0) (u 3) (u 1) (u 8) (u 9) (u 15) (u 16) (u 10) (u 5) (u 6) (u 7) (u 11) (u 12) (u 13) (u 14) hf11) (cwV 1 hC.2.2.2.2.1 gL_law_X11_count rfl rfl rfl hdV11_count ⟨Nat.le_of_ble_eq_true rfl, Nat.le_of_ble_eq_true rfl⟩) (Sub.takeL _ _ (Sub.skipL _ (Sub.skipL _ (Sub.takeL _ _ (Sub.skipL _ (Sub.skipL _ (Sub.skipL _ (Sub.skipL _ (Sub.takeL _ _ (Sub.skipL _ (Sub.takeL _ _ (Sub.skipL _ (Sub.skipL _ (Sub.skipL _ (Sub.skipL _ (Sub.takeLast _ _ _)))))))))))))))) 0 10 rfl rfl rfl rfl hl.1 rfl (Nat.le_of_ble_eq_true rfl) dL_law_1148 lwRm (fun H locs hW => ?_)
  refine lv_aload_n hC.1 hC.2.1 dL_law_1151 rfl (lv_at hl 2 rfl) ?_
  refine lv_aload_n hC.1 hC.2.1 dL_law_1152 rfl (lv_at hl 0 rfl) ?_
  refine lv_iload_n hC.1 hC.2.1 dL_law_1153 rfl (lv_at hl 3 rfl) ?_
  refine lv_iconst (v := 1) hC.1 hC.2.1 dL_law_1154 (by decide) ?_
  refine lv_iadd hC.1 hC.2.1 dL_law_1155 ?_
  refine va_sld hC.1 hC.2.1 hX hbl hbA hW.2.2.2.1 hi1 dL_law_1156 ?_
  refine lv_nmi ea1 ?_
  refine g_calliV (w' := AW cy u gi cs aM sm1) hC hW (c12_count l D cy ad aM hf12) (cwV 1 hC.2.2.2.2.1 gL_law_X12_count rfl rfl rfl hdV12_count ⟨Nat.le_of_ble_eq_true rfl, Nat.le_of_ble_eq_true rfl⟩) (Sub.skipL _ (Sub.skipL _ (Sub.skipL _ (Sub.skipL _ (Sub.skipL _ (Sub.skipL _ (Sub.skipL _ (Sub.skipL _ (Sub.skipL _ (Sub.skipL _ (Sub.skipL _ (Sub.skipL _ (Sub.skipL _ (Sub.skipL _ (Sub.skipL _ (Sub.skipL _ (Sub.skipL _ (Sub.all _ _)))))))))))))))))) 0 11 rfl rfl rfl rfl hl.1 rfl (Nat.le_of_ble_eq_true rfl) dL_law_1157 lwRm (fun H locs hW => ?_)
  refine lv_icmp_eq (tgt := 1165) hC.1 hC.2.1 dL_law_1160 (by decide) (fun _ => ?_) (fun hc => absurd rfl hc)
  exact next _ _ u gi H locs ls hI1 hW hl
end
